/-! X5_run  -/
set_option maxRecDepth 100000 in
def b_X5_run_60 (n : Nat)  (v0 : Nat)  (h : gi_H) : Option (Int × gi_H) :=
  Option.bind (gi_is h v0 4) fun _ => Option.bind (f_X5_worthOfTree n v0 h) fun q20 => Option.bind (gi_is q20.2 v0 4) fun _ => Option.bind (f_X10_keepWorth_4 v0 q20.1 q20.2) fun q22 => some ((-1 : Int), q22)
set_option maxRecDepth 100000 in
theorem zb_X5_run_60 {al : Bool} {n : Nat}  {res : Int} {h1 : gi_H}  {v0 : Nat}  {h : gi_H} (e : b_X5_run_60 n v0 h = some (res, h1)) : gx_Z mX5_run al al 0 0 60 [(0, .ref v0)] [] (gi_cv h) (.inl (some (.int (gI res)))) (gi_cv h1) := by
  refine gx_aload_n dX5_run_60 rfl 0 rfl ?_
  refine gx_aload_n dX5_run_61 rfl 0 rfl ?_
  refine gx_bE e (fun _ hu19 e => ?_)
  refine gx_bE e (fun q20 hq20 e => ?_)
  refine gx_callV (n := 0) (st := [.ref v0]) (As := []) (b := v0) dX5_run_62 (z_X5_worthOfTree hq20) rfl ⟨rfl, gw_cw_X5_worthOfTree, gw_9, gp_X5_worthOfTree, ⟨Nat.le_of_ble_eq_true rfl, Nat.le_of_ble_eq_true rfl⟩⟩ (gi_isS hu19) (by decide) gw_1189 gw_1191 gs_47 rfl ⟨Nat.le_of_ble_eq_true rfl, Nat.le_of_ble_eq_true rfl⟩ (Nat.le_of_ble_eq_true rfl) (gy_k1 (x := .int (gI q20.1)) (kc2 := 0) (ks2 := 0) ⟨rfl, rfl⟩ ?_) gy_kn
  refine gx_bE e (fun _ hu21 e => ?_)
  refine gx_bE e (fun q22 hq22 e => ?_)
  refine gx_callU (n := 1) (st := []) (As := [.int (gI q20.1)]) (b := v0) dX5_run_65 (z_X10_keepWorth_4 hq22) rfl ⟨rfl, gw_cw_X10_keepWorth, gw_8, gp_X10_keepWorth, ⟨Nat.le_of_ble_eq_true rfl, Nat.le_of_ble_eq_true rfl⟩⟩ (gi_isS hu21) (by decide) (x := ⟨"Grammarsmith$PredictiveTable", "keepWorth", "(I)V"⟩) (owner := "Grammarsmith$Table") gw_1205 gw_1206 gw_1208 gw_1209 rfl (by decide +kernel) ⟨Nat.le_of_ble_eq_true rfl, Nat.le_of_ble_eq_true rfl⟩ (Nat.le_of_ble_eq_true rfl) (gy_k0 (kc2 := 0) (ks2 := 0) ⟨rfl, rfl⟩ ?_) gy_kn
  refine gy_iconst dX5_run_68 ?_
  cases e
  exact gx_iret dX5_run_69 rfl ⟨Nat.le_of_ble_eq_true rfl, Nat.le_of_ble_eq_true rfl⟩ (fun z => z)
set_option maxRecDepth 100000 in
def b_X5_run_165 (n : Nat) (r31 : Nat → Int → Int → gi_H → Option (Int × gi_H)) (v0 : Nat) (v1 : Int) (v2 : Int)  (h : gi_H) : Option (Int × gi_H) :=
  gx_nm (v2 + (1 : Int)) fun t37 => r31 v0 v1 t37 h
set_option maxRecDepth 100000 in
theorem zb_X5_run_165 {al : Bool} {n : Nat} {r31 : Nat → Int → Int → gi_H → Option (Int × gi_H)} {res : Int} {h1 : gi_H} (hr31 : ∀ (x0 : Nat) (x1 : Int) (x2 : Int) (hh : gi_H), r31 x0 x1 x2 hh = some (res, h1) → gx_Z mX5_run al al 0 0 31 [(0, .ref x0), (1, .int (gI x1)), (2, .int (gI x2))] [] (gi_cv hh) (.inl (some (.int (gI res)))) (gi_cv h1)) {v0 : Nat} {v1 : Int} {v2 : Int}  {h : gi_H} (e : b_X5_run_165 n r31 v0 v1 v2 h = some (res, h1)) : gx_Z mX5_run al al 0 0 165 [(0, .ref v0), (1, .int (gI v1)), (2, .int (gI v2))] [] (gi_cv h) (.inl (some (.int (gI res)))) (gi_cv h1) := by
  refine gx_nE e (fun t37 ht37 e => ?_)
  refine gy_iinc (v := t37) (ls2 := [(2, .int (gI t37)), (0, .ref v0), (1, .int (gI v1))]) dX5_run_165 2 rfl ht37 (Nat.le_of_ble_eq_true rfl) rfl ?_
  refine gx_goto (tgt := 31) dX5_run_168 (by decide) ?_
  refine gx_sub (ls2 := [(0, .ref v0), (1, .int (gI v1)), (2, .int (gI t37))]) [1, 2, 0] rfl ?_
  exact hr31 _ _ _ _ e
set_option maxRecDepth 100000 in
def b_X5_run_163 (n : Nat) (r31 : Nat → Int → Int → gi_H → Option (Int × gi_H)) (v0 : Nat) (v2 : Int) (s0 : Int) (s1 : Int) (h : gi_H) : Option (Int × gi_H) :=
  gx_nm (s0 + s1) fun t44 => b_X5_run_165 n r31 v0 t44 v2 h
set_option maxRecDepth 100000 in
theorem zb_X5_run_163 {al : Bool} {n : Nat} {r31 : Nat → Int → Int → gi_H → Option (Int × gi_H)} {res : Int} {h1 : gi_H} (hr31 : ∀ (x0 : Nat) (x1 : Int) (x2 : Int) (hh : gi_H), r31 x0 x1 x2 hh = some (res, h1) → gx_Z mX5_run al al 0 0 31 [(0, .ref x0), (1, .int (gI x1)), (2, .int (gI x2))] [] (gi_cv hh) (.inl (some (.int (gI res)))) (gi_cv h1)) {v0 : Nat} {v2 : Int} {s0 : Int} {s1 : Int} {h : gi_H} (e : b_X5_run_163 n r31 v0 v2 s0 s1 h = some (res, h1)) : gx_Z mX5_run al al 0 0 163 [(0, .ref v0), (2, .int (gI v2))] [.int (gI s1), .int (gI s0)] (gi_cv h) (.inl (some (.int (gI res)))) (gi_cv h1) := by
  refine gy_iadd dX5_run_163 ?_
  refine gx_nE e (fun t44 ht44 e => ?_)
  rw [ht44]
  refine gx_istore_n (ls2 := [(1, .int (gI t44)), (0, .ref v0), (2, .int (gI v2))]) dX5_run_164 rfl (Nat.le_of_ble_eq_true rfl) rfl ?_
  refine gx_sub (ls2 := [(0, .ref v0), (1, .int (gI t44)), (2, .int (gI v2))]) [1, 0, 2] rfl ?_
  exact zb_X5_run_165 hr31 e
set_option maxRecDepth 100000 in
def b_X5_run_134 (n : Nat) (r31 : Nat → Int → Int → gi_H → Option (Int × gi_H)) (v0 : Nat) (v1 : Int) (v2 : Int) (v5 : Int) (v6 : Int)  (h : gi_H) : Option (Int × gi_H) :=
  Option.bind (gi_rg v2) fun _ => if (300 : Int) ≤ v2 then (b_X5_run_165 n r31 v0 v1 v2 h) else (Option.bind (gi_is h v0 4) fun _ => Option.bind (f_X5_pop v0 h) fun q39 => Option.bind (gi_is q39.2 v0 4) fun _ => Option.bind (f_X5_apply n v0 v5 q39.2) fun q41 => Option.bind (gi_rg v6) fun _ => if v6 = 0 then (b_X5_run_163 n r31 v0 v2 v1 (0 : Int) q41) else (b_X5_run_163 n r31 v0 v2 v1 (1 : Int) q41))
set_option maxRecDepth 100000 in
theorem zb_X5_run_134 {al : Bool} {n : Nat} {r31 : Nat → Int → Int → gi_H → Option (Int × gi_H)} {res : Int} {h1 : gi_H} (hr31 : ∀ (x0 : Nat) (x1 : Int) (x2 : Int) (hh : gi_H), r31 x0 x1 x2 hh = some (res, h1) → gx_Z mX5_run al al 0 0 31 [(0, .ref x0), (1, .int (gI x1)), (2, .int (gI x2))] [] (gi_cv hh) (.inl (some (.int (gI res)))) (gi_cv h1)) {v0 : Nat} {v1 : Int} {v2 : Int} {v5 : Int} {v6 : Int}  {h : gi_H} (e : b_X5_run_134 n r31 v0 v1 v2 v5 v6 h = some (res, h1)) : gx_Z mX5_run al al 0 0 134 [(0, .ref v0), (1, .int (gI v1)), (2, .int (gI v2)), (5, .int (gI v5)), (6, .int (gI v6))] [] (gi_cv h) (.inl (some (.int (gI res)))) (gi_cv h1) := by
  refine gx_iload_n dX5_run_134 rfl 2 rfl ?_
  refine gy_sipush dX5_run_135 gcs_300 ?_
  refine gx_bE e (fun _ g35 e => ?_)
  refine gx_iE e (fun c36 e => ?_) (fun c36 e => ?_)
  · refine gy_icmp_ge (tgt := 165) (gi_rgS g35) (by decide) dX5_run_138 (by decide) (fun _ => ?_) (fun z => absurd c36 z)
    refine gx_sub (ls2 := [(0, .ref v0), (1, .int (gI v1)), (2, .int (gI v2))]) [0, 1, 2] rfl ?_
    exact zb_X5_run_165 hr31 e
  · refine gy_icmp_ge (tgt := 165) (gi_rgS g35) (by decide) dX5_run_138 (by decide) (fun z => absurd z c36) (fun _ => ?_)
    refine gx_aload_n dX5_run_141 rfl 0 rfl ?_
    refine gx_bE e (fun _ hu38 e => ?_)
    refine gx_bE e (fun q39 hq39 e => ?_)
    refine gx_callV (n := 0) (st := []) (As := []) (b := v0) dX5_run_142 (z_X5_pop hq39) rfl ⟨rfl, gw_cw_X5_pop, gw_9, gp_X5_pop, ⟨Nat.le_of_ble_eq_true rfl, Nat.le_of_ble_eq_true rfl⟩⟩ (gi_isS hu38) (by decide) gw_1197 gw_1199 gs_48 rfl ⟨Nat.le_of_ble_eq_true rfl, Nat.le_of_ble_eq_true rfl⟩ (Nat.le_of_ble_eq_true rfl) (gy_k1 (x := .int (gI q39.1)) (kc2 := 0) (ks2 := 0) ⟨rfl, rfl⟩ ?_) gy_kn
    refine gx_pop dX5_run_145 rfl ?_
    refine gx_aload_n dX5_run_146 rfl 0 rfl ?_
    refine gx_iload dX5_run_147 3 rfl ?_
    refine gx_bE e (fun _ hu40 e => ?_)
    refine gx_bE e (fun q41 hq41 e => ?_)
    refine gx_callV (n := 1) (st := []) (As := [.int (gI v5)]) (b := v0) dX5_run_149 (z_X5_apply hq41) rfl ⟨rfl, gw_cw_X5_apply, gw_9, gp_X5_apply, ⟨Nat.le_of_ble_eq_true rfl, Nat.le_of_ble_eq_true rfl⟩⟩ (gi_isS hu40) (by decide) gw_1216 gw_1218 gs_51 rfl ⟨Nat.le_of_ble_eq_true rfl, Nat.le_of_ble_eq_true rfl⟩ (Nat.le_of_ble_eq_true rfl) (gy_k0 (kc2 := 0) (ks2 := 0) ⟨rfl, rfl⟩ ?_) gy_kn
    refine gx_iload_n dX5_run_152 rfl 1 rfl ?_
    refine gx_iload dX5_run_153 4 rfl ?_
    refine gx_bE e (fun _ g42 e => ?_)
    refine gx_iE e (fun c43 e => ?_) (fun c43 e => ?_)
    · refine gy_if_eq (tgt := 162) (gi_rgS g42) dX5_run_155 (by decide) (fun _ => ?_) (fun z => absurd c43 z)
      refine gy_iconst dX5_run_162 ?_
      refine gx_sub (ls2 := [(0, .ref v0), (2, .int (gI v2))]) [0, 2] rfl ?_
      exact zb_X5_run_163 hr31 e
    · refine gy_if_eq (tgt := 162) (gi_rgS g42) dX5_run_155 (by decide) (fun z => absurd z c43) (fun _ => ?_)
      refine gy_iconst dX5_run_158 ?_
      refine gx_goto (tgt := 163) dX5_run_159 (by decide) ?_
      refine gx_sub (ls2 := [(0, .ref v0), (2, .int (gI v2))]) [0, 2] rfl ?_
      exact zb_X5_run_163 hr31 e
set_option maxRecDepth 100000 in
def b_X5_run_119 (n : Nat) (r31 : Nat → Int → Int → gi_H → Option (Int × gi_H)) (v0 : Nat) (v1 : Int) (v2 : Int) (v5 : Int) (s0 : Int) (h : gi_H) : Option (Int × gi_H) :=
  Option.bind (gi_rg s0) fun _ => if s0 = 0 then (Option.bind (gi_rg v5) fun _ => if v5 = (-1 : Int) then (some (v1, h)) else (b_X5_run_134 n r31 v0 v1 v2 v5 s0 h)) else (b_X5_run_134 n r31 v0 v1 v2 v5 s0 h)
set_option maxRecDepth 100000 in
theorem zb_X5_run_119 {al : Bool} {n : Nat} {r31 : Nat → Int → Int → gi_H → Option (Int × gi_H)} {res : Int} {h1 : gi_H} (hr31 : ∀ (x0 : Nat) (x1 : Int) (x2 : Int) (hh : gi_H), r31 x0 x1 x2 hh = some (res, h1) → gx_Z mX5_run al al 0 0 31 [(0, .ref x0), (1, .int (gI x1)), (2, .int (gI x2))] [] (gi_cv hh) (.inl (some (.int (gI res)))) (gi_cv h1)) {v0 : Nat} {v1 : Int} {v2 : Int} {v5 : Int} {s0 : Int} {h : gi_H} (e : b_X5_run_119 n r31 v0 v1 v2 v5 s0 h = some (res, h1)) : gx_Z mX5_run al al 0 0 119 [(0, .ref v0), (1, .int (gI v1)), (2, .int (gI v2)), (5, .int (gI v5))] [.int (gI s0)] (gi_cv h) (.inl (some (.int (gI res)))) (gi_cv h1) := by
  refine gx_istore (ls2 := [(6, .int (gI s0)), (0, .ref v0), (1, .int (gI v1)), (2, .int (gI v2)), (5, .int (gI v5))]) dX5_run_119 (Nat.le_of_ble_eq_true rfl) rfl ?_
  refine gx_iload dX5_run_121 0 rfl ?_
  refine gx_bE e (fun _ g31 e => ?_)
  refine gx_iE e (fun c32 e => ?_) (fun c32 e => ?_)
  · refine gy_if_ne (tgt := 134) (gi_rgS g31) dX5_run_123 (by decide) (fun z => absurd c32 z) (fun _ => ?_)
    refine gx_iload dX5_run_126 4 rfl ?_
    refine gy_iconst dX5_run_128 ?_
    refine gx_bE e (fun _ g33 e => ?_)
    refine gx_iE e (fun c34 e => ?_) (fun c34 e => ?_)
    · refine gy_icmp_ne (tgt := 134) (gi_rgS g33) (by decide) dX5_run_129 (by decide) (fun z => absurd c34 z) (fun _ => ?_)
      refine gx_iload_n dX5_run_132 rfl 2 rfl ?_
      cases e
      exact gx_iret dX5_run_133 rfl ⟨Nat.le_of_ble_eq_true rfl, Nat.le_of_ble_eq_true rfl⟩ (fun z => z)
    · refine gy_icmp_ne (tgt := 134) (gi_rgS g33) (by decide) dX5_run_129 (by decide) (fun _ => ?_) (fun z => absurd z c34)
      refine gx_sub (ls2 := [(0, .ref v0), (1, .int (gI v1)), (2, .int (gI v2)), (5, .int (gI v5)), (6, .int (gI s0))]) [1, 2, 3, 4, 0] rfl ?_
      exact zb_X5_run_134 hr31 e
  · refine gy_if_ne (tgt := 134) (gi_rgS g31) dX5_run_123 (by decide) (fun _ => ?_) (fun z => absurd z c32)
    refine gx_sub (ls2 := [(0, .ref v0), (1, .int (gI v1)), (2, .int (gI v2)), (5, .int (gI v5)), (6, .int (gI s0))]) [1, 2, 3, 4, 0] rfl ?_
    exact zb_X5_run_134 hr31 e
set_option maxRecDepth 100000 in
def b_X5_run_118 (n : Nat) (r31 : Nat → Int → Int → gi_H → Option (Int × gi_H)) (v0 : Nat) (v1 : Int) (v2 : Int) (v5 : Int)  (h : gi_H) : Option (Int × gi_H) :=
  b_X5_run_119 n r31 v0 v1 v2 v5 (0 : Int) h
set_option maxRecDepth 100000 in
theorem zb_X5_run_118 {al : Bool} {n : Nat} {r31 : Nat → Int → Int → gi_H → Option (Int × gi_H)} {res : Int} {h1 : gi_H} (hr31 : ∀ (x0 : Nat) (x1 : Int) (x2 : Int) (hh : gi_H), r31 x0 x1 x2 hh = some (res, h1) → gx_Z mX5_run al al 0 0 31 [(0, .ref x0), (1, .int (gI x1)), (2, .int (gI x2))] [] (gi_cv hh) (.inl (some (.int (gI res)))) (gi_cv h1)) {v0 : Nat} {v1 : Int} {v2 : Int} {v5 : Int}  {h : gi_H} (e : b_X5_run_118 n r31 v0 v1 v2 v5 h = some (res, h1)) : gx_Z mX5_run al al 0 0 118 [(0, .ref v0), (1, .int (gI v1)), (2, .int (gI v2)), (5, .int (gI v5))] [] (gi_cv h) (.inl (some (.int (gI res)))) (gi_cv h1) := by
  refine gy_iconst dX5_run_118 ?_
  exact zb_X5_run_119 hr31 e
set_option maxRecDepth 100000 in
def b_X5_run_98 (n : Nat) (r31 : Nat → Int → Int → gi_H → Option (Int × gi_H)) (v0 : Nat) (v1 : Int) (v2 : Int) (v3 : Int) (v4 : Int) (s0 : Int) (h : gi_H) : Option (Int × gi_H) :=
  Option.bind (f_X11_isTerminal v4 h) fun q28 => Option.bind (gi_rg q28) fun _ => if q28 = 0 then (b_X5_run_118 n r31 v0 v1 v2 s0 h) else (Option.bind (gi_rg v4) fun _ => Option.bind (gi_rg v3) fun _ => if v4 = v3 then (b_X5_run_119 n r31 v0 v1 v2 s0 (1 : Int) h) else (b_X5_run_118 n r31 v0 v1 v2 s0 h))
set_option maxRecDepth 100000 in
theorem zb_X5_run_98 {al : Bool} {n : Nat} {r31 : Nat → Int → Int → gi_H → Option (Int × gi_H)} {res : Int} {h1 : gi_H} (hr31 : ∀ (x0 : Nat) (x1 : Int) (x2 : Int) (hh : gi_H), r31 x0 x1 x2 hh = some (res, h1) → gx_Z mX5_run al al 0 0 31 [(0, .ref x0), (1, .int (gI x1)), (2, .int (gI x2))] [] (gi_cv hh) (.inl (some (.int (gI res)))) (gi_cv h1)) {v0 : Nat} {v1 : Int} {v2 : Int} {v3 : Int} {v4 : Int} {s0 : Int} {h : gi_H} (e : b_X5_run_98 n r31 v0 v1 v2 v3 v4 s0 h = some (res, h1)) : gx_Z mX5_run al al 0 0 98 [(0, .ref v0), (1, .int (gI v1)), (2, .int (gI v2)), (3, .int (gI v3)), (4, .int (gI v4))] [.int (gI s0)] (gi_cv h) (.inl (some (.int (gI res)))) (gi_cv h1) := by
  refine gx_istore (ls2 := [(5, .int (gI s0)), (0, .ref v0), (1, .int (gI v1)), (2, .int (gI v2)), (3, .int (gI v3)), (4, .int (gI v4))]) dX5_run_98 (Nat.le_of_ble_eq_true rfl) rfl ?_
  refine gx_iload dX5_run_100 5 rfl ?_
  refine gx_bE e (fun q28 hq28 e => ?_)
  refine gx_callSN (n := 1) (st := []) (As := [.int (gI v4)]) dX5_run_102 (z_X11_isTerminal hq28) rfl ⟨rfl, gw_cw_X11_isTerminal, gw_1, gp_X11_isTerminal, ⟨Nat.le_of_ble_eq_true rfl, Nat.le_of_ble_eq_true rfl⟩⟩ (host := "Grammarsmith") (by decide +kernel) gw_582 ⟨Nat.le_of_ble_eq_true rfl, Nat.le_of_ble_eq_true rfl⟩ (Nat.le_of_ble_eq_true rfl) (gy_k1 (x := .int (gI q28)) (kc2 := 0) (ks2 := 0) ⟨rfl, rfl⟩ ?_) gy_kn
  refine gx_bE e (fun _ g29 e => ?_)
  refine gx_iE e (fun c30 e => ?_) (fun c30 e => ?_)
  · refine gy_if_eq (tgt := 118) (gi_rgS g29) dX5_run_105 (by decide) (fun _ => ?_) (fun z => absurd c30 z)
    refine gx_sub (ls2 := [(0, .ref v0), (1, .int (gI v1)), (2, .int (gI v2)), (5, .int (gI s0))]) [1, 2, 3, 0] rfl ?_
    exact zb_X5_run_118 hr31 e
  · refine gy_if_eq (tgt := 118) (gi_rgS g29) dX5_run_105 (by decide) (fun z => absurd z c30) (fun _ => ?_)
    refine gx_iload dX5_run_108 5 rfl ?_
    refine gx_iload_n dX5_run_110 rfl 4 rfl ?_
    refine gx_bE e (fun _ g45 e => ?_)
    refine gx_bE e (fun _ g46 e => ?_)
    refine gx_iE e (fun c47 e => ?_) (fun c47 e => ?_)
    · refine gy_icmp_ne (tgt := 118) (gi_rgS g45) (gi_rgS g46) dX5_run_111 (by decide) (fun z => absurd c47 z) (fun _ => ?_)
      refine gy_iconst dX5_run_114 ?_
      refine gx_goto (tgt := 119) dX5_run_115 (by decide) ?_
      refine gx_sub (ls2 := [(0, .ref v0), (1, .int (gI v1)), (2, .int (gI v2)), (5, .int (gI s0))]) [1, 2, 3, 0] rfl ?_
      exact zb_X5_run_119 hr31 e
    · refine gy_icmp_ne (tgt := 118) (gi_rgS g45) (gi_rgS g46) dX5_run_111 (by decide) (fun _ => ?_) (fun z => absurd z c47)
      refine gx_sub (ls2 := [(0, .ref v0), (1, .int (gI v1)), (2, .int (gI v2)), (5, .int (gI s0))]) [1, 2, 3, 0] rfl ?_
      exact zb_X5_run_118 hr31 e
set_option maxRecDepth 100000 in
def b_X5_run_70 (n : Nat) (r31 : Nat → Int → Int → gi_H → Option (Int × gi_H)) (v0 : Nat) (v1 : Int) (v2 : Int) (v3 : Int)  (h : gi_H) : Option (Int × gi_H) :=
  Option.bind (gi_is h v0 4) fun _ => Option.bind (f_X5_next v0 h) fun q24 => Option.bind (f_X11_isNonterminal q24 h) fun q25 => Option.bind (gi_rg q25) fun _ => if q25 = 0 then (b_X5_run_98 n r31 v0 v1 v2 v3 q24 (-1 : Int) h) else (Option.bind (gi_is h v0 4) fun _ => Option.bind (f_X5_lowestIn n v0 (q24 - (16 : Int)) v3 h) fun q49 => b_X5_run_98 n r31 v0 v1 v2 v3 q24 q49 h)
set_option maxRecDepth 100000 in
theorem zb_X5_run_70 {al : Bool} {n : Nat} {r31 : Nat → Int → Int → gi_H → Option (Int × gi_H)} {res : Int} {h1 : gi_H} (hr31 : ∀ (x0 : Nat) (x1 : Int) (x2 : Int) (hh : gi_H), r31 x0 x1 x2 hh = some (res, h1) → gx_Z mX5_run al al 0 0 31 [(0, .ref x0), (1, .int (gI x1)), (2, .int (gI x2))] [] (gi_cv hh) (.inl (some (.int (gI res)))) (gi_cv h1)) {v0 : Nat} {v1 : Int} {v2 : Int} {v3 : Int}  {h : gi_H} (e : b_X5_run_70 n r31 v0 v1 v2 v3 h = some (res, h1)) : gx_Z mX5_run al al 0 0 70 [(0, .ref v0), (1, .int (gI v1)), (2, .int (gI v2)), (3, .int (gI v3))] [] (gi_cv h) (.inl (some (.int (gI res)))) (gi_cv h1) := by
  refine gx_aload_n dX5_run_70 rfl 0 rfl ?_
  refine gx_bE e (fun _ hu23 e => ?_)
  refine gx_bE e (fun q24 hq24 e => ?_)
  refine gx_callV (n := 0) (st := []) (As := []) (b := v0) dX5_run_71 (z_X5_next hq24) rfl ⟨rfl, gw_cw_X5_next, gw_9, gp_X5_next, ⟨Nat.le_of_ble_eq_true rfl, Nat.le_of_ble_eq_true rfl⟩⟩ (gi_isS hu23) (by decide) gw_1201 gw_1203 gs_49 rfl ⟨Nat.le_of_ble_eq_true rfl, Nat.le_of_ble_eq_true rfl⟩ (Nat.le_of_ble_eq_true rfl) (gy_k1 (x := .int (gI q24)) (kc2 := 0) (ks2 := 0) ⟨rfl, rfl⟩ ?_) gy_kn
  refine gx_istore (ls2 := [(4, .int (gI q24)), (0, .ref v0), (1, .int (gI v1)), (2, .int (gI v2)), (3, .int (gI v3))]) dX5_run_74 (Nat.le_of_ble_eq_true rfl) rfl ?_
  refine gx_iload dX5_run_76 0 rfl ?_
  refine gx_bE e (fun q25 hq25 e => ?_)
  refine gx_callSN (n := 1) (st := []) (As := [.int (gI q24)]) dX5_run_78 (z_X11_isNonterminal hq25) rfl ⟨rfl, gw_cw_X11_isNonterminal, gw_1, gp_X11_isNonterminal, ⟨Nat.le_of_ble_eq_true rfl, Nat.le_of_ble_eq_true rfl⟩⟩ (host := "Grammarsmith") (by decide +kernel) gw_438 ⟨Nat.le_of_ble_eq_true rfl, Nat.le_of_ble_eq_true rfl⟩ (Nat.le_of_ble_eq_true rfl) (gy_k1 (x := .int (gI q25)) (kc2 := 0) (ks2 := 0) ⟨rfl, rfl⟩ ?_) gy_kn
  refine gx_bE e (fun _ g26 e => ?_)
  refine gx_iE e (fun c27 e => ?_) (fun c27 e => ?_)
  · refine gy_if_eq (tgt := 97) (gi_rgS g26) dX5_run_81 (by decide) (fun _ => ?_) (fun z => absurd c27 z)
    refine gy_iconst dX5_run_97 ?_
    refine gx_sub (ls2 := [(0, .ref v0), (1, .int (gI v1)), (2, .int (gI v2)), (3, .int (gI v3)), (4, .int (gI q24))]) [1, 2, 3, 4, 0] rfl ?_
    exact zb_X5_run_98 hr31 e
  · refine gy_if_eq (tgt := 97) (gi_rgS g26) dX5_run_81 (by decide) (fun z => absurd z c27) (fun _ => ?_)
    refine gx_aload_n dX5_run_84 rfl 1 rfl ?_
    refine gx_iload dX5_run_85 0 rfl ?_
    refine gy_bipush dX5_run_87 gcb_16 ?_
    refine gy_isub dX5_run_89 ?_
    refine gx_iload_n dX5_run_90 rfl 4 rfl ?_
    refine gx_bE e (fun _ hu48 e => ?_)
    refine gx_bE e (fun q49 hq49 e => ?_)
    refine gx_callV (n := 2) (st := []) (As := [.int (gI (q24 - (16 : Int))), .int (gI v3)]) (b := v0) dX5_run_91 (z_X5_lowestIn hq49) rfl ⟨rfl, gw_cw_X5_lowestIn, gw_9, gp_X5_lowestIn, ⟨Nat.le_of_ble_eq_true rfl, Nat.le_of_ble_eq_true rfl⟩⟩ (gi_isS hu48) (by decide) gw_1212 gw_1214 gs_50 rfl ⟨Nat.le_of_ble_eq_true rfl, Nat.le_of_ble_eq_true rfl⟩ (Nat.le_of_ble_eq_true rfl) (gy_k1 (x := .int (gI q49)) (kc2 := 0) (ks2 := 0) ⟨rfl, rfl⟩ ?_) gy_kn
    refine gx_goto (tgt := 98) dX5_run_94 (by decide) ?_
    refine gx_sub (ls2 := [(0, .ref v0), (1, .int (gI v1)), (2, .int (gI v2)), (3, .int (gI v3)), (4, .int (gI q24))]) [1, 2, 3, 4, 0] rfl ?_
    exact zb_X5_run_98 hr31 e
set_option maxRecDepth 100000 in
def b_X5_run_31 (n : Nat) (r31 : Nat → Int → Int → gi_H → Option (Int × gi_H)) (v0 : Nat) (v1 : Int) (v2 : Int)  (h : gi_H) : Option (Int × gi_H) :=
  Option.bind (gi_rg v2) fun _ => if (300 : Int) < v2 then (some ((-3 : Int), h)) else (Option.bind (gi_gR h v0 4 2) fun t12 => Option.bind (f_X11_lookAt t12 v1 h) fun q13 => Option.bind (gi_gI h v0 4 4) fun t14 => Option.bind (gi_rg t14) fun _ => if t14 = 0 then (Option.bind (gi_rg q13) fun _ => if q13 = (8 : Int) then (b_X5_run_60 n  v0 h) else (b_X5_run_70 n r31 v0 v1 v2 q13 h)) else (b_X5_run_70 n r31 v0 v1 v2 q13 h))
set_option maxRecDepth 100000 in
theorem zb_X5_run_31 {al : Bool} {n : Nat} {r31 : Nat → Int → Int → gi_H → Option (Int × gi_H)} {res : Int} {h1 : gi_H} (hr31 : ∀ (x0 : Nat) (x1 : Int) (x2 : Int) (hh : gi_H), r31 x0 x1 x2 hh = some (res, h1) → gx_Z mX5_run al al 0 0 31 [(0, .ref x0), (1, .int (gI x1)), (2, .int (gI x2))] [] (gi_cv hh) (.inl (some (.int (gI res)))) (gi_cv h1)) {v0 : Nat} {v1 : Int} {v2 : Int}  {h : gi_H} (e : b_X5_run_31 n r31 v0 v1 v2 h = some (res, h1)) : gx_Z mX5_run al al 0 0 31 [(0, .ref v0), (1, .int (gI v1)), (2, .int (gI v2))] [] (gi_cv h) (.inl (some (.int (gI res)))) (gi_cv h1) := by
  refine gx_iload_n dX5_run_31 rfl 2 rfl ?_
  refine gy_sipush dX5_run_32 gcs_300 ?_
  refine gx_bE e (fun _ g10 e => ?_)
  refine gx_iE e (fun c11 e => ?_) (fun c11 e => ?_)
  · refine gy_icmp_gt (tgt := 171) (gi_rgS g10) (by decide) dX5_run_35 (by decide) (fun _ => ?_) (fun z => absurd c11 z)
    refine gy_bipush dX5_run_171 gcb_m3 ?_
    cases e
    exact gx_iret dX5_run_173 rfl ⟨Nat.le_of_ble_eq_true rfl, Nat.le_of_ble_eq_true rfl⟩ (fun z => z)
  · refine gy_icmp_gt (tgt := 171) (gi_rgS g10) (by decide) dX5_run_35 (by decide) (fun z => absurd z c11) (fun _ => ?_)
    refine gx_aload_n dX5_run_38 rfl 0 rfl ?_
    refine gx_bE e (fun t12 ht12 e => ?_)
    refine gy_fR ht12 dX5_run_39 gf_RX5_22_4_2 (by decide) gkN_4_2 gkR_4_2 ?_
    refine gx_iload_n dX5_run_42 rfl 1 rfl ?_
    refine gx_bE e (fun q13 hq13 e => ?_)
    refine gx_callSN (n := 2) (st := []) (As := [.ref t12, .int (gI v1)]) dX5_run_43 (z_X11_lookAt hq13) rfl ⟨rfl, gw_cw_X11_lookAt, gw_1, gp_X11_lookAt, ⟨Nat.le_of_ble_eq_true rfl, Nat.le_of_ble_eq_true rfl⟩⟩ (host := "Grammarsmith") (by decide +kernel) gw_1187 ⟨Nat.le_of_ble_eq_true rfl, Nat.le_of_ble_eq_true rfl⟩ (Nat.le_of_ble_eq_true rfl) (gy_k1 (x := .int (gI q13)) (kc2 := 0) (ks2 := 0) ⟨rfl, rfl⟩ ?_) gy_kn
    refine gx_istore_n (ls2 := [(3, .int (gI q13)), (0, .ref v0), (1, .int (gI v1)), (2, .int (gI v2))]) dX5_run_46 rfl (Nat.le_of_ble_eq_true rfl) rfl ?_
    refine gx_aload_n dX5_run_47 rfl 1 rfl ?_
    refine gx_bE e (fun t14 ht14 e => ?_)
    refine gy_fI ht14 dX5_run_48 gf_RX5_29_4_4 (by decide) gkN_4_4 gkR_4_4 ?_
    refine gx_bE e (fun _ g15 e => ?_)
    refine gx_iE e (fun c16 e => ?_) (fun c16 e => ?_)
    · refine gy_if_ne (tgt := 70) (gi_rgS g15) dX5_run_51 (by decide) (fun z => absurd c16 z) (fun _ => ?_)
      refine gx_iload_n dX5_run_54 rfl 0 rfl ?_
      refine gy_bipush dX5_run_55 gcb_8 ?_
      refine gx_bE e (fun _ g17 e => ?_)
      refine gx_iE e (fun c18 e => ?_) (fun c18 e => ?_)
      · refine gy_icmp_ne (tgt := 70) (gi_rgS g17) (by decide) dX5_run_57 (by decide) (fun z => absurd c18 z) (fun _ => ?_)
        refine gx_sub (ls2 := [(0, .ref v0)]) [1] rfl ?_
        exact zb_X5_run_60  e
      · refine gy_icmp_ne (tgt := 70) (gi_rgS g17) (by decide) dX5_run_57 (by decide) (fun _ => ?_) (fun z => absurd z c18)
        refine gx_sub (ls2 := [(0, .ref v0), (1, .int (gI v1)), (2, .int (gI v2)), (3, .int (gI q13))]) [1, 2, 3, 0] rfl ?_
        exact zb_X5_run_70 hr31 e
    · refine gy_if_ne (tgt := 70) (gi_rgS g15) dX5_run_51 (by decide) (fun _ => ?_) (fun z => absurd z c16)
      refine gx_sub (ls2 := [(0, .ref v0), (1, .int (gI v1)), (2, .int (gI v2)), (3, .int (gI q13))]) [1, 2, 3, 0] rfl ?_
      exact zb_X5_run_70 hr31 e
def l_X5_run_31 (n : Nat)  : Nat → Nat → Int → Int → gi_H → Option (Int × gi_H)
  | 0, _, _, _, _ => none
  | k + 1, v0, v1, v2, h => b_X5_run_31 n  (l_X5_run_31 n  k) v0 v1 v2 h
theorem zl_X5_run_31 {al : Bool} {n : Nat}  {res : Int} {h1 : gi_H}  : ∀ (k : Nat) (v0 : Nat) (v1 : Int) (v2 : Int) (h : gi_H), l_X5_run_31 n  k v0 v1 v2 h = some (res, h1) → gx_Z mX5_run al al 0 0 31 [(0, .ref v0), (1, .int (gI v1)), (2, .int (gI v2))] [] (gi_cv h) (.inl (some (.int (gI res)))) (gi_cv h1)
  | 0, _, _, _, _, e => gx_0E e
  | k + 1, _, _, _, _, e => zb_X5_run_31 (n := n)  (zl_X5_run_31  k) e
set_option maxRecDepth 100000 in
def f_X5_run (n : Nat) (v0 : Nat) (h : gi_H) : Option (Int × gi_H) :=
  Option.bind (gi_pI h v0 4 4 (0 : Int)) fun h1 => Option.bind (gi_pI h1 v0 4 6 (0 : Int)) fun h2 => Option.bind (gi_gR h2 v0 4 1) fun t3 => Option.bind (gi_is h2 t3 2) fun _ => Option.bind (f_X3_grammar t3 h2) fun q5 => Option.bind (gi_is h2 q5 3) fun _ => Option.bind (f_X4_top q5 h2) fun q7 => Option.bind (gi_is h2 v0 4) fun _ => Option.bind (f_X5_push v0 ((16 : Int) + q7) h2) fun q9 => l_X5_run_31 n  n v0 (0 : Int) (0 : Int) q9
set_option maxRecDepth 100000 in
theorem z_X5_run {al : Bool} {n : Nat} {v0 : Nat} {h : gi_H} {res : Int} {h1 : gi_H} (e : f_X5_run n v0 h = some (res, h1)) : gx_Cw mX5_run al [.ref v0] (gi_cv h) (.inl (some (.int (gI res)))) (gi_cv h1) := by
  refine gx_enter (by decide +kernel) rfl (Nat.le_of_ble_eq_true rfl) ?_
  show gx_Z mX5_run al al 0 0 0 [(0, .ref v0)] [] (gi_cv h) (.inl (some (.int (gI res)))) (gi_cv h1)
  refine gx_aload_n dX5_run_0 rfl 0 rfl ?_
  refine gy_iconst dX5_run_1 ?_
  refine gx_bE e (fun h1 hh1 e => ?_)
  refine gy_qI hh1 dX5_run_2 gf_RX5_29_4_4 (by decide) gkN_4_4 rfl (Or.inl rfl) ?_
  refine gx_aload_n dX5_run_5 rfl 0 rfl ?_
  refine gy_iconst dX5_run_6 ?_
  refine gx_bE e (fun h2 hh2 e => ?_)
  refine gy_qI hh2 dX5_run_7 gf_RX5_33_4_6 (by decide) gkN_4_6 rfl (Or.inl rfl) ?_
  refine gx_aload_n dX5_run_10 rfl 0 rfl ?_
  refine gy_bipush dX5_run_11 gcb_16 ?_
  refine gx_aload_n dX5_run_13 rfl 0 rfl ?_
  refine gx_bE e (fun t3 ht3 e => ?_)
  refine gy_fR ht3 dX5_run_14 gf_RX5_18_4_1 (by decide) gkN_4_1 gkR_4_1 ?_
  refine gx_bE e (fun _ hu4 e => ?_)
  refine gx_bE e (fun q5 hq5 e => ?_)
  refine gx_callV (n := 0) (st := [.int (gI (16 : Int)), .ref v0]) (As := []) (b := t3) dX5_run_17 (z_X3_grammar hq5) rfl ⟨rfl, gw_cw_X3_grammar, gw_6, gp_X3_grammar, ⟨Nat.le_of_ble_eq_true rfl, Nat.le_of_ble_eq_true rfl⟩⟩ (gi_isS hu4) (by decide) gw_1057 gw_553 gw_554 rfl ⟨Nat.le_of_ble_eq_true rfl, Nat.le_of_ble_eq_true rfl⟩ (Nat.le_of_ble_eq_true rfl) (gy_k1 (x := .ref q5) (kc2 := 0) (ks2 := 0) ⟨rfl, rfl⟩ ?_) gy_kn
  refine gx_bE e (fun _ hu6 e => ?_)
  refine gx_bE e (fun q7 hq7 e => ?_)
  refine gx_callV (n := 0) (st := [.int (gI (16 : Int)), .ref v0]) (As := []) (b := q5) dX5_run_20 (z_X4_top hq7) rfl ⟨rfl, gw_cw_X4_top, gw_3, gp_X4_top, ⟨Nat.le_of_ble_eq_true rfl, Nat.le_of_ble_eq_true rfl⟩⟩ (gi_isS hu6) (by decide) gw_1181 gw_430 gw_431 rfl ⟨Nat.le_of_ble_eq_true rfl, Nat.le_of_ble_eq_true rfl⟩ (Nat.le_of_ble_eq_true rfl) (gy_k1 (x := .int (gI q7)) (kc2 := 0) (ks2 := 0) ⟨rfl, rfl⟩ ?_) gy_kn
  refine gy_iadd dX5_run_23 ?_
  refine gx_bE e (fun _ hu8 e => ?_)
  refine gx_bE e (fun q9 hq9 e => ?_)
  refine gx_callV (n := 1) (st := []) (As := [.int (gI ((16 : Int) + q7))]) (b := v0) dX5_run_24 (z_X5_push hq9) rfl ⟨rfl, gw_cw_X5_push, gw_9, gp_X5_push, ⟨Nat.le_of_ble_eq_true rfl, Nat.le_of_ble_eq_true rfl⟩⟩ (gi_isS hu8) (by decide) gw_1182 gw_1184 gs_46 rfl ⟨Nat.le_of_ble_eq_true rfl, Nat.le_of_ble_eq_true rfl⟩ (Nat.le_of_ble_eq_true rfl) (gy_k0 (kc2 := 0) (ks2 := 0) ⟨rfl, rfl⟩ ?_) gy_kn
  refine gy_iconst dX5_run_27 ?_
  refine gx_istore_n (ls2 := [(1, .int (gI (0 : Int))), (0, .ref v0)]) dX5_run_28 rfl (Nat.le_of_ble_eq_true rfl) rfl ?_
  refine gy_iconst dX5_run_29 ?_
  refine gx_istore_n (ls2 := [(2, .int (gI (0 : Int))), (1, .int (gI (0 : Int))), (0, .ref v0)]) dX5_run_30 rfl (Nat.le_of_ble_eq_true rfl) rfl ?_
  refine gx_sub (ls2 := [(0, .ref v0), (1, .int (gI (0 : Int))), (2, .int (gI (0 : Int)))]) [2, 1, 0] rfl ?_
  exact zl_X5_run_31  n _ _ _ _ e
/-! X9_push  -/
set_option maxRecDepth 100000 in
def f_X9_push (v0 : Nat) (v1 : Int) (v2 : Int) (h : gi_H) : Option (gi_H) :=
  Option.bind (gi_gI h v0 8 12) fun t1 => Option.bind (gi_rg t1) fun _ => if t1 < 0 then (some h) else (Option.bind (gi_gI h v0 8 12) fun t4 => Option.bind (gi_gR h v0 8 10) fun t5 => Option.bind (gi_ln h t5) fun t6 => Option.bind (gi_rg t4) fun _ => Option.bind (gi_rg t6) fun _ => if t6 ≤ t4 then (some h) else (Option.bind (gi_gI h v0 8 12) fun t10 => Option.bind (gi_gR h v0 8 11) fun t11 => Option.bind (gi_ln h t11) fun t12 => Option.bind (gi_rg t10) fun _ => Option.bind (gi_rg t12) fun _ => if t12 ≤ t10 then (some h) else (Option.bind (gi_gR h v0 8 10) fun t16 => Option.bind (gi_gI h v0 8 12) fun t17 => Option.bind (gi_s1 h t16 t17 v1) fun h18 => Option.bind (gi_gR h18 v0 8 11) fun t19 => Option.bind (gi_gI h18 v0 8 12) fun t20 => Option.bind (gi_s1 h18 t19 t20 v2) fun h21 => Option.bind (gi_gI h21 v0 8 12) fun t22 => Option.bind (gi_pI h21 v0 8 12 (t22 + (1 : Int))) fun h23 => some h23)))
set_option maxRecDepth 100000 in
theorem z_X9_push {al : Bool} {v0 : Nat} {v1 : Int} {v2 : Int} {h : gi_H} {h1 : gi_H} (e : f_X9_push v0 v1 v2 h = some h1) : gx_Cw mX9_push al [.ref v0, .int (gI v1), .int (gI v2)] (gi_cv h) (.inl none) (gi_cv h1) := by
  refine gx_enter (by decide +kernel) rfl (Nat.le_of_ble_eq_true rfl) ?_
  show gx_Z mX9_push al al 0 0 0 [(0, .ref v0), (1, .int (gI v1)), (2, .int (gI v2))] [] (gi_cv h) (.inl none) (gi_cv h1)
  refine gx_aload_n dX9_push_0 rfl 0 rfl ?_
  refine gx_bE e (fun t1 ht1 e => ?_)
  refine gy_fI ht1 dX9_push_1 gf_RX9_45_8_12 (by decide) gkN_8_12 gkR_8_12 ?_
  refine gx_bE e (fun _ g2 e => ?_)
  refine gx_iE e (fun c3 e => ?_) (fun c3 e => ?_)
  · refine gy_if_lt (tgt := 61) (gi_rgS g2) dX9_push_4 (by decide) (fun _ => ?_) (fun z => absurd c3 z)
    cases e
    exact gx_vret dX9_push_61 rfl ⟨Nat.le_of_ble_eq_true rfl, Nat.le_of_ble_eq_true rfl⟩ (fun z => z)
  · refine gy_if_lt (tgt := 61) (gi_rgS g2) dX9_push_4 (by decide) (fun z => absurd z c3) (fun _ => ?_)
    refine gx_aload_n dX9_push_7 rfl 0 rfl ?_
    refine gx_bE e (fun t4 ht4 e => ?_)
    refine gy_fI ht4 dX9_push_8 gf_RX9_45_8_12 (by decide) gkN_8_12 gkR_8_12 ?_
    refine gx_aload_n dX9_push_11 rfl 0 rfl ?_
    refine gx_bE e (fun t5 ht5 e => ?_)
    refine gy_fR ht5 dX9_push_12 gf_RX9_9_8_10 (by decide) gkN_8_10 gkR_8_10 ?_
    refine gx_bE e (fun t6 ht6 e => ?_)
    refine gy_al0 ht6 dX9_push_15 ?_
    refine gx_bE e (fun _ g7 e => ?_)
    refine gx_bE e (fun _ g8 e => ?_)
    refine gx_iE e (fun c9 e => ?_) (fun c9 e => ?_)
    · refine gy_icmp_ge (tgt := 61) (gi_rgS g7) (gi_rgS g8) dX9_push_16 (by decide) (fun _ => ?_) (fun z => absurd c9 z)
      cases e
      exact gx_vret dX9_push_61 rfl ⟨Nat.le_of_ble_eq_true rfl, Nat.le_of_ble_eq_true rfl⟩ (fun z => z)
    · refine gy_icmp_ge (tgt := 61) (gi_rgS g7) (gi_rgS g8) dX9_push_16 (by decide) (fun z => absurd z c9) (fun _ => ?_)
      refine gx_aload_n dX9_push_19 rfl 0 rfl ?_
      refine gx_bE e (fun t10 ht10 e => ?_)
      refine gy_fI ht10 dX9_push_20 gf_RX9_45_8_12 (by decide) gkN_8_12 gkR_8_12 ?_
      refine gx_aload_n dX9_push_23 rfl 0 rfl ?_
      refine gx_bE e (fun t11 ht11 e => ?_)
      refine gy_fR ht11 dX9_push_24 gf_RX9_15_8_11 (by decide) gkN_8_11 gkR_8_11 ?_
      refine gx_bE e (fun t12 ht12 e => ?_)
      refine gy_al0 ht12 dX9_push_27 ?_
      refine gx_bE e (fun _ g13 e => ?_)
      refine gx_bE e (fun _ g14 e => ?_)
      refine gx_iE e (fun c15 e => ?_) (fun c15 e => ?_)
      · refine gy_icmp_ge (tgt := 61) (gi_rgS g13) (gi_rgS g14) dX9_push_28 (by decide) (fun _ => ?_) (fun z => absurd c15 z)
        cases e
        exact gx_vret dX9_push_61 rfl ⟨Nat.le_of_ble_eq_true rfl, Nat.le_of_ble_eq_true rfl⟩ (fun z => z)
      · refine gy_icmp_ge (tgt := 61) (gi_rgS g13) (gi_rgS g14) dX9_push_28 (by decide) (fun z => absurd z c15) (fun _ => ?_)
        refine gx_aload_n dX9_push_31 rfl 0 rfl ?_
        refine gx_bE e (fun t16 ht16 e => ?_)
        refine gy_fR ht16 dX9_push_32 gf_RX9_9_8_10 (by decide) gkN_8_10 gkR_8_10 ?_
        refine gx_aload_n dX9_push_35 rfl 0 rfl ?_
        refine gx_bE e (fun t17 ht17 e => ?_)
        refine gy_fI ht17 dX9_push_36 gf_RX9_45_8_12 (by decide) gkN_8_12 gkR_8_12 ?_
        refine gx_iload_n dX9_push_39 rfl 1 rfl ?_
        refine gx_bE e (fun h18 hh18 e => ?_)
        refine gy_t1 hh18 dX9_push_40 ?_
        refine gx_aload_n dX9_push_41 rfl 0 rfl ?_
        refine gx_bE e (fun t19 ht19 e => ?_)
        refine gy_fR ht19 dX9_push_42 gf_RX9_15_8_11 (by decide) gkN_8_11 gkR_8_11 ?_
        refine gx_aload_n dX9_push_45 rfl 0 rfl ?_
        refine gx_bE e (fun t20 ht20 e => ?_)
        refine gy_fI ht20 dX9_push_46 gf_RX9_45_8_12 (by decide) gkN_8_12 gkR_8_12 ?_
        refine gx_iload_n dX9_push_49 rfl 2 rfl ?_
        refine gx_bE e (fun h21 hh21 e => ?_)
        refine gy_t1 hh21 dX9_push_50 ?_
        refine gx_aload_n dX9_push_51 rfl 0 rfl ?_
        refine gx_dup dX9_push_52 rfl ?_
        refine gx_bE e (fun t22 ht22 e => ?_)
        refine gy_fI ht22 dX9_push_53 gf_RX9_45_8_12 (by decide) gkN_8_12 gkR_8_12 ?_
        refine gy_iconst dX9_push_56 ?_
        refine gy_iadd dX9_push_57 ?_
        refine gx_bE e (fun h23 hh23 e => ?_)
        refine gy_qI hh23 dX9_push_58 gf_RX9_45_8_12 (by decide) gkN_8_12 rfl (Or.inl rfl) ?_
        cases e
        exact gx_vret dX9_push_61 rfl ⟨Nat.le_of_ble_eq_true rfl, Nat.le_of_ble_eq_true rfl⟩ (fun z => z)
/-! X9_state  -/
set_option maxRecDepth 100000 in
def b_X9_state_33    (h : gi_H) : Option (Int) :=
  some (-1 : Int)
set_option maxRecDepth 100000 in
theorem zb_X9_state_33 {al : Bool}  {res : Int}    {h : gi_H} (e : b_X9_state_33  h = some res) : gx_Z mX9_state al al 0 0 33 [] [] (gi_cv h) (.inl (some (.int (gI res)))) (gi_cv h) := by
  refine gy_iconst dX9_state_33 ?_
  cases e
  exact gx_iret dX9_state_34 rfl ⟨Nat.le_of_ble_eq_true rfl, Nat.le_of_ble_eq_true rfl⟩ (fun z => z)
set_option maxRecDepth 100000 in
def f_X9_state (v0 : Nat) (h : gi_H) : Option (Int) :=
  Option.bind (gi_gI h v0 8 12) fun t1 => Option.bind (gi_rg t1) fun _ => if t1 ≤ 0 then (b_X9_state_33   h) else (Option.bind (gi_gI h v0 8 12) fun t4 => Option.bind (gi_gR h v0 8 10) fun t5 => Option.bind (gi_ln h t5) fun t6 => Option.bind (gi_rg t4) fun _ => Option.bind (gi_rg t6) fun _ => if t6 < t4 then (b_X9_state_33   h) else (Option.bind (gi_gR h v0 8 10) fun t10 => Option.bind (gi_gI h v0 8 12) fun t11 => Option.bind (gi_aI h 1 t10 (t11 - (1 : Int))) fun t12 => some t12))
set_option maxRecDepth 100000 in
theorem z_X9_state {al : Bool} {v0 : Nat} {h : gi_H} {res : Int} (e : f_X9_state v0 h = some res) : gx_Cw mX9_state al [.ref v0] (gi_cv h) (.inl (some (.int (gI res)))) (gi_cv h) := by
  refine gx_enter (by decide +kernel) rfl (Nat.le_of_ble_eq_true rfl) ?_
  show gx_Z mX9_state al al 0 0 0 [(0, .ref v0)] [] (gi_cv h) (.inl (some (.int (gI res)))) (gi_cv h)
  refine gx_aload_n dX9_state_0 rfl 0 rfl ?_
  refine gx_bE e (fun t1 ht1 e => ?_)
  refine gy_fI ht1 dX9_state_1 gf_RX9_45_8_12 (by decide) gkN_8_12 gkR_8_12 ?_
  refine gx_bE e (fun _ g2 e => ?_)
  refine gx_iE e (fun c3 e => ?_) (fun c3 e => ?_)
  · refine gy_if_le (tgt := 33) (gi_rgS g2) dX9_state_4 (by decide) (fun _ => ?_) (fun z => absurd c3 z)
    refine gx_sub (ls2 := []) [] rfl ?_
    exact zb_X9_state_33  e
  · refine gy_if_le (tgt := 33) (gi_rgS g2) dX9_state_4 (by decide) (fun z => absurd z c3) (fun _ => ?_)
    refine gx_aload_n dX9_state_7 rfl 0 rfl ?_
    refine gx_bE e (fun t4 ht4 e => ?_)
    refine gy_fI ht4 dX9_state_8 gf_RX9_45_8_12 (by decide) gkN_8_12 gkR_8_12 ?_
    refine gx_aload_n dX9_state_11 rfl 0 rfl ?_
    refine gx_bE e (fun t5 ht5 e => ?_)
    refine gy_fR ht5 dX9_state_12 gf_RX9_9_8_10 (by decide) gkN_8_10 gkR_8_10 ?_
    refine gx_bE e (fun t6 ht6 e => ?_)
    refine gy_al0 ht6 dX9_state_15 ?_
    refine gx_bE e (fun _ g7 e => ?_)
    refine gx_bE e (fun _ g8 e => ?_)
    refine gx_iE e (fun c9 e => ?_) (fun c9 e => ?_)
    · refine gy_icmp_gt (tgt := 33) (gi_rgS g7) (gi_rgS g8) dX9_state_16 (by decide) (fun _ => ?_) (fun z => absurd c9 z)
      refine gx_sub (ls2 := []) [] rfl ?_
      exact zb_X9_state_33  e
    · refine gy_icmp_gt (tgt := 33) (gi_rgS g7) (gi_rgS g8) dX9_state_16 (by decide) (fun z => absurd z c9) (fun _ => ?_)
      refine gx_aload_n dX9_state_19 rfl 0 rfl ?_
      refine gx_bE e (fun t10 ht10 e => ?_)
      refine gy_fR ht10 dX9_state_20 gf_RX9_9_8_10 (by decide) gkN_8_10 gkR_8_10 ?_
      refine gx_aload_n dX9_state_23 rfl 0 rfl ?_
      refine gx_bE e (fun t11 ht11 e => ?_)
      refine gy_fI ht11 dX9_state_24 gf_RX9_45_8_12 (by decide) gkN_8_12 gkR_8_12 ?_
      refine gy_iconst dX9_state_27 ?_
      refine gy_isub dX9_state_28 ?_
      refine gx_bE e (fun t12 ht12 e => ?_)
      refine gy_l1 ht12 dX9_state_29 ?_
      refine gx_goto (tgt := 34) dX9_state_30 (by decide) ?_
      cases e
      exact gx_iret dX9_state_34 rfl ⟨Nat.le_of_ble_eq_true rfl, Nat.le_of_ble_eq_true rfl⟩ (fun z => z)
/-! X9_settledAction  -/
set_option maxRecDepth 100000 in
def b_X9_settledAction_52 (n : Nat)  (v0 : Nat) (s0 : Int) (h : gi_H) : Option (Int) :=
  Option.bind (gi_rg s0) fun _ => if s0 = (2 : Int) then (some (-1 : Int)) else (if s0 = 0 then (Option.bind (gi_gI h v0 8 9) fun t13 => some t13) else (some (24 : Int)))
set_option maxRecDepth 100000 in
theorem zb_X9_settledAction_52 {al : Bool} {n : Nat}  {res : Int}  {v0 : Nat} {s0 : Int} {h : gi_H} (e : b_X9_settledAction_52 n v0 s0 h = some res) : gx_Z mX9_settledAction al al 0 0 52 [(0, .ref v0)] [.int (gI s0)] (gi_cv h) (.inl (some (.int (gI res)))) (gi_cv h) := by
  refine gx_istore_n (ls2 := [(3, .int (gI s0)), (0, .ref v0)]) dX9_settledAction_52 rfl (Nat.le_of_ble_eq_true rfl) rfl ?_
  refine gx_iload_n dX9_settledAction_53 rfl 0 rfl ?_
  refine gy_iconst dX9_settledAction_54 ?_
  refine gx_bE e (fun _ g10 e => ?_)
  refine gx_iE e (fun c11 e => ?_) (fun c11 e => ?_)
  · refine gy_icmp_ne (tgt := 60) (gi_rgS g10) (by decide) dX9_settledAction_55 (by decide) (fun z => absurd c11 z) (fun _ => ?_)
    refine gy_iconst dX9_settledAction_58 ?_
    cases e
    exact gx_iret dX9_settledAction_59 rfl ⟨Nat.le_of_ble_eq_true rfl, Nat.le_of_ble_eq_true rfl⟩ (fun z => z)
  · refine gy_icmp_ne (tgt := 60) (gi_rgS g10) (by decide) dX9_settledAction_55 (by decide) (fun _ => ?_) (fun z => absurd z c11)
    refine gx_iload_n dX9_settledAction_60 rfl 0 rfl ?_
    refine gx_iE e (fun c12 e => ?_) (fun c12 e => ?_)
    · refine gy_if_ne (tgt := 71) (gi_rgS g10) dX9_settledAction_61 (by decide) (fun z => absurd c12 z) (fun _ => ?_)
      refine gx_aload_n dX9_settledAction_64 rfl 1 rfl ?_
      refine gx_bE e (fun t13 ht13 e => ?_)
      refine gy_fI ht13 dX9_settledAction_65 gf_RX9_117_8_9 (by decide) gkN_8_9 gkR_8_9 ?_
      refine gx_goto (tgt := 73) dX9_settledAction_68 (by decide) ?_
      cases e
      exact gx_iret dX9_settledAction_73 rfl ⟨Nat.le_of_ble_eq_true rfl, Nat.le_of_ble_eq_true rfl⟩ (fun z => z)
    · refine gy_if_ne (tgt := 71) (gi_rgS g10) dX9_settledAction_61 (by decide) (fun _ => ?_) (fun z => absurd z c12)
      refine gy_bipush dX9_settledAction_71 gcb_24 ?_
      cases e
      exact gx_iret dX9_settledAction_73 rfl ⟨Nat.le_of_ble_eq_true rfl, Nat.le_of_ble_eq_true rfl⟩ (fun z => z)
set_option maxRecDepth 100000 in
def b_X9_settledAction_51 (n : Nat)  (v0 : Nat)  (h : gi_H) : Option (Int) :=
  b_X9_settledAction_52 n  v0 (2 : Int) h
set_option maxRecDepth 100000 in
theorem zb_X9_settledAction_51 {al : Bool} {n : Nat}  {res : Int}  {v0 : Nat}  {h : gi_H} (e : b_X9_settledAction_51 n v0 h = some res) : gx_Z mX9_settledAction al al 0 0 51 [(0, .ref v0)] [] (gi_cv h) (.inl (some (.int (gI res)))) (gi_cv h) := by
  refine gy_iconst dX9_settledAction_51 ?_
  exact zb_X9_settledAction_52  e
set_option maxRecDepth 100000 in
def f_X9_settledAction (n : Nat) (v0 : Nat) (v1 : Int) (h : gi_H) : Option (Int) :=
  Option.bind (gi_is h v0 8) fun _ => Option.bind (f_X9_levelOfLowest n v0 h) fun q2 => Option.bind (gi_is h v0 8) fun _ => Option.bind (f_X9_levelOf v0 v1 h) fun q4 => gx_nm (q2 - q4) fun t5 => Option.bind (gi_rg t5) fun _ => if t5 = 0 then (Option.bind (gi_rg v1) fun _ => if v1 < 0 then (b_X9_settledAction_51 n  v0 h) else (Option.bind (gi_gR h v0 8 4) fun t14 => Option.bind (gi_ln h t14) fun t15 => Option.bind (gi_rg t15) fun _ => if t15 ≤ v1 then (b_X9_settledAction_51 n  v0 h) else (Option.bind (gi_gR h v0 8 4) fun t18 => Option.bind (gi_aI h 1 t18 v1) fun t19 => b_X9_settledAction_52 n  v0 t19 h))) else (if t5 ≤ 0 then (some (24 : Int)) else (Option.bind (gi_gI h v0 8 9) fun t21 => some t21))
set_option maxRecDepth 100000 in
theorem z_X9_settledAction {al : Bool} {n : Nat} {v0 : Nat} {v1 : Int} {h : gi_H} {res : Int} (e : f_X9_settledAction n v0 v1 h = some res) : gx_Cw mX9_settledAction al [.ref v0, .int (gI v1)] (gi_cv h) (.inl (some (.int (gI res)))) (gi_cv h) := by
  refine gx_enter (by decide +kernel) rfl (Nat.le_of_ble_eq_true rfl) ?_
  show gx_Z mX9_settledAction al al 0 0 0 [(0, .ref v0), (1, .int (gI v1))] [] (gi_cv h) (.inl (some (.int (gI res)))) (gi_cv h)
  refine gx_aload_n dX9_settledAction_0 rfl 0 rfl ?_
  refine gx_bE e (fun _ hu1 e => ?_)
  refine gx_bE e (fun q2 hq2 e => ?_)
  refine gx_callV (n := 0) (st := []) (As := []) (b := v0) dX9_settledAction_1 (z_X9_levelOfLowest hq2) rfl ⟨rfl, gw_cw_X9_levelOfLowest, gw_10, gp_X9_levelOfLowest, ⟨Nat.le_of_ble_eq_true rfl, Nat.le_of_ble_eq_true rfl⟩⟩ (gi_isS hu1) (by decide) gw_1132 gw_1134 gs_45 rfl ⟨Nat.le_of_ble_eq_true rfl, Nat.le_of_ble_eq_true rfl⟩ (Nat.le_of_ble_eq_true rfl) (gy_k1 (x := .int (gI q2)) (kc2 := 0) (ks2 := 0) ⟨rfl, rfl⟩ ?_) gy_kn
  refine gx_aload_n dX9_settledAction_4 rfl 0 rfl ?_
  refine gx_iload_n dX9_settledAction_5 rfl 1 rfl ?_
  refine gx_bE e (fun _ hu3 e => ?_)
  refine gx_bE e (fun q4 hq4 e => ?_)
  refine gx_callV (n := 1) (st := [.int (gI q2)]) (As := [.int (gI v1)]) (b := v0) dX9_settledAction_6 (z_X9_levelOf hq4) rfl ⟨rfl, gw_cw_X9_levelOf, gw_10, gp_X9_levelOf, ⟨Nat.le_of_ble_eq_true rfl, Nat.le_of_ble_eq_true rfl⟩⟩ (gi_isS hu3) (by decide) gw_1128 gw_1130 gs_44 rfl ⟨Nat.le_of_ble_eq_true rfl, Nat.le_of_ble_eq_true rfl⟩ (Nat.le_of_ble_eq_true rfl) (gy_k1 (x := .int (gI q4)) (kc2 := 0) (ks2 := 0) ⟨rfl, rfl⟩ ?_) gy_kn
  refine gy_isub dX9_settledAction_9 ?_
  refine gx_nE e (fun t5 ht5 e => ?_)
  rw [ht5]
  refine gx_istore_n (ls2 := [(2, .int (gI t5)), (0, .ref v0), (1, .int (gI v1))]) dX9_settledAction_10 rfl (Nat.le_of_ble_eq_true rfl) rfl ?_
  refine gx_iload_n dX9_settledAction_11 rfl 0 rfl ?_
  refine gx_bE e (fun _ g6 e => ?_)
  refine gx_iE e (fun c7 e => ?_) (fun c7 e => ?_)
  · refine gy_if_eq (tgt := 29) (gi_rgS g6) dX9_settledAction_12 (by decide) (fun _ => ?_) (fun z => absurd c7 z)
    refine gx_iload_n dX9_settledAction_29 rfl 2 rfl ?_
    refine gx_bE e (fun _ g8 e => ?_)
    refine gx_iE e (fun c9 e => ?_) (fun c9 e => ?_)
    · refine gy_if_lt (tgt := 51) (gi_rgS g8) dX9_settledAction_30 (by decide) (fun _ => ?_) (fun z => absurd c9 z)
      refine gx_sub (ls2 := [(0, .ref v0)]) [1] rfl ?_
      exact zb_X9_settledAction_51  e
    · refine gy_if_lt (tgt := 51) (gi_rgS g8) dX9_settledAction_30 (by decide) (fun z => absurd z c9) (fun _ => ?_)
      refine gx_iload_n dX9_settledAction_33 rfl 2 rfl ?_
      refine gx_aload_n dX9_settledAction_34 rfl 1 rfl ?_
      refine gx_bE e (fun t14 ht14 e => ?_)
      refine gy_fR ht14 dX9_settledAction_35 gf_RX9_29_8_4 (by decide) gkN_8_4 gkR_8_4 ?_
      refine gx_bE e (fun t15 ht15 e => ?_)
      refine gy_al0 ht15 dX9_settledAction_38 ?_
      refine gx_bE e (fun _ g16 e => ?_)
      refine gx_iE e (fun c17 e => ?_) (fun c17 e => ?_)
      · refine gy_icmp_ge (tgt := 51) (gi_rgS g8) (gi_rgS g16) dX9_settledAction_39 (by decide) (fun _ => ?_) (fun z => absurd c17 z)
        refine gx_sub (ls2 := [(0, .ref v0)]) [1] rfl ?_
        exact zb_X9_settledAction_51  e
      · refine gy_icmp_ge (tgt := 51) (gi_rgS g8) (gi_rgS g16) dX9_settledAction_39 (by decide) (fun z => absurd z c17) (fun _ => ?_)
        refine gx_aload_n dX9_settledAction_42 rfl 1 rfl ?_
        refine gx_bE e (fun t18 ht18 e => ?_)
        refine gy_fR ht18 dX9_settledAction_43 gf_RX9_29_8_4 (by decide) gkN_8_4 gkR_8_4 ?_
        refine gx_iload_n dX9_settledAction_46 rfl 2 rfl ?_
        refine gx_bE e (fun t19 ht19 e => ?_)
        refine gy_l1 ht19 dX9_settledAction_47 ?_
        refine gx_goto (tgt := 52) dX9_settledAction_48 (by decide) ?_
        refine gx_sub (ls2 := [(0, .ref v0)]) [1] rfl ?_
        exact zb_X9_settledAction_52  e
  · refine gy_if_eq (tgt := 29) (gi_rgS g6) dX9_settledAction_12 (by decide) (fun z => absurd z c7) (fun _ => ?_)
    refine gx_iload_n dX9_settledAction_15 rfl 0 rfl ?_
    refine gx_iE e (fun c20 e => ?_) (fun c20 e => ?_)
    · refine gy_if_le (tgt := 26) (gi_rgS g6) dX9_settledAction_16 (by decide) (fun _ => ?_) (fun z => absurd c20 z)
      refine gy_bipush dX9_settledAction_26 gcb_24 ?_
      cases e
      exact gx_iret dX9_settledAction_28 rfl ⟨Nat.le_of_ble_eq_true rfl, Nat.le_of_ble_eq_true rfl⟩ (fun z => z)
    · refine gy_if_le (tgt := 26) (gi_rgS g6) dX9_settledAction_16 (by decide) (fun z => absurd z c20) (fun _ => ?_)
      refine gx_aload_n dX9_settledAction_19 rfl 1 rfl ?_
      refine gx_bE e (fun t21 ht21 e => ?_)
      refine gy_fI ht21 dX9_settledAction_20 gf_RX9_117_8_9 (by decide) gkN_8_9 gkR_8_9 ?_
      refine gx_goto (tgt := 28) dX9_settledAction_23 (by decide) ?_
      cases e
      exact gx_iret dX9_settledAction_28 rfl ⟨Nat.le_of_ble_eq_true rfl, Nat.le_of_ble_eq_true rfl⟩ (fun z => z)
/-! X9_action  -/
set_option maxRecDepth 100000 in
def f_X9_action (n : Nat) (v0 : Nat) (v1 : Int) (v2 : Int) (h : gi_H) : Option (Int × gi_H) :=
  Option.bind (gi_is h v0 8) fun _ => Option.bind (f_X9_readCell n v0 v1 v2 h) fun q2 => Option.bind (gi_is q2 v0 8) fun _ => Option.bind (f_X9_isSettled n v0 v2 q2) fun q4 => Option.bind (gi_rg q4) fun _ => if q4 = 0 then (Option.bind (gi_gI q2 v0 8 7) fun t7 => Option.bind (gi_rg t7) fun _ => if t7 = 0 then (Option.bind (gi_gI q2 v0 8 6) fun t10 => Option.bind (gi_rg t10) fun _ => if t10 = 0 then (Option.bind (gi_gI q2 v0 8 9) fun t13 => some (t13, q2)) else (some ((24 : Int), q2))) else (some ((25 : Int), q2))) else (Option.bind (gi_is q2 v0 8) fun _ => Option.bind (f_X9_settledAction n v0 v2 q2) fun q15 => some (q15, q2))
set_option maxRecDepth 100000 in
theorem z_X9_action {al : Bool} {n : Nat} {v0 : Nat} {v1 : Int} {v2 : Int} {h : gi_H} {res : Int} {h1 : gi_H} (e : f_X9_action n v0 v1 v2 h = some (res, h1)) : gx_Cw mX9_action al [.ref v0, .int (gI v1), .int (gI v2)] (gi_cv h) (.inl (some (.int (gI res)))) (gi_cv h1) := by
  refine gx_enter (by decide +kernel) rfl (Nat.le_of_ble_eq_true rfl) ?_
  show gx_Z mX9_action al al 0 0 0 [(0, .ref v0), (1, .int (gI v1)), (2, .int (gI v2))] [] (gi_cv h) (.inl (some (.int (gI res)))) (gi_cv h1)
  refine gx_aload_n dX9_action_0 rfl 0 rfl ?_
  refine gx_iload_n dX9_action_1 rfl 1 rfl ?_
  refine gx_iload_n dX9_action_2 rfl 2 rfl ?_
  refine gx_bE e (fun _ hu1 e => ?_)
  refine gx_bE e (fun q2 hq2 e => ?_)
  refine gx_callV (n := 2) (st := []) (As := [.int (gI v1), .int (gI v2)]) (b := v0) dX9_action_3 (z_X9_readCell hq2) rfl ⟨rfl, gw_cw_X9_readCell, gw_10, gp_X9_readCell, ⟨Nat.le_of_ble_eq_true rfl, Nat.le_of_ble_eq_true rfl⟩⟩ (gi_isS hu1) (by decide) gw_1096 gw_1098 gs_40 rfl ⟨Nat.le_of_ble_eq_true rfl, Nat.le_of_ble_eq_true rfl⟩ (Nat.le_of_ble_eq_true rfl) (gy_k0 (kc2 := 0) (ks2 := 0) ⟨rfl, rfl⟩ ?_) gy_kn
  refine gx_aload_n dX9_action_6 rfl 0 rfl ?_
  refine gx_iload_n dX9_action_7 rfl 2 rfl ?_
  refine gx_bE e (fun _ hu3 e => ?_)
  refine gx_bE e (fun q4 hq4 e => ?_)
  refine gx_callV (n := 1) (st := []) (As := [.int (gI v2)]) (b := v0) dX9_action_8 (z_X9_isSettled hq4) rfl ⟨rfl, gw_cw_X9_isSettled, gw_10, gp_X9_isSettled, ⟨Nat.le_of_ble_eq_true rfl, Nat.le_of_ble_eq_true rfl⟩⟩ (gi_isS hu3) (by decide) gw_1124 gw_1126 gs_43 rfl ⟨Nat.le_of_ble_eq_true rfl, Nat.le_of_ble_eq_true rfl⟩ (Nat.le_of_ble_eq_true rfl) (gy_k1 (x := .int (gI q4)) (kc2 := 0) (ks2 := 0) ⟨rfl, rfl⟩ ?_) gy_kn
  refine gx_bE e (fun _ g5 e => ?_)
  refine gx_iE e (fun c6 e => ?_) (fun c6 e => ?_)
  · refine gy_if_eq (tgt := 20) (gi_rgS g5) dX9_action_11 (by decide) (fun _ => ?_) (fun z => absurd c6 z)
    refine gx_aload_n dX9_action_20 rfl 0 rfl ?_
    refine gx_bE e (fun t7 ht7 e => ?_)
    refine gy_fI ht7 dX9_action_21 gf_RX9_111_8_7 (by decide) gkN_8_7 gkR_8_7 ?_
    refine gx_bE e (fun _ g8 e => ?_)
    refine gx_iE e (fun c9 e => ?_) (fun c9 e => ?_)
    · refine gy_if_eq (tgt := 30) (gi_rgS g8) dX9_action_24 (by decide) (fun _ => ?_) (fun z => absurd c9 z)
      refine gx_aload_n dX9_action_30 rfl 0 rfl ?_
      refine gx_bE e (fun t10 ht10 e => ?_)
      refine gy_fI ht10 dX9_action_31 gf_RX9_101_8_6 (by decide) gkN_8_6 gkR_8_6 ?_
      refine gx_bE e (fun _ g11 e => ?_)
      refine gx_iE e (fun c12 e => ?_) (fun c12 e => ?_)
      · refine gy_if_eq (tgt := 42) (gi_rgS g11) dX9_action_34 (by decide) (fun _ => ?_) (fun z => absurd c12 z)
        refine gx_aload_n dX9_action_42 rfl 0 rfl ?_
        refine gx_bE e (fun t13 ht13 e => ?_)
        refine gy_fI ht13 dX9_action_43 gf_RX9_117_8_9 (by decide) gkN_8_9 gkR_8_9 ?_
        cases e
        exact gx_iret dX9_action_46 rfl ⟨Nat.le_of_ble_eq_true rfl, Nat.le_of_ble_eq_true rfl⟩ (fun z => z)
      · refine gy_if_eq (tgt := 42) (gi_rgS g11) dX9_action_34 (by decide) (fun z => absurd z c12) (fun _ => ?_)
        refine gy_bipush dX9_action_37 gcb_24 ?_
        refine gx_goto (tgt := 46) dX9_action_39 (by decide) ?_
        cases e
        exact gx_iret dX9_action_46 rfl ⟨Nat.le_of_ble_eq_true rfl, Nat.le_of_ble_eq_true rfl⟩ (fun z => z)
    · refine gy_if_eq (tgt := 30) (gi_rgS g8) dX9_action_24 (by decide) (fun z => absurd z c9) (fun _ => ?_)
      refine gy_bipush dX9_action_27 gcb_25 ?_
      cases e
      exact gx_iret dX9_action_29 rfl ⟨Nat.le_of_ble_eq_true rfl, Nat.le_of_ble_eq_true rfl⟩ (fun z => z)
  · refine gy_if_eq (tgt := 20) (gi_rgS g5) dX9_action_11 (by decide) (fun z => absurd z c6) (fun _ => ?_)
    refine gx_aload_n dX9_action_14 rfl 0 rfl ?_
    refine gx_iload_n dX9_action_15 rfl 2 rfl ?_
    refine gx_bE e (fun _ hu14 e => ?_)
    refine gx_bE e (fun q15 hq15 e => ?_)
    refine gx_callV (n := 1) (st := []) (As := [.int (gI v2)]) (b := v0) dX9_action_16 (z_X9_settledAction hq15) rfl ⟨rfl, gw_cw_X9_settledAction, gw_10, gp_X9_settledAction, ⟨Nat.le_of_ble_eq_true rfl, Nat.le_of_ble_eq_true rfl⟩⟩ (gi_isS hu14) (by decide) gw_1236 gw_1238 gs_55 rfl ⟨Nat.le_of_ble_eq_true rfl, Nat.le_of_ble_eq_true rfl⟩ (Nat.le_of_ble_eq_true rfl) (gy_k1 (x := .int (gI q15)) (kc2 := 0) (ks2 := 0) ⟨rfl, rfl⟩ ?_) gy_kn
    cases e
    exact gx_iret dX9_action_19 rfl ⟨Nat.le_of_ble_eq_true rfl, Nat.le_of_ble_eq_true rfl⟩ (fun z => z)
/-! X9_worthOfTop  -/
set_option maxRecDepth 100000 in
def b_X9_worthOfTop_33    (h : gi_H) : Option (Int) :=
  some (0 : Int)
set_option maxRecDepth 100000 in
theorem zb_X9_worthOfTop_33 {al : Bool}  {res : Int}    {h : gi_H} (e : b_X9_worthOfTop_33  h = some res) : gx_Z mX9_worthOfTop al al 0 0 33 [] [] (gi_cv h) (.inl (some (.int (gI res)))) (gi_cv h) := by
  refine gy_iconst dX9_worthOfTop_33 ?_
  cases e
  exact gx_iret dX9_worthOfTop_34 rfl ⟨Nat.le_of_ble_eq_true rfl, Nat.le_of_ble_eq_true rfl⟩ (fun z => z)
set_option maxRecDepth 100000 in
def f_X9_worthOfTop (v0 : Nat) (h : gi_H) : Option (Int) :=
  Option.bind (gi_gI h v0 8 12) fun t1 => Option.bind (gi_rg t1) fun _ => if t1 ≤ 0 then (b_X9_worthOfTop_33   h) else (Option.bind (gi_gI h v0 8 12) fun t4 => Option.bind (gi_gR h v0 8 11) fun t5 => Option.bind (gi_ln h t5) fun t6 => Option.bind (gi_rg t4) fun _ => Option.bind (gi_rg t6) fun _ => if t6 < t4 then (b_X9_worthOfTop_33   h) else (Option.bind (gi_gR h v0 8 11) fun t10 => Option.bind (gi_gI h v0 8 12) fun t11 => Option.bind (gi_aI h 1 t10 (t11 - (1 : Int))) fun t12 => some t12))
set_option maxRecDepth 100000 in
theorem z_X9_worthOfTop {al : Bool} {v0 : Nat} {h : gi_H} {res : Int} (e : f_X9_worthOfTop v0 h = some res) : gx_Cw mX9_worthOfTop al [.ref v0] (gi_cv h) (.inl (some (.int (gI res)))) (gi_cv h) := by
  refine gx_enter (by decide +kernel) rfl (Nat.le_of_ble_eq_true rfl) ?_
  show gx_Z mX9_worthOfTop al al 0 0 0 [(0, .ref v0)] [] (gi_cv h) (.inl (some (.int (gI res)))) (gi_cv h)
  refine gx_aload_n dX9_worthOfTop_0 rfl 0 rfl ?_
  refine gx_bE e (fun t1 ht1 e => ?_)
  refine gy_fI ht1 dX9_worthOfTop_1 gf_RX9_45_8_12 (by decide) gkN_8_12 gkR_8_12 ?_
  refine gx_bE e (fun _ g2 e => ?_)
  refine gx_iE e (fun c3 e => ?_) (fun c3 e => ?_)
  · refine gy_if_le (tgt := 33) (gi_rgS g2) dX9_worthOfTop_4 (by decide) (fun _ => ?_) (fun z => absurd c3 z)
    refine gx_sub (ls2 := []) [] rfl ?_
    exact zb_X9_worthOfTop_33  e
  · refine gy_if_le (tgt := 33) (gi_rgS g2) dX9_worthOfTop_4 (by decide) (fun z => absurd z c3) (fun _ => ?_)
    refine gx_aload_n dX9_worthOfTop_7 rfl 0 rfl ?_
    refine gx_bE e (fun t4 ht4 e => ?_)
    refine gy_fI ht4 dX9_worthOfTop_8 gf_RX9_45_8_12 (by decide) gkN_8_12 gkR_8_12 ?_
    refine gx_aload_n dX9_worthOfTop_11 rfl 0 rfl ?_
    refine gx_bE e (fun t5 ht5 e => ?_)
    refine gy_fR ht5 dX9_worthOfTop_12 gf_RX9_15_8_11 (by decide) gkN_8_11 gkR_8_11 ?_
    refine gx_bE e (fun t6 ht6 e => ?_)
    refine gy_al0 ht6 dX9_worthOfTop_15 ?_
    refine gx_bE e (fun _ g7 e => ?_)
    refine gx_bE e (fun _ g8 e => ?_)
    refine gx_iE e (fun c9 e => ?_) (fun c9 e => ?_)
    · refine gy_icmp_gt (tgt := 33) (gi_rgS g7) (gi_rgS g8) dX9_worthOfTop_16 (by decide) (fun _ => ?_) (fun z => absurd c9 z)
      refine gx_sub (ls2 := []) [] rfl ?_
      exact zb_X9_worthOfTop_33  e
    · refine gy_icmp_gt (tgt := 33) (gi_rgS g7) (gi_rgS g8) dX9_worthOfTop_16 (by decide) (fun z => absurd z c9) (fun _ => ?_)
      refine gx_aload_n dX9_worthOfTop_19 rfl 0 rfl ?_
      refine gx_bE e (fun t10 ht10 e => ?_)
      refine gy_fR ht10 dX9_worthOfTop_20 gf_RX9_15_8_11 (by decide) gkN_8_11 gkR_8_11 ?_
      refine gx_aload_n dX9_worthOfTop_23 rfl 0 rfl ?_
      refine gx_bE e (fun t11 ht11 e => ?_)
      refine gy_fI ht11 dX9_worthOfTop_24 gf_RX9_45_8_12 (by decide) gkN_8_12 gkR_8_12 ?_
      refine gy_iconst dX9_worthOfTop_27 ?_
      refine gy_isub dX9_worthOfTop_28 ?_
      refine gx_bE e (fun t12 ht12 e => ?_)
      refine gy_l1 ht12 dX9_worthOfTop_29 ?_
      refine gx_goto (tgt := 34) dX9_worthOfTop_30 (by decide) ?_
      cases e
      exact gx_iret dX9_worthOfTop_34 rfl ⟨Nat.le_of_ble_eq_true rfl, Nat.le_of_ble_eq_true rfl⟩ (fun z => z)
/-! X10_keepWorth 8 -/
set_option maxRecDepth 100000 in
def f_X10_keepWorth_8 (v0 : Nat) (v1 : Int) (h : gi_H) : Option (gi_H) :=
  Option.bind (gi_pI h v0 8 0 v1) fun h1 => some h1
set_option maxRecDepth 100000 in
theorem z_X10_keepWorth_8 {al : Bool} {v0 : Nat} {v1 : Int} {h : gi_H} {h1 : gi_H} (e : f_X10_keepWorth_8 v0 v1 h = some h1) : gx_Cw mX10_keepWorth al [.ref v0, .int (gI v1)] (gi_cv h) (.inl none) (gi_cv h1) := by
  refine gx_enter (by decide +kernel) rfl (Nat.le_of_ble_eq_true rfl) ?_
  show gx_Z mX10_keepWorth al al 0 0 0 [(0, .ref v0), (1, .int (gI v1))] [] (gi_cv h) (.inl none) (gi_cv h1)
  refine gx_aload_n dX10_keepWorth_0 rfl 0 rfl ?_
  refine gx_iload_n dX10_keepWorth_1 rfl 1 rfl ?_
  refine gx_bE e (fun h1 hh1 e => ?_)
  refine gy_qI hh1 dX10_keepWorth_2 gf_RX10_7_8_0 (by decide) gkN_8_0 rfl (Or.inl rfl) ?_
  cases e
  exact gx_vret dX10_keepWorth_5 rfl ⟨Nat.le_of_ble_eq_true rfl, Nat.le_of_ble_eq_true rfl⟩ (fun z => z)
/-! X9_reduce  -/
set_option maxRecDepth 100000 in
def b_X9_reduce_57 (n : Nat)  (v0 : Nat) (v1 : Int) (v2 : Nat) (v3 : Int)  (h : gi_H) : Option (gi_H) :=
  Option.bind (gi_gR h v0 8 1) fun t12 => Option.bind (gi_is h v0 8) fun _ => Option.bind (f_X9_state v0 h) fun q14 => Option.bind (gi_is h v2 3) fun _ => Option.bind (f_X4_owner v2 v1 h) fun q16 => Option.bind (gi_is h t12 0) fun _ => Option.bind (f_X0_move t12 q14 ((16 : Int) + q16) h) fun q18 => Option.bind (gi_dg v3 (1009 : Int)) fun _ => Option.bind (gi_is h v0 8) fun _ => Option.bind (f_X9_push v0 q18 (v3 % (1009 : Int)) h) fun q21 => some q21
set_option maxRecDepth 100000 in
theorem zb_X9_reduce_57 {al : Bool} {n : Nat}  {h1 : gi_H}  {v0 : Nat} {v1 : Int} {v2 : Nat} {v3 : Int}  {h : gi_H} (e : b_X9_reduce_57 n v0 v1 v2 v3 h = some h1) : gx_Z mX9_reduce al al 0 0 57 [(0, .ref v0), (1, .int (gI v1)), (2, .ref v2), (3, .int (gI v3))] [] (gi_cv h) (.inl none) (gi_cv h1) := by
  refine gx_aload_n dX9_reduce_57 rfl 0 rfl ?_
  refine gx_aload_n dX9_reduce_58 rfl 0 rfl ?_
  refine gx_bE e (fun t12 ht12 e => ?_)
  refine gy_fR ht12 dX9_reduce_59 gf_RX9_18_8_1 (by decide) gkN_8_1 gkR_8_1 ?_
  refine gx_aload_n dX9_reduce_62 rfl 0 rfl ?_
  refine gx_bE e (fun _ hu13 e => ?_)
  refine gx_bE e (fun q14 hq14 e => ?_)
  refine gx_callV (n := 0) (st := [.ref t12, .ref v0]) (As := []) (b := v0) dX9_reduce_63 (z_X9_state hq14) rfl ⟨rfl, gw_cw_X9_state, gw_10, gp_X9_state, ⟨Nat.le_of_ble_eq_true rfl, Nat.le_of_ble_eq_true rfl⟩⟩ (gi_isS hu13) (by decide) gw_1228 gw_1230 gs_53 rfl ⟨Nat.le_of_ble_eq_true rfl, Nat.le_of_ble_eq_true rfl⟩ (Nat.le_of_ble_eq_true rfl) (gy_k1 (x := .int (gI q14)) (kc2 := 0) (ks2 := 0) ⟨rfl, rfl⟩ ?_) gy_kn
  refine gy_bipush dX9_reduce_66 gcb_16 ?_
  refine gx_aload_n dX9_reduce_68 rfl 2 rfl ?_
  refine gx_iload_n dX9_reduce_69 rfl 1 rfl ?_
  refine gx_bE e (fun _ hu15 e => ?_)
  refine gx_bE e (fun q16 hq16 e => ?_)
  refine gx_callV (n := 1) (st := [.int (gI (16 : Int)), .int (gI q14), .ref t12, .ref v0]) (As := [.int (gI v1)]) (b := v2) dX9_reduce_70 (z_X4_owner hq16) rfl ⟨rfl, gw_cw_X4_owner, gw_3, gp_X4_owner, ⟨Nat.le_of_ble_eq_true rfl, Nat.le_of_ble_eq_true rfl⟩⟩ (gi_isS hu15) (by decide) gw_1118 gw_403 gw_404 rfl ⟨Nat.le_of_ble_eq_true rfl, Nat.le_of_ble_eq_true rfl⟩ (Nat.le_of_ble_eq_true rfl) (gy_k1 (x := .int (gI q16)) (kc2 := 0) (ks2 := 0) ⟨rfl, rfl⟩ ?_) gy_kn
  refine gy_iadd dX9_reduce_73 ?_
  refine gx_bE e (fun _ hu17 e => ?_)
  refine gx_bE e (fun q18 hq18 e => ?_)
  refine gx_callV (n := 2) (st := [.ref v0]) (As := [.int (gI q14), .int (gI ((16 : Int) + q16))]) (b := t12) dX9_reduce_74 (z_X0_move hq18) rfl ⟨rfl, gw_cw_X0_move, gw_7, gp_X0_move, ⟨Nat.le_of_ble_eq_true rfl, Nat.le_of_ble_eq_true rfl⟩⟩ (gi_isS hu17) (by decide) gw_1106 gw_1107 gw_1108 rfl ⟨Nat.le_of_ble_eq_true rfl, Nat.le_of_ble_eq_true rfl⟩ (Nat.le_of_ble_eq_true rfl) (gy_k1 (x := .int (gI q18)) (kc2 := 0) (ks2 := 0) ⟨rfl, rfl⟩ ?_) gy_kn
  refine gx_iload_n dX9_reduce_77 rfl 3 rfl ?_
  refine gy_sipush dX9_reduce_78 gcs_1009 ?_
  refine gx_bE e (fun _ hu19 e => ?_)
  refine gy_irem hu19 dX9_reduce_81 ?_
  refine gx_bE e (fun _ hu20 e => ?_)
  refine gx_bE e (fun q21 hq21 e => ?_)
  refine gx_callV (n := 2) (st := []) (As := [.int (gI q18), .int (gI (v3 % (1009 : Int)))]) (b := v0) dX9_reduce_82 (z_X9_push hq21) rfl ⟨rfl, gw_cw_X9_push, gw_10, gp_X9_push, ⟨Nat.le_of_ble_eq_true rfl, Nat.le_of_ble_eq_true rfl⟩⟩ (gi_isS hu20) (by decide) gw_1223 gw_1225 gs_52 rfl ⟨Nat.le_of_ble_eq_true rfl, Nat.le_of_ble_eq_true rfl⟩ (Nat.le_of_ble_eq_true rfl) (gy_k0 (kc2 := 0) (ks2 := 0) ⟨rfl, rfl⟩ ?_) gy_kn
  cases e
  exact gx_vret dX9_reduce_85 rfl ⟨Nat.le_of_ble_eq_true rfl, Nat.le_of_ble_eq_true rfl⟩ (fun z => z)
set_option maxRecDepth 100000 in
def b_X9_reduce_24 (n : Nat) (r24 : Nat → Int → Nat → Int → Int → gi_H → Option (gi_H)) (v0 : Nat) (v1 : Int) (v2 : Nat) (v3 : Int) (v4 : Int)  (h : gi_H) : Option (gi_H) :=
  Option.bind (gi_rg v4) fun _ => if v4 < 0 then (b_X9_reduce_57 n  v0 v1 v2 v3 h) else (Option.bind (gi_is h v0 8) fun _ => Option.bind (f_X9_worthOfTop v0 h) fun q23 => gx_nm (v3 + ((v4 + (1 : Int)) * q23)) fun t24 => Option.bind (gi_gI h v0 8 12) fun t25 => Option.bind (gi_pI h v0 8 12 (t25 - (1 : Int))) fun h26 => gx_nm (v4 + (-1 : Int)) fun t27 => r24 v0 v1 v2 t24 t27 h26)
set_option maxRecDepth 100000 in
theorem zb_X9_reduce_24 {al : Bool} {n : Nat} {r24 : Nat → Int → Nat → Int → Int → gi_H → Option (gi_H)} {h1 : gi_H} (hr24 : ∀ (x0 : Nat) (x1 : Int) (x2 : Nat) (x3 : Int) (x4 : Int) (hh : gi_H), r24 x0 x1 x2 x3 x4 hh = some h1 → gx_Z mX9_reduce al al 0 0 24 [(0, .ref x0), (1, .int (gI x1)), (2, .ref x2), (3, .int (gI x3)), (4, .int (gI x4))] [] (gi_cv hh) (.inl none) (gi_cv h1)) {v0 : Nat} {v1 : Int} {v2 : Nat} {v3 : Int} {v4 : Int}  {h : gi_H} (e : b_X9_reduce_24 n r24 v0 v1 v2 v3 v4 h = some h1) : gx_Z mX9_reduce al al 0 0 24 [(0, .ref v0), (1, .int (gI v1)), (2, .ref v2), (3, .int (gI v3)), (4, .int (gI v4))] [] (gi_cv h) (.inl none) (gi_cv h1) := by
  refine gx_iload dX9_reduce_24 4 rfl ?_
  refine gx_bE e (fun _ g10 e => ?_)
  refine gx_iE e (fun c11 e => ?_) (fun c11 e => ?_)
  · refine gy_if_lt (tgt := 57) (gi_rgS g10) dX9_reduce_26 (by decide) (fun _ => ?_) (fun z => absurd c11 z)
    refine gx_sub (ls2 := [(0, .ref v0), (1, .int (gI v1)), (2, .ref v2), (3, .int (gI v3))]) [0, 1, 2, 3] rfl ?_
    exact zb_X9_reduce_57  e
  · refine gy_if_lt (tgt := 57) (gi_rgS g10) dX9_reduce_26 (by decide) (fun z => absurd z c11) (fun _ => ?_)
    refine gx_iload_n dX9_reduce_29 rfl 3 rfl ?_
    refine gx_iload dX9_reduce_30 4 rfl ?_
    refine gy_iconst dX9_reduce_32 ?_
    refine gy_iadd dX9_reduce_33 ?_
    refine gx_aload_n dX9_reduce_34 rfl 0 rfl ?_
    refine gx_bE e (fun _ hu22 e => ?_)
    refine gx_bE e (fun q23 hq23 e => ?_)
    refine gx_callV (n := 0) (st := [.int (gI (v4 + (1 : Int))), .int (gI v3)]) (As := []) (b := v0) dX9_reduce_35 (z_X9_worthOfTop hq23) rfl ⟨rfl, gw_cw_X9_worthOfTop, gw_10, gp_X9_worthOfTop, ⟨Nat.le_of_ble_eq_true rfl, Nat.le_of_ble_eq_true rfl⟩⟩ (gi_isS hu22) (by decide) gw_1240 gw_1242 gs_56 rfl ⟨Nat.le_of_ble_eq_true rfl, Nat.le_of_ble_eq_true rfl⟩ (Nat.le_of_ble_eq_true rfl) (gy_k1 (x := .int (gI q23)) (kc2 := 0) (ks2 := 0) ⟨rfl, rfl⟩ ?_) gy_kn
    refine gy_imul dX9_reduce_38 ?_
    refine gy_iadd dX9_reduce_39 ?_
    refine gx_nE e (fun t24 ht24 e => ?_)
    rw [ht24]
    refine gx_istore_n (ls2 := [(3, .int (gI t24)), (0, .ref v0), (1, .int (gI v1)), (2, .ref v2), (4, .int (gI v4))]) dX9_reduce_40 rfl (Nat.le_of_ble_eq_true rfl) rfl ?_
    refine gx_aload_n dX9_reduce_41 rfl 1 rfl ?_
    refine gx_dup dX9_reduce_42 rfl ?_
    refine gx_bE e (fun t25 ht25 e => ?_)
    refine gy_fI ht25 dX9_reduce_43 gf_RX9_45_8_12 (by decide) gkN_8_12 gkR_8_12 ?_
    refine gy_iconst dX9_reduce_46 ?_
    refine gy_isub dX9_reduce_47 ?_
    refine gx_bE e (fun h26 hh26 e => ?_)
    refine gy_qI hh26 dX9_reduce_48 gf_RX9_45_8_12 (by decide) gkN_8_12 rfl (Or.inl rfl) ?_
    refine gx_nE e (fun t27 ht27 e => ?_)
    refine gy_iinc (v := t27) (ls2 := [(4, .int (gI t27)), (3, .int (gI t24)), (0, .ref v0), (1, .int (gI v1)), (2, .ref v2)]) dX9_reduce_51 4 rfl ht27 (Nat.le_of_ble_eq_true rfl) rfl ?_
    refine gx_goto (tgt := 24) dX9_reduce_54 (by decide) ?_
    refine gx_sub (ls2 := [(0, .ref v0), (1, .int (gI v1)), (2, .ref v2), (3, .int (gI t24)), (4, .int (gI t27))]) [2, 3, 4, 1, 0] rfl ?_
    exact hr24 _ _ _ _ _ _ e
def l_X9_reduce_24 (n : Nat)  : Nat → Nat → Int → Nat → Int → Int → gi_H → Option (gi_H)
  | 0, _, _, _, _, _, _ => none
  | k + 1, v0, v1, v2, v3, v4, h => b_X9_reduce_24 n  (l_X9_reduce_24 n  k) v0 v1 v2 v3 v4 h
theorem zl_X9_reduce_24 {al : Bool} {n : Nat}  {h1 : gi_H}  : ∀ (k : Nat) (v0 : Nat) (v1 : Int) (v2 : Nat) (v3 : Int) (v4 : Int) (h : gi_H), l_X9_reduce_24 n  k v0 v1 v2 v3 v4 h = some h1 → gx_Z mX9_reduce al al 0 0 24 [(0, .ref v0), (1, .int (gI v1)), (2, .ref v2), (3, .int (gI v3)), (4, .int (gI v4))] [] (gi_cv h) (.inl none) (gi_cv h1)
  | 0, _, _, _, _, _, _, e => gx_0E e
  | k + 1, _, _, _, _, _, _, e => zb_X9_reduce_24 (n := n)  (zl_X9_reduce_24  k) e
set_option maxRecDepth 100000 in
def f_X9_reduce (n : Nat) (v0 : Nat) (v1 : Int) (h : gi_H) : Option (gi_H) :=
  Option.bind (gi_gR h v0 8 1) fun t1 => Option.bind (gi_is h t1 0) fun _ => Option.bind (f_X0_facts t1 h) fun q3 => Option.bind (gi_is h q3 2) fun _ => Option.bind (f_X3_grammar q3 h) fun q5 => gx_nm (v1 + (1 : Int)) fun t6 => Option.bind (gi_is h q5 3) fun _ => Option.bind (f_X4_length q5 v1 h) fun q8 => gx_nm (q8 - (1 : Int)) fun t9 => l_X9_reduce_24 n  n v0 v1 q5 t6 t9 h
set_option maxRecDepth 100000 in
theorem z_X9_reduce {al : Bool} {n : Nat} {v0 : Nat} {v1 : Int} {h : gi_H} {h1 : gi_H} (e : f_X9_reduce n v0 v1 h = some h1) : gx_Cw mX9_reduce al [.ref v0, .int (gI v1)] (gi_cv h) (.inl none) (gi_cv h1) := by
  refine gx_enter (by decide +kernel) rfl (Nat.le_of_ble_eq_true rfl) ?_
  show gx_Z mX9_reduce al al 0 0 0 [(0, .ref v0), (1, .int (gI v1))] [] (gi_cv h) (.inl none) (gi_cv h1)
  refine gx_aload_n dX9_reduce_0 rfl 0 rfl ?_
  refine gx_bE e (fun t1 ht1 e => ?_)
  refine gy_fR ht1 dX9_reduce_1 gf_RX9_18_8_1 (by decide) gkN_8_1 gkR_8_1 ?_
  refine gx_bE e (fun _ hu2 e => ?_)
  refine gx_bE e (fun q3 hq3 e => ?_)
  refine gx_callV (n := 0) (st := []) (As := []) (b := t1) dX9_reduce_4 (z_X0_facts hq3) rfl ⟨rfl, gw_cw_X0_facts, gw_7, gp_X0_facts, ⟨Nat.le_of_ble_eq_true rfl, Nat.le_of_ble_eq_true rfl⟩⟩ (gi_isS hu2) (by decide) gw_1100 gw_1101 gw_1102 rfl ⟨Nat.le_of_ble_eq_true rfl, Nat.le_of_ble_eq_true rfl⟩ (Nat.le_of_ble_eq_true rfl) (gy_k1 (x := .ref q3) (kc2 := 0) (ks2 := 0) ⟨rfl, rfl⟩ ?_) gy_kn
  refine gx_bE e (fun _ hu4 e => ?_)
  refine gx_bE e (fun q5 hq5 e => ?_)
  refine gx_callV (n := 0) (st := []) (As := []) (b := q3) dX9_reduce_7 (z_X3_grammar hq5) rfl ⟨rfl, gw_cw_X3_grammar, gw_6, gp_X3_grammar, ⟨Nat.le_of_ble_eq_true rfl, Nat.le_of_ble_eq_true rfl⟩⟩ (gi_isS hu4) (by decide) gw_1104 gw_553 gw_554 rfl ⟨Nat.le_of_ble_eq_true rfl, Nat.le_of_ble_eq_true rfl⟩ (Nat.le_of_ble_eq_true rfl) (gy_k1 (x := .ref q5) (kc2 := 0) (ks2 := 0) ⟨rfl, rfl⟩ ?_) gy_kn
  refine gx_astore_n (ls2 := [(2, .ref q5), (0, .ref v0), (1, .int (gI v1))]) dX9_reduce_10 rfl (Nat.le_of_ble_eq_true rfl) rfl ?_
  refine gx_iload_n dX9_reduce_11 rfl 2 rfl ?_
  refine gy_iconst dX9_reduce_12 ?_
  refine gy_iadd dX9_reduce_13 ?_
  refine gx_nE e (fun t6 ht6 e => ?_)
  rw [ht6]
  refine gx_istore_n (ls2 := [(3, .int (gI t6)), (2, .ref q5), (0, .ref v0), (1, .int (gI v1))]) dX9_reduce_14 rfl (Nat.le_of_ble_eq_true rfl) rfl ?_
  refine gx_aload_n dX9_reduce_15 rfl 1 rfl ?_
  refine gx_iload_n dX9_reduce_16 rfl 3 rfl ?_
  refine gx_bE e (fun _ hu7 e => ?_)
  refine gx_bE e (fun q8 hq8 e => ?_)
  refine gx_callV (n := 1) (st := []) (As := [.int (gI v1)]) (b := q5) dX9_reduce_17 (z_X4_length hq8) rfl ⟨rfl, gw_cw_X4_length, gw_3, gp_X4_length, ⟨Nat.le_of_ble_eq_true rfl, Nat.le_of_ble_eq_true rfl⟩⟩ (gi_isS hu7) (by decide) gw_1117 gw_411 gw_412 rfl ⟨Nat.le_of_ble_eq_true rfl, Nat.le_of_ble_eq_true rfl⟩ (Nat.le_of_ble_eq_true rfl) (gy_k1 (x := .int (gI q8)) (kc2 := 0) (ks2 := 0) ⟨rfl, rfl⟩ ?_) gy_kn
  refine gy_iconst dX9_reduce_20 ?_
  refine gy_isub dX9_reduce_21 ?_
  refine gx_nE e (fun t9 ht9 e => ?_)
  rw [ht9]
  refine gx_istore (ls2 := [(4, .int (gI t9)), (3, .int (gI t6)), (2, .ref q5), (0, .ref v0), (1, .int (gI v1))]) dX9_reduce_22 (Nat.le_of_ble_eq_true rfl) rfl ?_
  refine gx_sub (ls2 := [(0, .ref v0), (1, .int (gI v1)), (2, .ref q5), (3, .int (gI t6)), (4, .int (gI t9))]) [3, 4, 2, 1, 0] rfl ?_
  exact zl_X9_reduce_24  n _ _ _ _ _ _ e
/-! X9_run  -/
set_option maxRecDepth 100000 in
def b_X9_run_64 (n : Nat)  (v0 : Nat)  (h : gi_H) : Option (Int × gi_H) :=
  Option.bind (gi_is h v0 8) fun _ => Option.bind (f_X9_worthOfTop v0 h) fun q20 => Option.bind (gi_is h v0 8) fun _ => Option.bind (f_X10_keepWorth_8 v0 q20 h) fun q22 => some ((-1 : Int), q22)
set_option maxRecDepth 100000 in
theorem zb_X9_run_64 {al : Bool} {n : Nat}  {res : Int} {h1 : gi_H}  {v0 : Nat}  {h : gi_H} (e : b_X9_run_64 n v0 h = some (res, h1)) : gx_Z mX9_run al al 0 0 64 [(0, .ref v0)] [] (gi_cv h) (.inl (some (.int (gI res)))) (gi_cv h1) := by
  refine gx_aload_n dX9_run_64 rfl 0 rfl ?_
  refine gx_aload_n dX9_run_65 rfl 0 rfl ?_
  refine gx_bE e (fun _ hu19 e => ?_)
  refine gx_bE e (fun q20 hq20 e => ?_)
  refine gx_callV (n := 0) (st := [.ref v0]) (As := []) (b := v0) dX9_run_66 (z_X9_worthOfTop hq20) rfl ⟨rfl, gw_cw_X9_worthOfTop, gw_10, gp_X9_worthOfTop, ⟨Nat.le_of_ble_eq_true rfl, Nat.le_of_ble_eq_true rfl⟩⟩ (gi_isS hu19) (by decide) gw_1240 gw_1242 gs_56 rfl ⟨Nat.le_of_ble_eq_true rfl, Nat.le_of_ble_eq_true rfl⟩ (Nat.le_of_ble_eq_true rfl) (gy_k1 (x := .int (gI q20)) (kc2 := 0) (ks2 := 0) ⟨rfl, rfl⟩ ?_) gy_kn
  refine gx_bE e (fun _ hu21 e => ?_)
  refine gx_bE e (fun q22 hq22 e => ?_)
  refine gx_callU (n := 1) (st := []) (As := [.int (gI q20)]) (b := v0) dX9_run_69 (z_X10_keepWorth_8 hq22) rfl ⟨rfl, gw_cw_X10_keepWorth, gw_8, gp_X10_keepWorth, ⟨Nat.le_of_ble_eq_true rfl, Nat.le_of_ble_eq_true rfl⟩⟩ (gi_isS hu21) (by decide) (x := ⟨"Grammarsmith$StateTable", "keepWorth", "(I)V"⟩) (owner := "Grammarsmith$Table") gw_1244 gw_1245 gw_1246 gw_1209 rfl (by decide +kernel) ⟨Nat.le_of_ble_eq_true rfl, Nat.le_of_ble_eq_true rfl⟩ (Nat.le_of_ble_eq_true rfl) (gy_k0 (kc2 := 0) (ks2 := 0) ⟨rfl, rfl⟩ ?_) gy_kn
  refine gy_iconst dX9_run_72 ?_
  cases e
  exact gx_iret dX9_run_73 rfl ⟨Nat.le_of_ble_eq_true rfl, Nat.le_of_ble_eq_true rfl⟩ (fun z => z)
set_option maxRecDepth 100000 in
def b_X9_run_134 (n : Nat) (r30 : Nat → Int → Int → gi_H → Option (Int × gi_H)) (v0 : Nat) (v1 : Int) (v2 : Int)  (h : gi_H) : Option (Int × gi_H) :=
  gx_nm (v2 + (1 : Int)) fun t27 => r30 v0 v1 t27 h
set_option maxRecDepth 100000 in
theorem zb_X9_run_134 {al : Bool} {n : Nat} {r30 : Nat → Int → Int → gi_H → Option (Int × gi_H)} {res : Int} {h1 : gi_H} (hr30 : ∀ (x0 : Nat) (x1 : Int) (x2 : Int) (hh : gi_H), r30 x0 x1 x2 hh = some (res, h1) → gx_Z mX9_run al al 0 0 30 [(0, .ref x0), (1, .int (gI x1)), (2, .int (gI x2))] [] (gi_cv hh) (.inl (some (.int (gI res)))) (gi_cv h1)) {v0 : Nat} {v1 : Int} {v2 : Int}  {h : gi_H} (e : b_X9_run_134 n r30 v0 v1 v2 h = some (res, h1)) : gx_Z mX9_run al al 0 0 134 [(0, .ref v0), (1, .int (gI v1)), (2, .int (gI v2))] [] (gi_cv h) (.inl (some (.int (gI res)))) (gi_cv h1) := by
  refine gx_nE e (fun t27 ht27 e => ?_)
  refine gy_iinc (v := t27) (ls2 := [(2, .int (gI t27)), (0, .ref v0), (1, .int (gI v1))]) dX9_run_134 2 rfl ht27 (Nat.le_of_ble_eq_true rfl) rfl ?_
  refine gx_goto (tgt := 30) dX9_run_137 (by decide) ?_
  refine gx_sub (ls2 := [(0, .ref v0), (1, .int (gI v1)), (2, .int (gI t27))]) [1, 2, 0] rfl ?_
  exact hr30 _ _ _ _ e
set_option maxRecDepth 100000 in
def b_X9_run_121 (n : Nat) (r30 : Nat → Int → Int → gi_H → Option (Int × gi_H)) (v0 : Nat) (v1 : Int) (v2 : Int) (v4 : Int)  (h : gi_H) : Option (Int × gi_H) :=
  Option.bind (gi_rg v2) fun _ => if (300 : Int) ≤ v2 then (b_X9_run_134 n r30 v0 v1 v2 h) else (Option.bind (gi_is h v0 8) fun _ => Option.bind (f_X9_reduce n v0 v4 h) fun q29 => b_X9_run_134 n r30 v0 v1 v2 q29)
set_option maxRecDepth 100000 in
theorem zb_X9_run_121 {al : Bool} {n : Nat} {r30 : Nat → Int → Int → gi_H → Option (Int × gi_H)} {res : Int} {h1 : gi_H} (hr30 : ∀ (x0 : Nat) (x1 : Int) (x2 : Int) (hh : gi_H), r30 x0 x1 x2 hh = some (res, h1) → gx_Z mX9_run al al 0 0 30 [(0, .ref x0), (1, .int (gI x1)), (2, .int (gI x2))] [] (gi_cv hh) (.inl (some (.int (gI res)))) (gi_cv h1)) {v0 : Nat} {v1 : Int} {v2 : Int} {v4 : Int}  {h : gi_H} (e : b_X9_run_121 n r30 v0 v1 v2 v4 h = some (res, h1)) : gx_Z mX9_run al al 0 0 121 [(0, .ref v0), (1, .int (gI v1)), (2, .int (gI v2)), (4, .int (gI v4))] [] (gi_cv h) (.inl (some (.int (gI res)))) (gi_cv h1) := by
  refine gx_iload_n dX9_run_121 rfl 2 rfl ?_
  refine gy_sipush dX9_run_122 gcs_300 ?_
  refine gx_bE e (fun _ g25 e => ?_)
  refine gx_iE e (fun c26 e => ?_) (fun c26 e => ?_)
  · refine gy_icmp_ge (tgt := 134) (gi_rgS g25) (by decide) dX9_run_125 (by decide) (fun _ => ?_) (fun z => absurd c26 z)
    refine gx_sub (ls2 := [(0, .ref v0), (1, .int (gI v1)), (2, .int (gI v2))]) [0, 1, 2] rfl ?_
    exact zb_X9_run_134 hr30 e
  · refine gy_icmp_ge (tgt := 134) (gi_rgS g25) (by decide) dX9_run_125 (by decide) (fun z => absurd z c26) (fun _ => ?_)
    refine gx_aload_n dX9_run_128 rfl 0 rfl ?_
    refine gx_iload dX9_run_129 3 rfl ?_
    refine gx_bE e (fun _ hu28 e => ?_)
    refine gx_bE e (fun q29 hq29 e => ?_)
    refine gx_callV (n := 1) (st := []) (As := [.int (gI v4)]) (b := v0) dX9_run_131 (z_X9_reduce hq29) rfl ⟨rfl, gw_cw_X9_reduce, gw_10, gp_X9_reduce, ⟨Nat.le_of_ble_eq_true rfl, Nat.le_of_ble_eq_true rfl⟩⟩ (gi_isS hu28) (by decide) gw_1247 gw_1249 gs_57 rfl ⟨Nat.le_of_ble_eq_true rfl, Nat.le_of_ble_eq_true rfl⟩ (Nat.le_of_ble_eq_true rfl) (gy_k0 (kc2 := 0) (ks2 := 0) ⟨rfl, rfl⟩ ?_) gy_kn
    refine gx_sub (ls2 := [(0, .ref v0), (1, .int (gI v1)), (2, .int (gI v2))]) [0, 1, 2] rfl ?_
    exact zb_X9_run_134 hr30 e
set_option maxRecDepth 100000 in
def b_X9_run_30 (n : Nat) (r30 : Nat → Int → Int → gi_H → Option (Int × gi_H)) (v0 : Nat) (v1 : Int) (v2 : Int)  (h : gi_H) : Option (Int × gi_H) :=
  Option.bind (gi_rg v2) fun _ => if (300 : Int) < v2 then (some ((-3 : Int), h)) else (Option.bind (gi_gR h v0 8 5) fun t11 => Option.bind (f_X11_lookAt t11 v1 h) fun q12 => Option.bind (gi_is h v0 8) fun _ => Option.bind (f_X9_state v0 h) fun q14 => Option.bind (gi_is h v0 8) fun _ => Option.bind (f_X9_action n v0 q14 q12 h) fun q16 => Option.bind (gi_rg q16.1) fun _ => if q16.1 = (25 : Int) then (b_X9_run_64 n  v0 q16.2) else (if q16.1 = (-1 : Int) then (some (v1, q16.2)) else (if (300 : Int) ≤ v2 then (b_X9_run_121 n r30 v0 v1 v2 q16.1 q16.2) else (if q16.1 = (24 : Int) then (Option.bind (gi_gR q16.2 v0 8 1) fun t31 => Option.bind (gi_is q16.2 v0 8) fun _ => Option.bind (f_X9_state v0 q16.2) fun q33 => Option.bind (gi_is q16.2 t31 0) fun _ => Option.bind (f_X0_move t31 q33 q12 q16.2) fun q35 => Option.bind (gi_is q16.2 v0 8) fun _ => Option.bind (f_X9_push v0 q35 (q12 + (1 : Int)) q16.2) fun q37 => gx_nm (v1 + (1 : Int)) fun t38 => b_X9_run_134 n r30 v0 t38 v2 q37) else (b_X9_run_121 n r30 v0 v1 v2 q16.1 q16.2)))))
set_option maxRecDepth 100000 in
theorem zb_X9_run_30 {al : Bool} {n : Nat} {r30 : Nat → Int → Int → gi_H → Option (Int × gi_H)} {res : Int} {h1 : gi_H} (hr30 : ∀ (x0 : Nat) (x1 : Int) (x2 : Int) (hh : gi_H), r30 x0 x1 x2 hh = some (res, h1) → gx_Z mX9_run al al 0 0 30 [(0, .ref x0), (1, .int (gI x1)), (2, .int (gI x2))] [] (gi_cv hh) (.inl (some (.int (gI res)))) (gi_cv h1)) {v0 : Nat} {v1 : Int} {v2 : Int}  {h : gi_H} (e : b_X9_run_30 n r30 v0 v1 v2 h = some (res, h1)) : gx_Z mX9_run al al 0 0 30 [(0, .ref v0), (1, .int (gI v1)), (2, .int (gI v2))] [] (gi_cv h) (.inl (some (.int (gI res)))) (gi_cv h1) := by
  refine gx_iload_n dX9_run_30 rfl 2 rfl ?_
  refine gy_sipush dX9_run_31 gcs_300 ?_
  refine gx_bE e (fun _ g9 e => ?_)
  refine gx_iE e (fun c10 e => ?_) (fun c10 e => ?_)
  · refine gy_icmp_gt (tgt := 140) (gi_rgS g9) (by decide) dX9_run_34 (by decide) (fun _ => ?_) (fun z => absurd c10 z)
    refine gy_bipush dX9_run_140 gcb_m3 ?_
    cases e
    exact gx_iret dX9_run_142 rfl ⟨Nat.le_of_ble_eq_true rfl, Nat.le_of_ble_eq_true rfl⟩ (fun z => z)
  · refine gy_icmp_gt (tgt := 140) (gi_rgS g9) (by decide) dX9_run_34 (by decide) (fun z => absurd z c10) (fun _ => ?_)
    refine gx_aload_n dX9_run_37 rfl 0 rfl ?_
    refine gx_bE e (fun t11 ht11 e => ?_)
    refine gy_fR ht11 dX9_run_38 gf_RX9_32_8_5 (by decide) gkN_8_5 gkR_8_5 ?_
    refine gx_iload_n dX9_run_41 rfl 1 rfl ?_
    refine gx_bE e (fun q12 hq12 e => ?_)
    refine gx_callSN (n := 2) (st := []) (As := [.ref t11, .int (gI v1)]) dX9_run_42 (z_X11_lookAt hq12) rfl ⟨rfl, gw_cw_X11_lookAt, gw_1, gp_X11_lookAt, ⟨Nat.le_of_ble_eq_true rfl, Nat.le_of_ble_eq_true rfl⟩⟩ (host := "Grammarsmith") (by decide +kernel) gw_1187 ⟨Nat.le_of_ble_eq_true rfl, Nat.le_of_ble_eq_true rfl⟩ (Nat.le_of_ble_eq_true rfl) (gy_k1 (x := .int (gI q12)) (kc2 := 0) (ks2 := 0) ⟨rfl, rfl⟩ ?_) gy_kn
    refine gx_istore_n (ls2 := [(3, .int (gI q12)), (0, .ref v0), (1, .int (gI v1)), (2, .int (gI v2))]) dX9_run_45 rfl (Nat.le_of_ble_eq_true rfl) rfl ?_
    refine gx_aload_n dX9_run_46 rfl 1 rfl ?_
    refine gx_aload_n dX9_run_47 rfl 1 rfl ?_
    refine gx_bE e (fun _ hu13 e => ?_)
    refine gx_bE e (fun q14 hq14 e => ?_)
    refine gx_callV (n := 0) (st := [.ref v0]) (As := []) (b := v0) dX9_run_48 (z_X9_state hq14) rfl ⟨rfl, gw_cw_X9_state, gw_10, gp_X9_state, ⟨Nat.le_of_ble_eq_true rfl, Nat.le_of_ble_eq_true rfl⟩⟩ (gi_isS hu13) (by decide) gw_1228 gw_1230 gs_53 rfl ⟨Nat.le_of_ble_eq_true rfl, Nat.le_of_ble_eq_true rfl⟩ (Nat.le_of_ble_eq_true rfl) (gy_k1 (x := .int (gI q14)) (kc2 := 0) (ks2 := 0) ⟨rfl, rfl⟩ ?_) gy_kn
    refine gx_iload_n dX9_run_51 rfl 0 rfl ?_
    refine gx_bE e (fun _ hu15 e => ?_)
    refine gx_bE e (fun q16 hq16 e => ?_)
    refine gx_callV (n := 2) (st := []) (As := [.int (gI q14), .int (gI q12)]) (b := v0) dX9_run_52 (z_X9_action hq16) rfl ⟨rfl, gw_cw_X9_action, gw_10, gp_X9_action, ⟨Nat.le_of_ble_eq_true rfl, Nat.le_of_ble_eq_true rfl⟩⟩ (gi_isS hu15) (by decide) gw_1232 gw_1234 gs_54 rfl ⟨Nat.le_of_ble_eq_true rfl, Nat.le_of_ble_eq_true rfl⟩ (Nat.le_of_ble_eq_true rfl) (gy_k1 (x := .int (gI q16.1)) (kc2 := 0) (ks2 := 0) ⟨rfl, rfl⟩ ?_) gy_kn
    refine gx_istore (ls2 := [(4, .int (gI q16.1)), (3, .int (gI q12)), (0, .ref v0), (1, .int (gI v1)), (2, .int (gI v2))]) dX9_run_55 (Nat.le_of_ble_eq_true rfl) rfl ?_
    refine gx_iload dX9_run_57 0 rfl ?_
    refine gy_bipush dX9_run_59 gcb_25 ?_
    refine gx_bE e (fun _ g17 e => ?_)
    refine gx_iE e (fun c18 e => ?_) (fun c18 e => ?_)
    · refine gy_icmp_ne (tgt := 74) (gi_rgS g17) (by decide) dX9_run_61 (by decide) (fun z => absurd c18 z) (fun _ => ?_)
      refine gx_sub (ls2 := [(0, .ref v0)]) [2] rfl ?_
      exact zb_X9_run_64  e
    · refine gy_icmp_ne (tgt := 74) (gi_rgS g17) (by decide) dX9_run_61 (by decide) (fun _ => ?_) (fun z => absurd z c18)
      refine gx_iload dX9_run_74 0 rfl ?_
      refine gy_iconst dX9_run_76 ?_
      refine gx_iE e (fun c23 e => ?_) (fun c23 e => ?_)
      · refine gy_icmp_ne (tgt := 82) (gi_rgS g17) (by decide) dX9_run_77 (by decide) (fun z => absurd c23 z) (fun _ => ?_)
        refine gx_iload_n dX9_run_80 rfl 3 rfl ?_
        cases e
        exact gx_iret dX9_run_81 rfl ⟨Nat.le_of_ble_eq_true rfl, Nat.le_of_ble_eq_true rfl⟩ (fun z => z)
      · refine gy_icmp_ne (tgt := 82) (gi_rgS g17) (by decide) dX9_run_77 (by decide) (fun _ => ?_) (fun z => absurd z c23)
        refine gx_iload_n dX9_run_82 rfl 4 rfl ?_
        refine gy_sipush dX9_run_83 gcs_300 ?_
        refine gx_iE e (fun c24 e => ?_) (fun c24 e => ?_)
        · refine gy_icmp_ge (tgt := 121) (gi_rgS g9) (by decide) dX9_run_86 (by decide) (fun _ => ?_) (fun z => absurd c24 z)
          refine gx_sub (ls2 := [(0, .ref v0), (1, .int (gI v1)), (2, .int (gI v2)), (4, .int (gI q16.1))]) [2, 3, 4, 0] rfl ?_
          exact zb_X9_run_121 hr30 e
        · refine gy_icmp_ge (tgt := 121) (gi_rgS g9) (by decide) dX9_run_86 (by decide) (fun z => absurd z c24) (fun _ => ?_)
          refine gx_iload dX9_run_89 0 rfl ?_
          refine gy_bipush dX9_run_91 gcb_24 ?_
          refine gx_iE e (fun c30 e => ?_) (fun c30 e => ?_)
          · refine gy_icmp_ne (tgt := 121) (gi_rgS g17) (by decide) dX9_run_93 (by decide) (fun z => absurd c30 z) (fun _ => ?_)
            refine gx_aload_n dX9_run_96 rfl 2 rfl ?_
            refine gx_aload_n dX9_run_97 rfl 2 rfl ?_
            refine gx_bE e (fun t31 ht31 e => ?_)
            refine gy_fR ht31 dX9_run_98 gf_RX9_18_8_1 (by decide) gkN_8_1 gkR_8_1 ?_
            refine gx_aload_n dX9_run_101 rfl 2 rfl ?_
            refine gx_bE e (fun _ hu32 e => ?_)
            refine gx_bE e (fun q33 hq33 e => ?_)
            refine gx_callV (n := 0) (st := [.ref t31, .ref v0]) (As := []) (b := v0) dX9_run_102 (z_X9_state hq33) rfl ⟨rfl, gw_cw_X9_state, gw_10, gp_X9_state, ⟨Nat.le_of_ble_eq_true rfl, Nat.le_of_ble_eq_true rfl⟩⟩ (gi_isS hu32) (by decide) gw_1228 gw_1230 gs_53 rfl ⟨Nat.le_of_ble_eq_true rfl, Nat.le_of_ble_eq_true rfl⟩ (Nat.le_of_ble_eq_true rfl) (gy_k1 (x := .int (gI q33)) (kc2 := 0) (ks2 := 0) ⟨rfl, rfl⟩ ?_) gy_kn
            refine gx_iload_n dX9_run_105 rfl 1 rfl ?_
            refine gx_bE e (fun _ hu34 e => ?_)
            refine gx_bE e (fun q35 hq35 e => ?_)
            refine gx_callV (n := 2) (st := [.ref v0]) (As := [.int (gI q33), .int (gI q12)]) (b := t31) dX9_run_106 (z_X0_move hq35) rfl ⟨rfl, gw_cw_X0_move, gw_7, gp_X0_move, ⟨Nat.le_of_ble_eq_true rfl, Nat.le_of_ble_eq_true rfl⟩⟩ (gi_isS hu34) (by decide) gw_1106 gw_1107 gw_1108 rfl ⟨Nat.le_of_ble_eq_true rfl, Nat.le_of_ble_eq_true rfl⟩ (Nat.le_of_ble_eq_true rfl) (gy_k1 (x := .int (gI q35)) (kc2 := 0) (ks2 := 0) ⟨rfl, rfl⟩ ?_) gy_kn
            refine gx_iload_n dX9_run_109 rfl 1 rfl ?_
            refine gy_iconst dX9_run_110 ?_
            refine gy_iadd dX9_run_111 ?_
            refine gx_bE e (fun _ hu36 e => ?_)
            refine gx_bE e (fun q37 hq37 e => ?_)
            refine gx_callV (n := 2) (st := []) (As := [.int (gI q35), .int (gI (q12 + (1 : Int)))]) (b := v0) dX9_run_112 (z_X9_push hq37) rfl ⟨rfl, gw_cw_X9_push, gw_10, gp_X9_push, ⟨Nat.le_of_ble_eq_true rfl, Nat.le_of_ble_eq_true rfl⟩⟩ (gi_isS hu36) (by decide) gw_1223 gw_1225 gs_52 rfl ⟨Nat.le_of_ble_eq_true rfl, Nat.le_of_ble_eq_true rfl⟩ (Nat.le_of_ble_eq_true rfl) (gy_k0 (kc2 := 0) (ks2 := 0) ⟨rfl, rfl⟩ ?_) gy_kn
            refine gx_nE e (fun t38 ht38 e => ?_)
            refine gy_iinc (v := t38) (ls2 := [(1, .int (gI t38)), (4, .int (gI q16.1)), (3, .int (gI q12)), (0, .ref v0), (2, .int (gI v2))]) dX9_run_115 3 rfl ht38 (Nat.le_of_ble_eq_true rfl) rfl ?_
            refine gx_goto (tgt := 134) dX9_run_118 (by decide) ?_
            refine gx_sub (ls2 := [(0, .ref v0), (1, .int (gI t38)), (2, .int (gI v2))]) [3, 0, 4] rfl ?_
            exact zb_X9_run_134 hr30 e
          · refine gy_icmp_ne (tgt := 121) (gi_rgS g17) (by decide) dX9_run_93 (by decide) (fun _ => ?_) (fun z => absurd z c30)
            refine gx_sub (ls2 := [(0, .ref v0), (1, .int (gI v1)), (2, .int (gI v2)), (4, .int (gI q16.1))]) [2, 3, 4, 0] rfl ?_
            exact zb_X9_run_121 hr30 e
def l_X9_run_30 (n : Nat)  : Nat → Nat → Int → Int → gi_H → Option (Int × gi_H)
  | 0, _, _, _, _ => none
  | k + 1, v0, v1, v2, h => b_X9_run_30 n  (l_X9_run_30 n  k) v0 v1 v2 h
theorem zl_X9_run_30 {al : Bool} {n : Nat}  {res : Int} {h1 : gi_H}  : ∀ (k : Nat) (v0 : Nat) (v1 : Int) (v2 : Int) (h : gi_H), l_X9_run_30 n  k v0 v1 v2 h = some (res, h1) → gx_Z mX9_run al al 0 0 30 [(0, .ref v0), (1, .int (gI v1)), (2, .int (gI v2))] [] (gi_cv h) (.inl (some (.int (gI res)))) (gi_cv h1)
  | 0, _, _, _, _, e => gx_0E e
  | k + 1, _, _, _, _, e => zb_X9_run_30 (n := n)  (zl_X9_run_30  k) e
set_option maxRecDepth 100000 in
def f_X9_run (n : Nat) (v0 : Nat) (h : gi_H) : Option (Int × gi_H) :=
  Option.bind (gi_gR h v0 8 1) fun t1 => Option.bind (gi_is h t1 0) fun _ => Option.bind (f_X0_extent t1 h) fun q3 => Option.bind (gi_rg q3) fun _ => if q3 = (-2 : Int) then (some ((-2 : Int), h)) else (Option.bind (gi_pI h v0 8 12 (0 : Int)) fun h6 => Option.bind (gi_is h6 v0 8) fun _ => Option.bind (f_X9_push v0 (0 : Int) (0 : Int) h6) fun q8 => l_X9_run_30 n  n v0 (0 : Int) (0 : Int) q8)
set_option maxRecDepth 100000 in
theorem z_X9_run {al : Bool} {n : Nat} {v0 : Nat} {h : gi_H} {res : Int} {h1 : gi_H} (e : f_X9_run n v0 h = some (res, h1)) : gx_Cw mX9_run al [.ref v0] (gi_cv h) (.inl (some (.int (gI res)))) (gi_cv h1) := by
  refine gx_enter (by decide +kernel) rfl (Nat.le_of_ble_eq_true rfl) ?_
  show gx_Z mX9_run al al 0 0 0 [(0, .ref v0)] [] (gi_cv h) (.inl (some (.int (gI res)))) (gi_cv h1)
  refine gx_aload_n dX9_run_0 rfl 0 rfl ?_
  refine gx_bE e (fun t1 ht1 e => ?_)
  refine gy_fR ht1 dX9_run_1 gf_RX9_18_8_1 (by decide) gkN_8_1 gkR_8_1 ?_
  refine gx_bE e (fun _ hu2 e => ?_)
  refine gx_bE e (fun q3 hq3 e => ?_)
  refine gx_callV (n := 0) (st := []) (As := []) (b := t1) dX9_run_4 (z_X0_extent hq3) rfl ⟨rfl, gw_cw_X0_extent, gw_7, gp_X0_extent, ⟨Nat.le_of_ble_eq_true rfl, Nat.le_of_ble_eq_true rfl⟩⟩ (gi_isS hu2) (by decide) gw_1072 gw_1073 gw_1074 rfl ⟨Nat.le_of_ble_eq_true rfl, Nat.le_of_ble_eq_true rfl⟩ (Nat.le_of_ble_eq_true rfl) (gy_k1 (x := .int (gI q3)) (kc2 := 0) (ks2 := 0) ⟨rfl, rfl⟩ ?_) gy_kn
  refine gy_bipush dX9_run_7 gcb_m2 ?_
  refine gx_bE e (fun _ g4 e => ?_)
  refine gx_iE e (fun c5 e => ?_) (fun c5 e => ?_)
  · refine gy_icmp_ne (tgt := 15) (gi_rgS g4) (by decide) dX9_run_9 (by decide) (fun z => absurd c5 z) (fun _ => ?_)
    refine gy_bipush dX9_run_12 gcb_m2 ?_
    cases e
    exact gx_iret dX9_run_14 rfl ⟨Nat.le_of_ble_eq_true rfl, Nat.le_of_ble_eq_true rfl⟩ (fun z => z)
  · refine gy_icmp_ne (tgt := 15) (gi_rgS g4) (by decide) dX9_run_9 (by decide) (fun _ => ?_) (fun z => absurd z c5)
    refine gx_aload_n dX9_run_15 rfl 0 rfl ?_
    refine gy_iconst dX9_run_16 ?_
    refine gx_bE e (fun h6 hh6 e => ?_)
    refine gy_qI hh6 dX9_run_17 gf_RX9_45_8_12 (by decide) gkN_8_12 rfl (Or.inl rfl) ?_
    refine gx_aload_n dX9_run_20 rfl 0 rfl ?_
    refine gy_iconst dX9_run_21 ?_
    refine gy_iconst dX9_run_22 ?_
    refine gx_bE e (fun _ hu7 e => ?_)
    refine gx_bE e (fun q8 hq8 e => ?_)
    refine gx_callV (n := 2) (st := []) (As := [.int (gI (0 : Int)), .int (gI (0 : Int))]) (b := v0) dX9_run_23 (z_X9_push hq8) rfl ⟨rfl, gw_cw_X9_push, gw_10, gp_X9_push, ⟨Nat.le_of_ble_eq_true rfl, Nat.le_of_ble_eq_true rfl⟩⟩ (gi_isS hu7) (by decide) gw_1223 gw_1225 gs_52 rfl ⟨Nat.le_of_ble_eq_true rfl, Nat.le_of_ble_eq_true rfl⟩ (Nat.le_of_ble_eq_true rfl) (gy_k0 (kc2 := 0) (ks2 := 0) ⟨rfl, rfl⟩ ?_) gy_kn
    refine gy_iconst dX9_run_26 ?_
    refine gx_istore_n (ls2 := [(1, .int (gI (0 : Int))), (0, .ref v0)]) dX9_run_27 rfl (Nat.le_of_ble_eq_true rfl) rfl ?_
    refine gy_iconst dX9_run_28 ?_
    refine gx_istore_n (ls2 := [(2, .int (gI (0 : Int))), (1, .int (gI (0 : Int))), (0, .ref v0)]) dX9_run_29 rfl (Nat.le_of_ble_eq_true rfl) rfl ?_
    refine gx_sub (ls2 := [(0, .ref v0), (1, .int (gI (0 : Int))), (2, .int (gI (0 : Int)))]) [2, 1, 0] rfl ?_
    exact zl_X9_run_30  n _ _ _ _ e
/-! X11_parse  -/
set_option maxRecDepth 100000 in
def f_X11_parse (n : Nat) (v0 : Nat) (v1 : Int) (h : gi_H) : Option ((Int ⊕ String) × gi_H) :=
  Option.bind (f_X11_requireKind v1 h) fun q1 => gx_sm q1.1 (fun t2 => Option.bind (gi_is q1.2 v0 9) fun _ => Option.bind (f_X11_table n v0 v1 q1.2) fun q4 => if gi_S q4.2 q4.1 = (0, 4) then (Option.bind (gi_is q4.2 q4.1 4) fun _ => Option.bind (f_X5_run n q4.1 q4.2) fun q7 => some (.inl q7.1, q7.2)) else (Option.bind (gi_is q4.2 q4.1 8) fun _ => Option.bind (f_X9_run n q4.1 q4.2) fun q9 => some (.inl q9.1, q9.2))) (fun t2 => some (.inr t2, q1.2))
set_option maxRecDepth 100000 in
theorem z_X11_parse {n : Nat} {v0 : Nat} {v1 : Int} {h : gi_H} {res : Int ⊕ String} {h1 : gi_H} (e : f_X11_parse n v0 v1 h = some (res, h1)) : gx_Cw mX11_parse false [.ref v0, .int (gI v1)] (gi_cv h) (gx_oI res) (gi_cv h1) := by
  refine gx_enter (by decide +kernel) rfl (Nat.le_of_ble_eq_true rfl) ?_
  show gx_Z mX11_parse false false 0 0 0 [(0, .ref v0), (1, .int (gI v1))] [] (gi_cv h) (gx_oI res) (gi_cv h1)
  refine gx_iload_n dX11_parse_0 rfl 1 rfl ?_
  refine gx_bE e (fun q1 hq1 e => ?_)
  refine gx_smE e (fun t2 ht2 e => ?_) (fun t2 ht2 e => ?_)
  · have zq1 := z_X11_requireKind hq1
    rw [ht2] at zq1
    refine gx_callS (n := 1) (st := []) (As := [.int (gI v1)]) dX11_parse_1 zq1 rfl ⟨rfl, gw_cw_X11_requireKind, gw_1, gp_X11_requireKind, ⟨Nat.le_of_ble_eq_true rfl, Nat.le_of_ble_eq_true rfl⟩⟩ gw_971 gw_972 ⟨Nat.le_of_ble_eq_true rfl, Nat.le_of_ble_eq_true rfl⟩ (Nat.le_of_ble_eq_true rfl) (gy_k0 (kc2 := 1) (ks2 := 6) ⟨rfl, rfl⟩ ?_) gy_kn
    refine gx_aload_n dX11_parse_4 rfl 0 rfl ?_
    refine gx_iload_n dX11_parse_5 rfl 1 rfl ?_
    refine gx_bE e (fun _ hu3 e => ?_)
    refine gx_bE e (fun q4 hq4 e => ?_)
    refine gx_callV (n := 1) (st := []) (As := [.int (gI v1)]) (b := v0) dX11_parse_6 (z_X11_table hq4) rfl ⟨rfl, gw_cw_X11_table, gw_1, gp_X11_table, ⟨Nat.le_of_ble_eq_true rfl, Nat.le_of_ble_eq_true rfl⟩⟩ (gi_isS hu3) (by decide) gw_975 gw_977 gs_25 rfl ⟨Nat.le_of_ble_eq_true rfl, Nat.le_of_ble_eq_true rfl⟩ (Nat.le_of_ble_eq_true rfl) (gy_k1 (x := .ref q4.1) (kc2 := 1) (ks2 := 6) ⟨rfl, rfl⟩ ?_) gy_kn
    refine gx_iE e (fun c5 e => ?_) (fun c5 e => ?_)
    · refine gx_bE e (fun _ hu6 e => ?_)
      refine gx_bE e (fun q7 hq7 e => ?_)
      refine gx_callA (n := 0) (st := []) (As := []) (b := q4.1) dX11_parse_9 (z_X5_run hq7) rfl ⟨rfl, gw_cw_X5_run, gw_9, gp_X5_run, ⟨Nat.le_of_ble_eq_true rfl, Nat.le_of_ble_eq_true rfl⟩⟩ (gi_isS hu6) (by decide) (x := ⟨"Grammarsmith$Table", "run", "()I"⟩) (owner := "Grammarsmith$Table") gw_1175 gw_1177 gw_1178 gw_1179 (by decide +kernel) (by decide +kernel) ⟨Nat.le_of_ble_eq_true rfl, Nat.le_of_ble_eq_true rfl⟩ (Nat.le_of_ble_eq_true rfl) (gy_k1 (x := .int (gI q7.1)) (kc2 := 1) (ks2 := 6) ⟨rfl, rfl⟩ ?_) gy_kn
      cases e
      exact gx_iret dX11_parse_12 rfl ⟨Nat.le_of_ble_eq_true rfl, Nat.le_of_ble_eq_true rfl⟩ (fun z => z)
    · refine gx_bE e (fun _ hu8 e => ?_)
      refine gx_bE e (fun q9 hq9 e => ?_)
      refine gx_callA (n := 0) (st := []) (As := []) (b := q4.1) dX11_parse_9 (z_X9_run hq9) rfl ⟨rfl, gw_cw_X9_run, gw_10, gp_X9_run, ⟨Nat.le_of_ble_eq_true rfl, Nat.le_of_ble_eq_true rfl⟩⟩ (gi_isS hu8) (by decide) (x := ⟨"Grammarsmith$Table", "run", "()I"⟩) (owner := "Grammarsmith$Table") gw_1175 gw_1177 gw_1220 gw_1221 (by decide +kernel) (by decide +kernel) ⟨Nat.le_of_ble_eq_true rfl, Nat.le_of_ble_eq_true rfl⟩ (Nat.le_of_ble_eq_true rfl) (gy_k1 (x := .int (gI q9.1)) (kc2 := 1) (ks2 := 6) ⟨rfl, rfl⟩ ?_) gy_kn
      cases e
      exact gx_iret dX11_parse_12 rfl ⟨Nat.le_of_ble_eq_true rfl, Nat.le_of_ble_eq_true rfl⟩ (fun z => z)
  · have zq1 := z_X11_requireKind hq1
    rw [ht2] at zq1
    refine gx_callS (n := 1) (st := []) (As := [.int (gI v1)]) dX11_parse_1 zq1 rfl ⟨rfl, gw_cw_X11_requireKind, gw_1, gp_X11_requireKind, ⟨Nat.le_of_ble_eq_true rfl, Nat.le_of_ble_eq_true rfl⟩⟩ gw_971 gw_972 ⟨Nat.le_of_ble_eq_true rfl, Nat.le_of_ble_eq_true rfl⟩ (Nat.le_of_ble_eq_true rfl) gy_kN (gy_kE (kc2 := 1) (ks2 := 6) ⟨rfl, rfl⟩ ?_)
    cases e
    exact gx_out rfl ⟨Nat.le_of_ble_eq_true rfl, Nat.le_of_ble_eq_true rfl⟩ (fun z => z)
/-! L_parse  -/
set_option maxRecDepth 100000 in
def f_L_parse (n : Nat) (v0 : Nat) (v1 : Int) (h : gi_H) : Option (Int × gi_H) :=
  Option.bind (gi_is h v0 9) fun _ => Option.bind (f_X11_parse n v0 v1 h) fun q2 => gx_sm q2.1 (fun t3 => some (t3, q2.2)) (fun t3 => if t3 = gx_IOB then (some ((-101 : Int), q2.2)) else (none))
set_option maxRecDepth 100000 in
theorem z_L_parse {n : Nat} {v0 : Nat} {v1 : Int} {h : gi_H} {res : Int} {h1 : gi_H} (e : f_L_parse n v0 v1 h = some (res, h1)) : gx_Cw mL_parse false [.ref v0, .int (gI v1)] (gi_cv h) (.inl (some (.int (gI res)))) (gi_cv h1) := by
  refine gx_enter (by decide +kernel) rfl (Nat.le_of_ble_eq_true rfl) ?_
  show gx_Z mL_parse false false 0 0 0 [(0, .ref v0), (1, .int (gI v1))] [] (gi_cv h) (.inl (some (.int (gI res)))) (gi_cv h1)
  refine gx_aload_n dL_parse_0 rfl 0 rfl ?_
  refine gx_iload_n dL_parse_1 rfl 1 rfl ?_
  refine gx_bE e (fun _ hu1 e => ?_)
  refine gx_bE e (fun q2 hq2 e => ?_)
  refine gx_smE e (fun t3 ht3 e => ?_) (fun t3 ht3 e => ?_)
  · have zq2 := z_X11_parse hq2
    rw [ht3] at zq2
    refine gx_callV (n := 1) (st := []) (As := [.int (gI v1)]) (b := v0) dL_parse_2 zq2 rfl ⟨rfl, gw_cw_X11_parse, gw_1, gp_X11_parse, ⟨Nat.le_of_ble_eq_true rfl, Nat.le_of_ble_eq_true rfl⟩⟩ (gi_isS hu1) (by decide) gw_1171 gw_1172 gw_1173 rfl ⟨Nat.le_of_ble_eq_true rfl, Nat.le_of_ble_eq_true rfl⟩ (Nat.le_of_ble_eq_true rfl) (gy_k1 (x := .int (gI t3)) (kc2 := 1) (ks2 := 6) ⟨rfl, rfl⟩ ?_) gy_kn
    cases e
    exact gx_iret dL_parse_5 rfl ⟨Nat.le_of_ble_eq_true rfl, Nat.le_of_ble_eq_true rfl⟩ (fun z => z)
  · have zq2 := z_X11_parse hq2
    rw [ht3] at zq2
    refine gx_callV (n := 1) (st := []) (As := [.int (gI v1)]) (b := v0) dL_parse_2 zq2 rfl ⟨rfl, gw_cw_X11_parse, gw_1, gp_X11_parse, ⟨Nat.le_of_ble_eq_true rfl, Nat.le_of_ble_eq_true rfl⟩⟩ (gi_isS hu1) (by decide) gw_1171 gw_1172 gw_1173 rfl ⟨Nat.le_of_ble_eq_true rfl, Nat.le_of_ble_eq_true rfl⟩ (Nat.le_of_ble_eq_true rfl) gy_kN (gy_kE (kc2 := 1) (ks2 := 6) ⟨rfl, rfl⟩ ?_)
    refine gx_iE e (fun c4 e => ?_) (fun c4 e => ?_)
    · rw [c4]
      refine gx_catch (ls2 := [(0, .ref v0), (1, .int (gI v1))]) [] (x := (0, 5, 6, 33)) rfl (fun z hz => by cases hz) (by decide +kernel) (by decide) gw_866 (by decide +kernel) (Nat.le_of_ble_eq_true rfl) (Or.inl ⟨2, rfl, rfl, dL_parse_6⟩) rfl ?_
      refine gy_bipush dL_parse_7 gcb_m101 ?_
      cases e
      exact gx_iret dL_parse_9 rfl ⟨Nat.le_of_ble_eq_true rfl, Nat.le_of_ble_eq_true rfl⟩ (fun z => z)
    cases e
/-! X10_worth 4 -/
set_option maxRecDepth 100000 in
def f_X10_worth_4 (v0 : Nat) (h : gi_H) : Option (Int) :=
  Option.bind (gi_gI h v0 4 0) fun t1 => some t1
set_option maxRecDepth 100000 in
theorem z_X10_worth_4 {al : Bool} {v0 : Nat} {h : gi_H} {res : Int} (e : f_X10_worth_4 v0 h = some res) : gx_Cw mX10_worth al [.ref v0] (gi_cv h) (.inl (some (.int (gI res)))) (gi_cv h) := by
  refine gx_enter (by decide +kernel) rfl (Nat.le_of_ble_eq_true rfl) ?_
  show gx_Z mX10_worth al al 0 0 0 [(0, .ref v0)] [] (gi_cv h) (.inl (some (.int (gI res)))) (gi_cv h)
  refine gx_aload_n dX10_worth_0 rfl 0 rfl ?_
  refine gx_bE e (fun t1 ht1 e => ?_)
  refine gy_fI ht1 dX10_worth_1 gf_RX10_7_4_0 (by decide) gkN_4_0 gkR_4_0 ?_
  cases e
  exact gx_iret dX10_worth_4 rfl ⟨Nat.le_of_ble_eq_true rfl, Nat.le_of_ble_eq_true rfl⟩ (fun z => z)
/-! X10_worth 8 -/
set_option maxRecDepth 100000 in
def f_X10_worth_8 (v0 : Nat) (h : gi_H) : Option (Int) :=
  Option.bind (gi_gI h v0 8 0) fun t1 => some t1
set_option maxRecDepth 100000 in
theorem z_X10_worth_8 {al : Bool} {v0 : Nat} {h : gi_H} {res : Int} (e : f_X10_worth_8 v0 h = some res) : gx_Cw mX10_worth al [.ref v0] (gi_cv h) (.inl (some (.int (gI res)))) (gi_cv h) := by
  refine gx_enter (by decide +kernel) rfl (Nat.le_of_ble_eq_true rfl) ?_
  show gx_Z mX10_worth al al 0 0 0 [(0, .ref v0)] [] (gi_cv h) (.inl (some (.int (gI res)))) (gi_cv h)
  refine gx_aload_n dX10_worth_0 rfl 0 rfl ?_
  refine gx_bE e (fun t1 ht1 e => ?_)
  refine gy_fI ht1 dX10_worth_1 gf_RX10_7_8_0 (by decide) gkN_8_0 gkR_8_0 ?_
  cases e
  exact gx_iret dX10_worth_4 rfl ⟨Nat.le_of_ble_eq_true rfl, Nat.le_of_ble_eq_true rfl⟩ (fun z => z)
/-! X11_value  -/
set_option maxRecDepth 100000 in
def f_X11_value (n : Nat) (v0 : Nat) (v1 : Int) (h : gi_H) : Option ((Int ⊕ String) × gi_H) :=
  Option.bind (f_X11_requireKind v1 h) fun q1 => gx_sm q1.1 (fun t2 => Option.bind (gi_is q1.2 v0 9) fun _ => Option.bind (f_X11_table n v0 v1 q1.2) fun q4 => if gi_S q4.2 q4.1 = (0, 4) then (Option.bind (gi_is q4.2 q4.1 4) fun _ => Option.bind (f_X5_run n q4.1 q4.2) fun q7 => Option.bind (gi_rg q7.1) fun _ => if q7.1 = (-1 : Int) then (if gi_S q7.2 q4.1 = (0, 4) then (Option.bind (gi_is q7.2 q4.1 4) fun _ => Option.bind (f_X10_worth_4 q4.1 q7.2) fun q12 => some (.inl q12, q7.2)) else (Option.bind (gi_is q7.2 q4.1 8) fun _ => Option.bind (f_X10_worth_8 q4.1 q7.2) fun q14 => some (.inl q14, q7.2))) else (some (.inr gx_ISE, q7.2))) else (Option.bind (gi_is q4.2 q4.1 8) fun _ => Option.bind (f_X9_run n q4.1 q4.2) fun q16 => Option.bind (gi_rg q16.1) fun _ => if q16.1 = (-1 : Int) then (if gi_S q16.2 q4.1 = (0, 4) then (Option.bind (gi_is q16.2 q4.1 4) fun _ => Option.bind (f_X10_worth_4 q4.1 q16.2) fun q21 => some (.inl q21, q16.2)) else (Option.bind (gi_is q16.2 q4.1 8) fun _ => Option.bind (f_X10_worth_8 q4.1 q16.2) fun q23 => some (.inl q23, q16.2))) else (some (.inr gx_ISE, q16.2)))) (fun t2 => some (.inr t2, q1.2))
set_option maxRecDepth 100000 in
theorem z_X11_value {n : Nat} {v0 : Nat} {v1 : Int} {h : gi_H} {res : Int ⊕ String} {h1 : gi_H} (e : f_X11_value n v0 v1 h = some (res, h1)) : gx_Cw mX11_value false [.ref v0, .int (gI v1)] (gi_cv h) (gx_oI res) (gi_cv h1) := by
  refine gx_enter (by decide +kernel) rfl (Nat.le_of_ble_eq_true rfl) ?_
  show gx_Z mX11_value false false 0 0 0 [(0, .ref v0), (1, .int (gI v1))] [] (gi_cv h) (gx_oI res) (gi_cv h1)
  refine gx_iload_n dX11_value_0 rfl 1 rfl ?_
  refine gx_bE e (fun q1 hq1 e => ?_)
  refine gx_smE e (fun t2 ht2 e => ?_) (fun t2 ht2 e => ?_)
  · have zq1 := z_X11_requireKind hq1
    rw [ht2] at zq1
    refine gx_callS (n := 1) (st := []) (As := [.int (gI v1)]) dX11_value_1 zq1 rfl ⟨rfl, gw_cw_X11_requireKind, gw_1, gp_X11_requireKind, ⟨Nat.le_of_ble_eq_true rfl, Nat.le_of_ble_eq_true rfl⟩⟩ gw_971 gw_972 ⟨Nat.le_of_ble_eq_true rfl, Nat.le_of_ble_eq_true rfl⟩ (Nat.le_of_ble_eq_true rfl) (gy_k0 (kc2 := 1) (ks2 := 6) ⟨rfl, rfl⟩ ?_) gy_kn
    refine gx_aload_n dX11_value_4 rfl 0 rfl ?_
    refine gx_iload_n dX11_value_5 rfl 1 rfl ?_
    refine gx_bE e (fun _ hu3 e => ?_)
    refine gx_bE e (fun q4 hq4 e => ?_)
    refine gx_callV (n := 1) (st := []) (As := [.int (gI v1)]) (b := v0) dX11_value_6 (z_X11_table hq4) rfl ⟨rfl, gw_cw_X11_table, gw_1, gp_X11_table, ⟨Nat.le_of_ble_eq_true rfl, Nat.le_of_ble_eq_true rfl⟩⟩ (gi_isS hu3) (by decide) gw_975 gw_977 gs_25 rfl ⟨Nat.le_of_ble_eq_true rfl, Nat.le_of_ble_eq_true rfl⟩ (Nat.le_of_ble_eq_true rfl) (gy_k1 (x := .ref q4.1) (kc2 := 1) (ks2 := 6) ⟨rfl, rfl⟩ ?_) gy_kn
    refine gx_astore_n (ls2 := [(2, .ref q4.1), (0, .ref v0), (1, .int (gI v1))]) dX11_value_9 rfl (Nat.le_of_ble_eq_true rfl) rfl ?_
    refine gx_aload_n dX11_value_10 rfl 0 rfl ?_
    refine gx_iE e (fun c5 e => ?_) (fun c5 e => ?_)
    · refine gx_bE e (fun _ hu6 e => ?_)
      refine gx_bE e (fun q7 hq7 e => ?_)
      refine gx_callA (n := 0) (st := []) (As := []) (b := q4.1) dX11_value_11 (z_X5_run hq7) rfl ⟨rfl, gw_cw_X5_run, gw_9, gp_X5_run, ⟨Nat.le_of_ble_eq_true rfl, Nat.le_of_ble_eq_true rfl⟩⟩ (gi_isS hu6) (by decide) (x := ⟨"Grammarsmith$Table", "run", "()I"⟩) (owner := "Grammarsmith$Table") gw_1175 gw_1177 gw_1178 gw_1179 (by decide +kernel) (by decide +kernel) ⟨Nat.le_of_ble_eq_true rfl, Nat.le_of_ble_eq_true rfl⟩ (Nat.le_of_ble_eq_true rfl) (gy_k1 (x := .int (gI q7.1)) (kc2 := 1) (ks2 := 6) ⟨rfl, rfl⟩ ?_) gy_kn
      refine gy_iconst dX11_value_14 ?_
      refine gx_bE e (fun _ g8 e => ?_)
      refine gx_iE e (fun c9 e => ?_) (fun c9 e => ?_)
      · refine gy_icmp_eq (tgt := 29) (gi_rgS g8) (by decide) dX11_value_15 (by decide) (fun _ => ?_) (fun z => absurd c9 z)
        refine gx_aload_n dX11_value_29 rfl 0 rfl ?_
        refine gx_iE e (fun c10 e => ?_) (fun c10 e => ?_)
        · refine gx_bE e (fun _ hu11 e => ?_)
          refine gx_bE e (fun q12 hq12 e => ?_)
          refine gx_callU (n := 0) (st := []) (As := []) (b := q4.1) dX11_value_30 (z_X10_worth_4 hq12) rfl ⟨rfl, gw_cw_X10_worth, gw_8, gp_X10_worth, ⟨Nat.le_of_ble_eq_true rfl, Nat.le_of_ble_eq_true rfl⟩⟩ (gi_isS hu11) (by decide) (x := ⟨"Grammarsmith$Table", "worth", "()I"⟩) (owner := "Grammarsmith$Table") gw_1259 gw_1261 gw_1262 gw_1260 rfl (by decide +kernel) ⟨Nat.le_of_ble_eq_true rfl, Nat.le_of_ble_eq_true rfl⟩ (Nat.le_of_ble_eq_true rfl) (gy_k1 (x := .int (gI q12)) (kc2 := 1) (ks2 := 6) ⟨rfl, rfl⟩ ?_) gy_kn
          cases e
          exact gx_iret dX11_value_33 rfl ⟨Nat.le_of_ble_eq_true rfl, Nat.le_of_ble_eq_true rfl⟩ (fun z => z)
        · refine gx_bE e (fun _ hu13 e => ?_)
          refine gx_bE e (fun q14 hq14 e => ?_)
          refine gx_callU (n := 0) (st := []) (As := []) (b := q4.1) dX11_value_30 (z_X10_worth_8 hq14) rfl ⟨rfl, gw_cw_X10_worth, gw_8, gp_X10_worth, ⟨Nat.le_of_ble_eq_true rfl, Nat.le_of_ble_eq_true rfl⟩⟩ (gi_isS hu13) (by decide) (x := ⟨"Grammarsmith$Table", "worth", "()I"⟩) (owner := "Grammarsmith$Table") gw_1259 gw_1261 gw_1263 gw_1260 rfl (by decide +kernel) ⟨Nat.le_of_ble_eq_true rfl, Nat.le_of_ble_eq_true rfl⟩ (Nat.le_of_ble_eq_true rfl) (gy_k1 (x := .int (gI q14)) (kc2 := 1) (ks2 := 6) ⟨rfl, rfl⟩ ?_) gy_kn
          cases e
          exact gx_iret dX11_value_33 rfl ⟨Nat.le_of_ble_eq_true rfl, Nat.le_of_ble_eq_true rfl⟩ (fun z => z)
      · refine gy_icmp_eq (tgt := 29) (gi_rgS g8) (by decide) dX11_value_15 (by decide) (fun z => absurd z c9) (fun _ => ?_)
        cases e
        exact gx_throwW rfl gt_116_262_120 rfl dX11_value_18 dX11_value_21 dX11_value_22 dX11_value_25 dX11_value_28 (Nat.le_of_ble_eq_true rfl) (Nat.le_of_ble_eq_true rfl) ⟨Nat.le_of_ble_eq_true rfl, Nat.le_of_ble_eq_true rfl⟩
    · refine gx_bE e (fun _ hu15 e => ?_)
      refine gx_bE e (fun q16 hq16 e => ?_)
      refine gx_callA (n := 0) (st := []) (As := []) (b := q4.1) dX11_value_11 (z_X9_run hq16) rfl ⟨rfl, gw_cw_X9_run, gw_10, gp_X9_run, ⟨Nat.le_of_ble_eq_true rfl, Nat.le_of_ble_eq_true rfl⟩⟩ (gi_isS hu15) (by decide) (x := ⟨"Grammarsmith$Table", "run", "()I"⟩) (owner := "Grammarsmith$Table") gw_1175 gw_1177 gw_1220 gw_1221 (by decide +kernel) (by decide +kernel) ⟨Nat.le_of_ble_eq_true rfl, Nat.le_of_ble_eq_true rfl⟩ (Nat.le_of_ble_eq_true rfl) (gy_k1 (x := .int (gI q16.1)) (kc2 := 1) (ks2 := 6) ⟨rfl, rfl⟩ ?_) gy_kn
      refine gy_iconst dX11_value_14 ?_
      refine gx_bE e (fun _ g17 e => ?_)
      refine gx_iE e (fun c18 e => ?_) (fun c18 e => ?_)
      · refine gy_icmp_eq (tgt := 29) (gi_rgS g17) (by decide) dX11_value_15 (by decide) (fun _ => ?_) (fun z => absurd c18 z)
        refine gx_aload_n dX11_value_29 rfl 0 rfl ?_
        refine gx_iE e (fun c19 e => ?_) (fun c19 e => ?_)
        · refine gx_bE e (fun _ hu20 e => ?_)
          refine gx_bE e (fun q21 hq21 e => ?_)
          refine gx_callU (n := 0) (st := []) (As := []) (b := q4.1) dX11_value_30 (z_X10_worth_4 hq21) rfl ⟨rfl, gw_cw_X10_worth, gw_8, gp_X10_worth, ⟨Nat.le_of_ble_eq_true rfl, Nat.le_of_ble_eq_true rfl⟩⟩ (gi_isS hu20) (by decide) (x := ⟨"Grammarsmith$Table", "worth", "()I"⟩) (owner := "Grammarsmith$Table") gw_1259 gw_1261 gw_1262 gw_1260 rfl (by decide +kernel) ⟨Nat.le_of_ble_eq_true rfl, Nat.le_of_ble_eq_true rfl⟩ (Nat.le_of_ble_eq_true rfl) (gy_k1 (x := .int (gI q21)) (kc2 := 1) (ks2 := 6) ⟨rfl, rfl⟩ ?_) gy_kn
          cases e
          exact gx_iret dX11_value_33 rfl ⟨Nat.le_of_ble_eq_true rfl, Nat.le_of_ble_eq_true rfl⟩ (fun z => z)
        · refine gx_bE e (fun _ hu22 e => ?_)
          refine gx_bE e (fun q23 hq23 e => ?_)
          refine gx_callU (n := 0) (st := []) (As := []) (b := q4.1) dX11_value_30 (z_X10_worth_8 hq23) rfl ⟨rfl, gw_cw_X10_worth, gw_8, gp_X10_worth, ⟨Nat.le_of_ble_eq_true rfl, Nat.le_of_ble_eq_true rfl⟩⟩ (gi_isS hu22) (by decide) (x := ⟨"Grammarsmith$Table", "worth", "()I"⟩) (owner := "Grammarsmith$Table") gw_1259 gw_1261 gw_1263 gw_1260 rfl (by decide +kernel) ⟨Nat.le_of_ble_eq_true rfl, Nat.le_of_ble_eq_true rfl⟩ (Nat.le_of_ble_eq_true rfl) (gy_k1 (x := .int (gI q23)) (kc2 := 1) (ks2 := 6) ⟨rfl, rfl⟩ ?_) gy_kn
          cases e
          exact gx_iret dX11_value_33 rfl ⟨Nat.le_of_ble_eq_true rfl, Nat.le_of_ble_eq_true rfl⟩ (fun z => z)
      · refine gy_icmp_eq (tgt := 29) (gi_rgS g17) (by decide) dX11_value_15 (by decide) (fun z => absurd z c18) (fun _ => ?_)
        cases e
        exact gx_throwW rfl gt_116_262_120 rfl dX11_value_18 dX11_value_21 dX11_value_22 dX11_value_25 dX11_value_28 (Nat.le_of_ble_eq_true rfl) (Nat.le_of_ble_eq_true rfl) ⟨Nat.le_of_ble_eq_true rfl, Nat.le_of_ble_eq_true rfl⟩
  · have zq1 := z_X11_requireKind hq1
    rw [ht2] at zq1
    refine gx_callS (n := 1) (st := []) (As := [.int (gI v1)]) dX11_value_1 zq1 rfl ⟨rfl, gw_cw_X11_requireKind, gw_1, gp_X11_requireKind, ⟨Nat.le_of_ble_eq_true rfl, Nat.le_of_ble_eq_true rfl⟩⟩ gw_971 gw_972 ⟨Nat.le_of_ble_eq_true rfl, Nat.le_of_ble_eq_true rfl⟩ (Nat.le_of_ble_eq_true rfl) gy_kN (gy_kE (kc2 := 1) (ks2 := 6) ⟨rfl, rfl⟩ ?_)
    cases e
    exact gx_out rfl ⟨Nat.le_of_ble_eq_true rfl, Nat.le_of_ble_eq_true rfl⟩ (fun z => z)
/-! L_value  -/
set_option maxRecDepth 100000 in
def f_L_value (n : Nat) (v0 : Nat) (v1 : Int) (h : gi_H) : Option (Int × gi_H) :=
  Option.bind (gi_is h v0 9) fun _ => Option.bind (f_X11_value n v0 v1 h) fun q2 => gx_sm q2.1 (fun t3 => some (t3, q2.2)) (fun t3 => if t3 = gx_IOB then (some ((-101 : Int), q2.2)) else (if t3 = gx_ISE then (some ((-103 : Int), q2.2)) else (none)))
set_option maxRecDepth 100000 in
theorem z_L_value {n : Nat} {v0 : Nat} {v1 : Int} {h : gi_H} {res : Int} {h1 : gi_H} (e : f_L_value n v0 v1 h = some (res, h1)) : gx_Cw mL_value false [.ref v0, .int (gI v1)] (gi_cv h) (.inl (some (.int (gI res)))) (gi_cv h1) := by
  refine gx_enter (by decide +kernel) rfl (Nat.le_of_ble_eq_true rfl) ?_
  show gx_Z mL_value false false 0 0 0 [(0, .ref v0), (1, .int (gI v1))] [] (gi_cv h) (.inl (some (.int (gI res)))) (gi_cv h1)
  refine gx_aload_n dL_value_0 rfl 0 rfl ?_
  refine gx_iload_n dL_value_1 rfl 1 rfl ?_
  refine gx_bE e (fun _ hu1 e => ?_)
  refine gx_bE e (fun q2 hq2 e => ?_)
  refine gx_smE e (fun t3 ht3 e => ?_) (fun t3 ht3 e => ?_)
  · have zq2 := z_X11_value hq2
    rw [ht3] at zq2
    refine gx_callV (n := 1) (st := []) (As := [.int (gI v1)]) (b := v0) dL_value_2 zq2 rfl ⟨rfl, gw_cw_X11_value, gw_1, gp_X11_value, ⟨Nat.le_of_ble_eq_true rfl, Nat.le_of_ble_eq_true rfl⟩⟩ (gi_isS hu1) (by decide) gw_1254 gw_1255 gw_1256 rfl ⟨Nat.le_of_ble_eq_true rfl, Nat.le_of_ble_eq_true rfl⟩ (Nat.le_of_ble_eq_true rfl) (gy_k1 (x := .int (gI t3)) (kc2 := 2) (ks2 := 12) ⟨rfl, rfl⟩ ?_) gy_kn
    cases e
    exact gx_iret dL_value_5 rfl ⟨Nat.le_of_ble_eq_true rfl, Nat.le_of_ble_eq_true rfl⟩ (fun z => z)
  · have zq2 := z_X11_value hq2
    rw [ht3] at zq2
    refine gx_callV (n := 1) (st := []) (As := [.int (gI v1)]) (b := v0) dL_value_2 zq2 rfl ⟨rfl, gw_cw_X11_value, gw_1, gp_X11_value, ⟨Nat.le_of_ble_eq_true rfl, Nat.le_of_ble_eq_true rfl⟩⟩ (gi_isS hu1) (by decide) gw_1254 gw_1255 gw_1256 rfl ⟨Nat.le_of_ble_eq_true rfl, Nat.le_of_ble_eq_true rfl⟩ (Nat.le_of_ble_eq_true rfl) gy_kN (gy_kE (kc2 := 2) (ks2 := 12) ⟨rfl, rfl⟩ ?_)
    refine gx_iE e (fun c4 e => ?_) (fun c4 e => ?_)
    · rw [c4]
      refine gx_catch (ls2 := [(0, .ref v0), (1, .int (gI v1))]) [] (x := (0, 5, 6, 33)) rfl (fun z hz => by cases hz) (by decide +kernel) (by decide) gw_866 (by decide +kernel) (Nat.le_of_ble_eq_true rfl) (Or.inl ⟨2, rfl, rfl, dL_value_6⟩) rfl ?_
      refine gy_bipush dL_value_7 gcb_m101 ?_
      cases e
      exact gx_iret dL_value_9 rfl ⟨Nat.le_of_ble_eq_true rfl, Nat.le_of_ble_eq_true rfl⟩ (fun z => z)
    refine gx_iE e (fun c5 e => ?_) (fun c5 e => ?_)
    · rw [c5]
      refine gx_catch (ls2 := [(0, .ref v0), (1, .int (gI v1))]) [(0, 5, 6, 33)] (x := (0, 5, 10, 17)) rfl (by refine List.forall_mem_cons.mpr ⟨⟨by decide, "java/lang/IndexOutOfBoundsException", gw_866, by decide +kernel⟩, ?_⟩;  exact fun z hz => absurd hz List.not_mem_nil) (by decide +kernel) (by decide) gw_655 (by decide +kernel) (Nat.le_of_ble_eq_true rfl) (Or.inl ⟨2, rfl, rfl, dL_value_10⟩) rfl ?_
      refine gy_bipush dL_value_11 gcb_m103 ?_
      cases e
      exact gx_iret dL_value_13 rfl ⟨Nat.le_of_ble_eq_true rfl, Nat.le_of_ble_eq_true rfl⟩ (fun z => z)
    cases e
/-! L_parses  -/
set_option maxRecDepth 100000 in
def b_L_parses_207 (n : Nat) (r65 : Nat → Int → Int → Int → Int → Int → gi_H → Option (Int × gi_H)) (v0 : Nat) (v1 : Int) (v2 : Int) (v4 : Int) (v6 : Int) (s0 : Int) (h : gi_H) : Option (Int × gi_H) :=
  gx_nm (v6 + (1 : Int)) fun t23 => r65 v0 v1 v2 v4 s0 t23 h
set_option maxRecDepth 100000 in
theorem zb_L_parses_207 {n : Nat} {r65 : Nat → Int → Int → Int → Int → Int → gi_H → Option (Int × gi_H)} {res : Int} {h1 : gi_H} {kc ks k : Nat} (hkc : kc + (k + 1) * 8 ≤ 40) (hks : ks + (k + 1) * 48 ≤ 240) (hr65 : ∀ (kc ks : Nat) (x0 : Nat) (x1 : Int) (x2 : Int) (x4 : Int) (x5 : Int) (x6 : Int) (hh : gi_H), kc + k * 8 ≤ 40 → ks + k * 48 ≤ 240 → r65 x0 x1 x2 x4 x5 x6 hh = some (res, h1) → gx_Z mL_parses false false kc ks 65 [(0, .ref x0), (1, .int (gI x1)), (2, .int (gI x2)), (4, .int (gI x4)), (5, .int (gI x5)), (6, .int (gI x6))] [] (gi_cv hh) (.inl (some (.int (gI res)))) (gi_cv h1)) {v0 : Nat} {v1 : Int} {v2 : Int} {v4 : Int} {v6 : Int} {s0 : Int} {h : gi_H} (e : b_L_parses_207 n r65 v0 v1 v2 v4 v6 s0 h = some (res, h1)) : gx_Z mL_parses false false (kc + 3) (ks + 18) 207 [(0, .ref v0), (1, .int (gI v1)), (2, .int (gI v2)), (4, .int (gI v4)), (6, .int (gI v6))] [.int (gI s0)] (gi_cv h) (.inl (some (.int (gI res)))) (gi_cv h1) := by
  have hKc : 40 ≤ (gx_rm mL_parses).cells := Nat.le_of_ble_eq_true rfl
  have hKs : 240 ≤ (gx_rm mL_parses).slots := Nat.le_of_ble_eq_true rfl
  refine gx_istore (ls2 := [(5, .int (gI s0)), (0, .ref v0), (1, .int (gI v1)), (2, .int (gI v2)), (4, .int (gI v4)), (6, .int (gI v6))]) dL_parses_207 (Nat.le_of_ble_eq_true rfl) rfl ?_
  refine gx_nE e (fun t23 ht23 e => ?_)
  refine gy_iinc (v := t23) (ls2 := [(6, .int (gI t23)), (5, .int (gI s0)), (0, .ref v0), (1, .int (gI v1)), (2, .int (gI v2)), (4, .int (gI v4))]) dL_parses_209 5 rfl ht23 (Nat.le_of_ble_eq_true rfl) rfl ?_
  refine gx_goto (tgt := 65) dL_parses_212 (by decide) ?_
  refine gx_sub (ls2 := [(0, .ref v0), (1, .int (gI v1)), (2, .int (gI v2)), (4, .int (gI v4)), (5, .int (gI s0)), (6, .int (gI t23))]) [2, 3, 4, 5, 1, 0] rfl ?_
  exact hr65 _ _ _ _ _ _ _ _ _ (by show (kc + 3) + _ ≤ _; omega) (by show (ks + 18) + _ ≤ _; omega) e
set_option maxRecDepth 100000 in
def b_L_parses_205 (n : Nat) (r65 : Nat → Int → Int → Int → Int → Int → gi_H → Option (Int × gi_H)) (v0 : Nat) (v1 : Int) (v2 : Int) (v4 : Int) (v5 : Int) (v6 : Int)  (h : gi_H) : Option (Int × gi_H) :=
  b_L_parses_207 n r65 v0 v1 v2 v4 v6 v5 h
set_option maxRecDepth 100000 in
theorem zb_L_parses_205 {n : Nat} {r65 : Nat → Int → Int → Int → Int → Int → gi_H → Option (Int × gi_H)} {res : Int} {h1 : gi_H} {kc ks k : Nat} (hkc : kc + (k + 1) * 8 ≤ 40) (hks : ks + (k + 1) * 48 ≤ 240) (hr65 : ∀ (kc ks : Nat) (x0 : Nat) (x1 : Int) (x2 : Int) (x4 : Int) (x5 : Int) (x6 : Int) (hh : gi_H), kc + k * 8 ≤ 40 → ks + k * 48 ≤ 240 → r65 x0 x1 x2 x4 x5 x6 hh = some (res, h1) → gx_Z mL_parses false false kc ks 65 [(0, .ref x0), (1, .int (gI x1)), (2, .int (gI x2)), (4, .int (gI x4)), (5, .int (gI x5)), (6, .int (gI x6))] [] (gi_cv hh) (.inl (some (.int (gI res)))) (gi_cv h1)) {v0 : Nat} {v1 : Int} {v2 : Int} {v4 : Int} {v5 : Int} {v6 : Int}  {h : gi_H} (e : b_L_parses_205 n r65 v0 v1 v2 v4 v5 v6 h = some (res, h1)) : gx_Z mL_parses false false (kc + 3) (ks + 18) 205 [(0, .ref v0), (1, .int (gI v1)), (2, .int (gI v2)), (4, .int (gI v4)), (5, .int (gI v5)), (6, .int (gI v6))] [] (gi_cv h) (.inl (some (.int (gI res)))) (gi_cv h1) := by
  have hKc : 40 ≤ (gx_rm mL_parses).cells := Nat.le_of_ble_eq_true rfl
  have hKs : 240 ≤ (gx_rm mL_parses).slots := Nat.le_of_ble_eq_true rfl
  refine gx_iload dL_parses_205 4 rfl ?_
  refine gx_sub (ls2 := [(0, .ref v0), (1, .int (gI v1)), (2, .int (gI v2)), (4, .int (gI v4)), (6, .int (gI v6))]) [0, 1, 2, 3, 5] rfl ?_
  exact zb_L_parses_207 hkc hks hr65 e
set_option maxRecDepth 100000 in
def b_L_parses_187 (n : Nat) (r65 : Nat → Int → Int → Int → Int → Int → gi_H → Option (Int × gi_H)) (v0 : Nat) (v1 : Int) (v2 : Int) (v5 : Int) (v6 : Int) (v7 : Int) (v8 : Int) (s0 : Int) (h : gi_H) : Option (Int × gi_H) :=
  Option.bind (gi_rg v7) fun _ => if v7 = (-1 : Int) then (Option.bind (gi_rg v2) fun _ => if v2 = (1 : Int) then (b_L_parses_207 n r65 v0 v1 v2 s0 v6 v8 h) else (b_L_parses_205 n r65 v0 v1 v2 s0 v5 v6 h)) else (b_L_parses_205 n r65 v0 v1 v2 s0 v5 v6 h)
set_option maxRecDepth 100000 in
theorem zb_L_parses_187 {n : Nat} {r65 : Nat → Int → Int → Int → Int → Int → gi_H → Option (Int × gi_H)} {res : Int} {h1 : gi_H} {kc ks k : Nat} (hkc : kc + (k + 1) * 8 ≤ 40) (hks : ks + (k + 1) * 48 ≤ 240) (hr65 : ∀ (kc ks : Nat) (x0 : Nat) (x1 : Int) (x2 : Int) (x4 : Int) (x5 : Int) (x6 : Int) (hh : gi_H), kc + k * 8 ≤ 40 → ks + k * 48 ≤ 240 → r65 x0 x1 x2 x4 x5 x6 hh = some (res, h1) → gx_Z mL_parses false false kc ks 65 [(0, .ref x0), (1, .int (gI x1)), (2, .int (gI x2)), (4, .int (gI x4)), (5, .int (gI x5)), (6, .int (gI x6))] [] (gi_cv hh) (.inl (some (.int (gI res)))) (gi_cv h1)) {v0 : Nat} {v1 : Int} {v2 : Int} {v5 : Int} {v6 : Int} {v7 : Int} {v8 : Int} {s0 : Int} {h : gi_H} (e : b_L_parses_187 n r65 v0 v1 v2 v5 v6 v7 v8 s0 h = some (res, h1)) : gx_Z mL_parses false false (kc + 3) (ks + 18) 187 [(0, .ref v0), (1, .int (gI v1)), (2, .int (gI v2)), (5, .int (gI v5)), (6, .int (gI v6)), (7, .int (gI v7)), (8, .int (gI v8))] [.int (gI s0)] (gi_cv h) (.inl (some (.int (gI res)))) (gi_cv h1) := by
  have hKc : 40 ≤ (gx_rm mL_parses).cells := Nat.le_of_ble_eq_true rfl
  have hKs : 240 ≤ (gx_rm mL_parses).slots := Nat.le_of_ble_eq_true rfl
  refine gx_istore (ls2 := [(4, .int (gI s0)), (0, .ref v0), (1, .int (gI v1)), (2, .int (gI v2)), (5, .int (gI v5)), (6, .int (gI v6)), (7, .int (gI v7)), (8, .int (gI v8))]) dL_parses_187 (Nat.le_of_ble_eq_true rfl) rfl ?_
  refine gx_iload dL_parses_189 6 rfl ?_
  refine gy_iconst dL_parses_191 ?_
  refine gx_bE e (fun _ g19 e => ?_)
  refine gx_iE e (fun c20 e => ?_) (fun c20 e => ?_)
  · refine gy_icmp_ne (tgt := 205) (gi_rgS g19) (by decide) dL_parses_192 (by decide) (fun z => absurd c20 z) (fun _ => ?_)
    refine gx_iload_n dL_parses_195 rfl 3 rfl ?_
    refine gy_iconst dL_parses_196 ?_
    refine gx_bE e (fun _ g21 e => ?_)
    refine gx_iE e (fun c22 e => ?_) (fun c22 e => ?_)
    · refine gy_icmp_ne (tgt := 205) (gi_rgS g21) (by decide) dL_parses_197 (by decide) (fun z => absurd c22 z) (fun _ => ?_)
      refine gx_iload dL_parses_200 7 rfl ?_
      refine gx_goto (tgt := 207) dL_parses_202 (by decide) ?_
      refine gx_sub (ls2 := [(0, .ref v0), (1, .int (gI v1)), (2, .int (gI v2)), (4, .int (gI s0)), (6, .int (gI v6))]) [1, 2, 3, 0, 5] rfl ?_
      exact zb_L_parses_207 hkc hks hr65 e
    · refine gy_icmp_ne (tgt := 205) (gi_rgS g21) (by decide) dL_parses_197 (by decide) (fun _ => ?_) (fun z => absurd z c22)
      refine gx_sub (ls2 := [(0, .ref v0), (1, .int (gI v1)), (2, .int (gI v2)), (4, .int (gI s0)), (5, .int (gI v5)), (6, .int (gI v6))]) [1, 2, 3, 0, 4, 5] rfl ?_
      exact zb_L_parses_205 hkc hks hr65 e
  · refine gy_icmp_ne (tgt := 205) (gi_rgS g19) (by decide) dL_parses_192 (by decide) (fun _ => ?_) (fun z => absurd z c20)
    refine gx_sub (ls2 := [(0, .ref v0), (1, .int (gI v1)), (2, .int (gI v2)), (4, .int (gI s0)), (5, .int (gI v5)), (6, .int (gI v6))]) [1, 2, 3, 0, 4, 5] rfl ?_
    exact zb_L_parses_205 hkc hks hr65 e
set_option maxRecDepth 100000 in
def b_L_parses_186 (n : Nat) (r65 : Nat → Int → Int → Int → Int → Int → gi_H → Option (Int × gi_H)) (v0 : Nat) (v1 : Int) (v2 : Int) (v5 : Int) (v6 : Int) (v7 : Int) (v8 : Int)  (h : gi_H) : Option (Int × gi_H) :=
  b_L_parses_187 n r65 v0 v1 v2 v5 v6 v7 v8 (0 : Int) h
set_option maxRecDepth 100000 in
theorem zb_L_parses_186 {n : Nat} {r65 : Nat → Int → Int → Int → Int → Int → gi_H → Option (Int × gi_H)} {res : Int} {h1 : gi_H} {kc ks k : Nat} (hkc : kc + (k + 1) * 8 ≤ 40) (hks : ks + (k + 1) * 48 ≤ 240) (hr65 : ∀ (kc ks : Nat) (x0 : Nat) (x1 : Int) (x2 : Int) (x4 : Int) (x5 : Int) (x6 : Int) (hh : gi_H), kc + k * 8 ≤ 40 → ks + k * 48 ≤ 240 → r65 x0 x1 x2 x4 x5 x6 hh = some (res, h1) → gx_Z mL_parses false false kc ks 65 [(0, .ref x0), (1, .int (gI x1)), (2, .int (gI x2)), (4, .int (gI x4)), (5, .int (gI x5)), (6, .int (gI x6))] [] (gi_cv hh) (.inl (some (.int (gI res)))) (gi_cv h1)) {v0 : Nat} {v1 : Int} {v2 : Int} {v5 : Int} {v6 : Int} {v7 : Int} {v8 : Int}  {h : gi_H} (e : b_L_parses_186 n r65 v0 v1 v2 v5 v6 v7 v8 h = some (res, h1)) : gx_Z mL_parses false false (kc + 3) (ks + 18) 186 [(0, .ref v0), (1, .int (gI v1)), (2, .int (gI v2)), (5, .int (gI v5)), (6, .int (gI v6)), (7, .int (gI v7)), (8, .int (gI v8))] [] (gi_cv h) (.inl (some (.int (gI res)))) (gi_cv h1) := by
  have hKc : 40 ≤ (gx_rm mL_parses).cells := Nat.le_of_ble_eq_true rfl
  have hKs : 240 ≤ (gx_rm mL_parses).slots := Nat.le_of_ble_eq_true rfl
  refine gy_iconst dL_parses_186 ?_
  exact zb_L_parses_187 hkc hks hr65 e
set_option maxRecDepth 100000 in
def b_L_parses_182 (n : Nat) (r65 : Nat → Int → Int → Int → Int → Int → gi_H → Option (Int × gi_H)) (v0 : Nat) (v1 : Int) (v2 : Int) (v5 : Int) (v6 : Int) (v7 : Int) (v8 : Int)  (h : gi_H) : Option (Int × gi_H) :=
  b_L_parses_187 n r65 v0 v1 v2 v5 v6 v7 v8 (1 : Int) h
set_option maxRecDepth 100000 in
theorem zb_L_parses_182 {n : Nat} {r65 : Nat → Int → Int → Int → Int → Int → gi_H → Option (Int × gi_H)} {res : Int} {h1 : gi_H} {kc ks k : Nat} (hkc : kc + (k + 1) * 8 ≤ 40) (hks : ks + (k + 1) * 48 ≤ 240) (hr65 : ∀ (kc ks : Nat) (x0 : Nat) (x1 : Int) (x2 : Int) (x4 : Int) (x5 : Int) (x6 : Int) (hh : gi_H), kc + k * 8 ≤ 40 → ks + k * 48 ≤ 240 → r65 x0 x1 x2 x4 x5 x6 hh = some (res, h1) → gx_Z mL_parses false false kc ks 65 [(0, .ref x0), (1, .int (gI x1)), (2, .int (gI x2)), (4, .int (gI x4)), (5, .int (gI x5)), (6, .int (gI x6))] [] (gi_cv hh) (.inl (some (.int (gI res)))) (gi_cv h1)) {v0 : Nat} {v1 : Int} {v2 : Int} {v5 : Int} {v6 : Int} {v7 : Int} {v8 : Int}  {h : gi_H} (e : b_L_parses_182 n r65 v0 v1 v2 v5 v6 v7 v8 h = some (res, h1)) : gx_Z mL_parses false false (kc + 3) (ks + 18) 182 [(0, .ref v0), (1, .int (gI v1)), (2, .int (gI v2)), (5, .int (gI v5)), (6, .int (gI v6)), (7, .int (gI v7)), (8, .int (gI v8))] [] (gi_cv h) (.inl (some (.int (gI res)))) (gi_cv h1) := by
  have hKc : 40 ≤ (gx_rm mL_parses).cells := Nat.le_of_ble_eq_true rfl
  have hKs : 240 ≤ (gx_rm mL_parses).slots := Nat.le_of_ble_eq_true rfl
  refine gy_iconst dL_parses_182 ?_
  refine gx_goto (tgt := 187) dL_parses_183 (by decide) ?_
  exact zb_L_parses_187 hkc hks hr65 e
set_option maxRecDepth 100000 in
def b_L_parses_152 (n : Nat) (r65 : Nat → Int → Int → Int → Int → Int → gi_H → Option (Int × gi_H)) (v0 : Nat) (v1 : Int) (v2 : Int) (v5 : Int) (v6 : Int) (v7 : Int) (v8 : Int) (s0 : Int) (h : gi_H) : Option (Int × gi_H) :=
  Option.bind (gi_rg s0) fun _ => if s0 = 0 then (b_L_parses_186 n r65 v0 v1 v2 v5 v6 v7 v8 h) else (Option.bind (gi_rg v7) fun _ => if v7 = (-1 : Int) then (Option.bind (gi_rg v2) fun _ => if v2 = (1 : Int) then (Option.bind (gi_rg v5) fun _ => if v5 < 0 then (b_L_parses_182 n r65 v0 v1 v2 v5 v6 v7 v8 h) else (Option.bind (gi_rg v8) fun _ => if v5 = v8 then (b_L_parses_182 n r65 v0 v1 v2 v5 v6 v7 v8 h) else (b_L_parses_186 n r65 v0 v1 v2 v5 v6 v7 v8 h))) else (b_L_parses_182 n r65 v0 v1 v2 v5 v6 v7 v8 h)) else (b_L_parses_182 n r65 v0 v1 v2 v5 v6 v7 v8 h))
set_option maxRecDepth 100000 in
theorem zb_L_parses_152 {n : Nat} {r65 : Nat → Int → Int → Int → Int → Int → gi_H → Option (Int × gi_H)} {res : Int} {h1 : gi_H} {kc ks k : Nat} (hkc : kc + (k + 1) * 8 ≤ 40) (hks : ks + (k + 1) * 48 ≤ 240) (hr65 : ∀ (kc ks : Nat) (x0 : Nat) (x1 : Int) (x2 : Int) (x4 : Int) (x5 : Int) (x6 : Int) (hh : gi_H), kc + k * 8 ≤ 40 → ks + k * 48 ≤ 240 → r65 x0 x1 x2 x4 x5 x6 hh = some (res, h1) → gx_Z mL_parses false false kc ks 65 [(0, .ref x0), (1, .int (gI x1)), (2, .int (gI x2)), (4, .int (gI x4)), (5, .int (gI x5)), (6, .int (gI x6))] [] (gi_cv hh) (.inl (some (.int (gI res)))) (gi_cv h1)) {v0 : Nat} {v1 : Int} {v2 : Int} {v5 : Int} {v6 : Int} {v7 : Int} {v8 : Int} {s0 : Int} {h : gi_H} (e : b_L_parses_152 n r65 v0 v1 v2 v5 v6 v7 v8 s0 h = some (res, h1)) : gx_Z mL_parses false false (kc + 3) (ks + 18) 152 [(0, .ref v0), (1, .int (gI v1)), (2, .int (gI v2)), (5, .int (gI v5)), (6, .int (gI v6)), (7, .int (gI v7)), (8, .int (gI v8))] [.int (gI s0)] (gi_cv h) (.inl (some (.int (gI res)))) (gi_cv h1) := by
  have hKc : 40 ≤ (gx_rm mL_parses).cells := Nat.le_of_ble_eq_true rfl
  have hKs : 240 ≤ (gx_rm mL_parses).slots := Nat.le_of_ble_eq_true rfl
  refine gx_istore (ls2 := [(4, .int (gI s0)), (0, .ref v0), (1, .int (gI v1)), (2, .int (gI v2)), (5, .int (gI v5)), (6, .int (gI v6)), (7, .int (gI v7)), (8, .int (gI v8))]) dL_parses_152 (Nat.le_of_ble_eq_true rfl) rfl ?_
  refine gx_iload dL_parses_154 0 rfl ?_
  refine gx_bE e (fun _ g17 e => ?_)
  refine gx_iE e (fun c18 e => ?_) (fun c18 e => ?_)
  · refine gy_if_eq (tgt := 186) (gi_rgS g17) dL_parses_156 (by decide) (fun _ => ?_) (fun z => absurd c18 z)
    refine gx_sub (ls2 := [(0, .ref v0), (1, .int (gI v1)), (2, .int (gI v2)), (5, .int (gI v5)), (6, .int (gI v6)), (7, .int (gI v7)), (8, .int (gI v8))]) [1, 2, 3, 4, 5, 6, 7] rfl ?_
    exact zb_L_parses_186 hkc hks hr65 e
  · refine gy_if_eq (tgt := 186) (gi_rgS g17) dL_parses_156 (by decide) (fun z => absurd z c18) (fun _ => ?_)
    refine gx_iload dL_parses_159 6 rfl ?_
    refine gy_iconst dL_parses_161 ?_
    refine gx_bE e (fun _ g24 e => ?_)
    refine gx_iE e (fun c25 e => ?_) (fun c25 e => ?_)
    · refine gy_icmp_ne (tgt := 182) (gi_rgS g24) (by decide) dL_parses_162 (by decide) (fun z => absurd c25 z) (fun _ => ?_)
      refine gx_iload_n dL_parses_165 rfl 3 rfl ?_
      refine gy_iconst dL_parses_166 ?_
      refine gx_bE e (fun _ g26 e => ?_)
      refine gx_iE e (fun c27 e => ?_) (fun c27 e => ?_)
      · refine gy_icmp_ne (tgt := 182) (gi_rgS g26) (by decide) dL_parses_167 (by decide) (fun z => absurd c27 z) (fun _ => ?_)
        refine gx_iload dL_parses_170 4 rfl ?_
        refine gx_bE e (fun _ g28 e => ?_)
        refine gx_iE e (fun c29 e => ?_) (fun c29 e => ?_)
        · refine gy_if_lt (tgt := 182) (gi_rgS g28) dL_parses_172 (by decide) (fun _ => ?_) (fun z => absurd c29 z)
          refine gx_sub (ls2 := [(0, .ref v0), (1, .int (gI v1)), (2, .int (gI v2)), (5, .int (gI v5)), (6, .int (gI v6)), (7, .int (gI v7)), (8, .int (gI v8))]) [1, 2, 3, 4, 5, 6, 7] rfl ?_
          exact zb_L_parses_182 hkc hks hr65 e
        · refine gy_if_lt (tgt := 182) (gi_rgS g28) dL_parses_172 (by decide) (fun z => absurd z c29) (fun _ => ?_)
          refine gx_iload dL_parses_175 4 rfl ?_
          refine gx_iload dL_parses_177 7 rfl ?_
          refine gx_bE e (fun _ g30 e => ?_)
          refine gx_iE e (fun c31 e => ?_) (fun c31 e => ?_)
          · refine gy_icmp_ne (tgt := 186) (gi_rgS g28) (gi_rgS g30) dL_parses_179 (by decide) (fun z => absurd c31 z) (fun _ => ?_)
            refine gx_sub (ls2 := [(0, .ref v0), (1, .int (gI v1)), (2, .int (gI v2)), (5, .int (gI v5)), (6, .int (gI v6)), (7, .int (gI v7)), (8, .int (gI v8))]) [1, 2, 3, 4, 5, 6, 7] rfl ?_
            exact zb_L_parses_182 hkc hks hr65 e
          · refine gy_icmp_ne (tgt := 186) (gi_rgS g28) (gi_rgS g30) dL_parses_179 (by decide) (fun _ => ?_) (fun z => absurd z c31)
            refine gx_sub (ls2 := [(0, .ref v0), (1, .int (gI v1)), (2, .int (gI v2)), (5, .int (gI v5)), (6, .int (gI v6)), (7, .int (gI v7)), (8, .int (gI v8))]) [1, 2, 3, 4, 5, 6, 7] rfl ?_
            exact zb_L_parses_186 hkc hks hr65 e
      · refine gy_icmp_ne (tgt := 182) (gi_rgS g26) (by decide) dL_parses_167 (by decide) (fun _ => ?_) (fun z => absurd z c27)
        refine gx_sub (ls2 := [(0, .ref v0), (1, .int (gI v1)), (2, .int (gI v2)), (5, .int (gI v5)), (6, .int (gI v6)), (7, .int (gI v7)), (8, .int (gI v8))]) [1, 2, 3, 4, 5, 6, 7] rfl ?_
        exact zb_L_parses_182 hkc hks hr65 e
    · refine gy_icmp_ne (tgt := 182) (gi_rgS g24) (by decide) dL_parses_162 (by decide) (fun _ => ?_) (fun z => absurd z c25)
      refine gx_sub (ls2 := [(0, .ref v0), (1, .int (gI v1)), (2, .int (gI v2)), (5, .int (gI v5)), (6, .int (gI v6)), (7, .int (gI v7)), (8, .int (gI v8))]) [1, 2, 3, 4, 5, 6, 7] rfl ?_
      exact zb_L_parses_182 hkc hks hr65 e
set_option maxRecDepth 100000 in
def b_L_parses_151 (n : Nat) (r65 : Nat → Int → Int → Int → Int → Int → gi_H → Option (Int × gi_H)) (v0 : Nat) (v1 : Int) (v2 : Int) (v5 : Int) (v6 : Int) (v7 : Int) (v8 : Int)  (h : gi_H) : Option (Int × gi_H) :=
  b_L_parses_152 n r65 v0 v1 v2 v5 v6 v7 v8 (0 : Int) h
set_option maxRecDepth 100000 in
theorem zb_L_parses_151 {n : Nat} {r65 : Nat → Int → Int → Int → Int → Int → gi_H → Option (Int × gi_H)} {res : Int} {h1 : gi_H} {kc ks k : Nat} (hkc : kc + (k + 1) * 8 ≤ 40) (hks : ks + (k + 1) * 48 ≤ 240) (hr65 : ∀ (kc ks : Nat) (x0 : Nat) (x1 : Int) (x2 : Int) (x4 : Int) (x5 : Int) (x6 : Int) (hh : gi_H), kc + k * 8 ≤ 40 → ks + k * 48 ≤ 240 → r65 x0 x1 x2 x4 x5 x6 hh = some (res, h1) → gx_Z mL_parses false false kc ks 65 [(0, .ref x0), (1, .int (gI x1)), (2, .int (gI x2)), (4, .int (gI x4)), (5, .int (gI x5)), (6, .int (gI x6))] [] (gi_cv hh) (.inl (some (.int (gI res)))) (gi_cv h1)) {v0 : Nat} {v1 : Int} {v2 : Int} {v5 : Int} {v6 : Int} {v7 : Int} {v8 : Int}  {h : gi_H} (e : b_L_parses_151 n r65 v0 v1 v2 v5 v6 v7 v8 h = some (res, h1)) : gx_Z mL_parses false false (kc + 3) (ks + 18) 151 [(0, .ref v0), (1, .int (gI v1)), (2, .int (gI v2)), (5, .int (gI v5)), (6, .int (gI v6)), (7, .int (gI v7)), (8, .int (gI v8))] [] (gi_cv h) (.inl (some (.int (gI res)))) (gi_cv h1) := by
  have hKc : 40 ≤ (gx_rm mL_parses).cells := Nat.le_of_ble_eq_true rfl
  have hKs : 240 ≤ (gx_rm mL_parses).slots := Nat.le_of_ble_eq_true rfl
  refine gy_iconst dL_parses_151 ?_
  exact zb_L_parses_152 hkc hks hr65 e
set_option maxRecDepth 100000 in
def b_L_parses_147 (n : Nat) (r65 : Nat → Int → Int → Int → Int → Int → gi_H → Option (Int × gi_H)) (v0 : Nat) (v1 : Int) (v2 : Int) (v5 : Int) (v6 : Int) (v7 : Int) (v8 : Int)  (h : gi_H) : Option (Int × gi_H) :=
  b_L_parses_152 n r65 v0 v1 v2 v5 v6 v7 v8 (1 : Int) h
set_option maxRecDepth 100000 in
theorem zb_L_parses_147 {n : Nat} {r65 : Nat → Int → Int → Int → Int → Int → gi_H → Option (Int × gi_H)} {res : Int} {h1 : gi_H} {kc ks k : Nat} (hkc : kc + (k + 1) * 8 ≤ 40) (hks : ks + (k + 1) * 48 ≤ 240) (hr65 : ∀ (kc ks : Nat) (x0 : Nat) (x1 : Int) (x2 : Int) (x4 : Int) (x5 : Int) (x6 : Int) (hh : gi_H), kc + k * 8 ≤ 40 → ks + k * 48 ≤ 240 → r65 x0 x1 x2 x4 x5 x6 hh = some (res, h1) → gx_Z mL_parses false false kc ks 65 [(0, .ref x0), (1, .int (gI x1)), (2, .int (gI x2)), (4, .int (gI x4)), (5, .int (gI x5)), (6, .int (gI x6))] [] (gi_cv hh) (.inl (some (.int (gI res)))) (gi_cv h1)) {v0 : Nat} {v1 : Int} {v2 : Int} {v5 : Int} {v6 : Int} {v7 : Int} {v8 : Int}  {h : gi_H} (e : b_L_parses_147 n r65 v0 v1 v2 v5 v6 v7 v8 h = some (res, h1)) : gx_Z mL_parses false false (kc + 3) (ks + 18) 147 [(0, .ref v0), (1, .int (gI v1)), (2, .int (gI v2)), (5, .int (gI v5)), (6, .int (gI v6)), (7, .int (gI v7)), (8, .int (gI v8))] [] (gi_cv h) (.inl (some (.int (gI res)))) (gi_cv h1) := by
  have hKc : 40 ≤ (gx_rm mL_parses).cells := Nat.le_of_ble_eq_true rfl
  have hKs : 240 ≤ (gx_rm mL_parses).slots := Nat.le_of_ble_eq_true rfl
  refine gy_iconst dL_parses_147 ?_
  refine gx_goto (tgt := 152) dL_parses_148 (by decide) ?_
  exact zb_L_parses_152 hkc hks hr65 e
set_option maxRecDepth 100000 in
def b_L_parses_126 (n : Nat) (r65 : Nat → Int → Int → Int → Int → Int → gi_H → Option (Int × gi_H)) (v0 : Nat) (v1 : Int) (v2 : Int) (v5 : Int) (v6 : Int) (v7 : Int) (v8 : Int) (s0 : Int) (s1 : Int) (h : gi_H) : Option (Int × gi_H) :=
  Option.bind (gi_rg s0) fun _ => Option.bind (gi_rg s1) fun _ => if s0 = s1 then (Option.bind (gi_rg v8) fun _ => if (1009 : Int) ≤ v8 then (b_L_parses_151 n r65 v0 v1 v2 v5 v6 v7 v8 h) else (Option.bind (gi_rg v7) fun _ => if v7 = (-1 : Int) then (Option.bind (gi_rg v2) fun _ => if v2 ≤ 0 then (b_L_parses_151 n r65 v0 v1 v2 v5 v6 v7 v8 h) else (b_L_parses_147 n r65 v0 v1 v2 v5 v6 v7 v8 h)) else (b_L_parses_147 n r65 v0 v1 v2 v5 v6 v7 v8 h))) else (b_L_parses_151 n r65 v0 v1 v2 v5 v6 v7 v8 h)
set_option maxRecDepth 100000 in
theorem zb_L_parses_126 {n : Nat} {r65 : Nat → Int → Int → Int → Int → Int → gi_H → Option (Int × gi_H)} {res : Int} {h1 : gi_H} {kc ks k : Nat} (hkc : kc + (k + 1) * 8 ≤ 40) (hks : ks + (k + 1) * 48 ≤ 240) (hr65 : ∀ (kc ks : Nat) (x0 : Nat) (x1 : Int) (x2 : Int) (x4 : Int) (x5 : Int) (x6 : Int) (hh : gi_H), kc + k * 8 ≤ 40 → ks + k * 48 ≤ 240 → r65 x0 x1 x2 x4 x5 x6 hh = some (res, h1) → gx_Z mL_parses false false kc ks 65 [(0, .ref x0), (1, .int (gI x1)), (2, .int (gI x2)), (4, .int (gI x4)), (5, .int (gI x5)), (6, .int (gI x6))] [] (gi_cv hh) (.inl (some (.int (gI res)))) (gi_cv h1)) {v0 : Nat} {v1 : Int} {v2 : Int} {v5 : Int} {v6 : Int} {v7 : Int} {v8 : Int} {s0 : Int} {s1 : Int} {h : gi_H} (e : b_L_parses_126 n r65 v0 v1 v2 v5 v6 v7 v8 s0 s1 h = some (res, h1)) : gx_Z mL_parses false false (kc + 3) (ks + 18) 126 [(0, .ref v0), (1, .int (gI v1)), (2, .int (gI v2)), (5, .int (gI v5)), (6, .int (gI v6)), (7, .int (gI v7)), (8, .int (gI v8))] [.int (gI s1), .int (gI s0)] (gi_cv h) (.inl (some (.int (gI res)))) (gi_cv h1) := by
  have hKc : 40 ≤ (gx_rm mL_parses).cells := Nat.le_of_ble_eq_true rfl
  have hKs : 240 ≤ (gx_rm mL_parses).slots := Nat.le_of_ble_eq_true rfl
  refine gx_bE e (fun _ g37 e => ?_)
  refine gx_bE e (fun _ g38 e => ?_)
  refine gx_iE e (fun c39 e => ?_) (fun c39 e => ?_)
  · refine gy_icmp_ne (tgt := 151) (gi_rgS g37) (gi_rgS g38) dL_parses_126 (by decide) (fun z => absurd c39 z) (fun _ => ?_)
    refine gx_iload dL_parses_129 6 rfl ?_
    refine gy_sipush dL_parses_131 gcs_1009 ?_
    refine gx_bE e (fun _ g40 e => ?_)
    refine gx_iE e (fun c41 e => ?_) (fun c41 e => ?_)
    · refine gy_icmp_ge (tgt := 151) (gi_rgS g40) (by decide) dL_parses_134 (by decide) (fun _ => ?_) (fun z => absurd c41 z)
      exact zb_L_parses_151 hkc hks hr65 e
    · refine gy_icmp_ge (tgt := 151) (gi_rgS g40) (by decide) dL_parses_134 (by decide) (fun z => absurd z c41) (fun _ => ?_)
      refine gx_iload dL_parses_137 5 rfl ?_
      refine gy_iconst dL_parses_139 ?_
      refine gx_bE e (fun _ g42 e => ?_)
      refine gx_iE e (fun c43 e => ?_) (fun c43 e => ?_)
      · refine gy_icmp_ne (tgt := 147) (gi_rgS g42) (by decide) dL_parses_140 (by decide) (fun z => absurd c43 z) (fun _ => ?_)
        refine gx_iload_n dL_parses_143 rfl 2 rfl ?_
        refine gx_bE e (fun _ g44 e => ?_)
        refine gx_iE e (fun c45 e => ?_) (fun c45 e => ?_)
        · refine gy_if_le (tgt := 151) (gi_rgS g44) dL_parses_144 (by decide) (fun _ => ?_) (fun z => absurd c45 z)
          exact zb_L_parses_151 hkc hks hr65 e
        · refine gy_if_le (tgt := 151) (gi_rgS g44) dL_parses_144 (by decide) (fun z => absurd z c45) (fun _ => ?_)
          exact zb_L_parses_147 hkc hks hr65 e
      · refine gy_icmp_ne (tgt := 147) (gi_rgS g42) (by decide) dL_parses_140 (by decide) (fun _ => ?_) (fun z => absurd z c43)
        exact zb_L_parses_147 hkc hks hr65 e
  · refine gy_icmp_ne (tgt := 151) (gi_rgS g37) (gi_rgS g38) dL_parses_126 (by decide) (fun _ => ?_) (fun z => absurd z c39)
    exact zb_L_parses_151 hkc hks hr65 e
set_option maxRecDepth 100000 in
def b_L_parses_116 (n : Nat) (r65 : Nat → Int → Int → Int → Int → Int → gi_H → Option (Int × gi_H)) (v0 : Nat) (v1 : Int) (v2 : Int) (v5 : Int) (v6 : Int) (v7 : Int) (v8 : Int) (s0 : Int) (h : gi_H) : Option (Int × gi_H) :=
  Option.bind (gi_rg v8) fun _ => if v8 < 0 then (b_L_parses_126 n r65 v0 v1 v2 v5 v6 v7 v8 s0 (0 : Int) h) else (b_L_parses_126 n r65 v0 v1 v2 v5 v6 v7 v8 s0 (1 : Int) h)
set_option maxRecDepth 100000 in
theorem zb_L_parses_116 {n : Nat} {r65 : Nat → Int → Int → Int → Int → Int → gi_H → Option (Int × gi_H)} {res : Int} {h1 : gi_H} {kc ks k : Nat} (hkc : kc + (k + 1) * 8 ≤ 40) (hks : ks + (k + 1) * 48 ≤ 240) (hr65 : ∀ (kc ks : Nat) (x0 : Nat) (x1 : Int) (x2 : Int) (x4 : Int) (x5 : Int) (x6 : Int) (hh : gi_H), kc + k * 8 ≤ 40 → ks + k * 48 ≤ 240 → r65 x0 x1 x2 x4 x5 x6 hh = some (res, h1) → gx_Z mL_parses false false kc ks 65 [(0, .ref x0), (1, .int (gI x1)), (2, .int (gI x2)), (4, .int (gI x4)), (5, .int (gI x5)), (6, .int (gI x6))] [] (gi_cv hh) (.inl (some (.int (gI res)))) (gi_cv h1)) {v0 : Nat} {v1 : Int} {v2 : Int} {v5 : Int} {v6 : Int} {v7 : Int} {v8 : Int} {s0 : Int} {h : gi_H} (e : b_L_parses_116 n r65 v0 v1 v2 v5 v6 v7 v8 s0 h = some (res, h1)) : gx_Z mL_parses false false (kc + 3) (ks + 18) 116 [(0, .ref v0), (1, .int (gI v1)), (2, .int (gI v2)), (5, .int (gI v5)), (6, .int (gI v6)), (7, .int (gI v7)), (8, .int (gI v8))] [.int (gI s0)] (gi_cv h) (.inl (some (.int (gI res)))) (gi_cv h1) := by
  have hKc : 40 ≤ (gx_rm mL_parses).cells := Nat.le_of_ble_eq_true rfl
  have hKs : 240 ≤ (gx_rm mL_parses).slots := Nat.le_of_ble_eq_true rfl
  refine gx_iload dL_parses_116 6 rfl ?_
  refine gx_bE e (fun _ g35 e => ?_)
  refine gx_iE e (fun c36 e => ?_) (fun c36 e => ?_)
  · refine gy_if_lt (tgt := 125) (gi_rgS g35) dL_parses_118 (by decide) (fun _ => ?_) (fun z => absurd c36 z)
    refine gy_iconst dL_parses_125 ?_
    exact zb_L_parses_126 hkc hks hr65 e
  · refine gy_if_lt (tgt := 125) (gi_rgS g35) dL_parses_118 (by decide) (fun z => absurd z c36) (fun _ => ?_)
    refine gy_iconst dL_parses_121 ?_
    refine gx_goto (tgt := 126) dL_parses_122 (by decide) ?_
    exact zb_L_parses_126 hkc hks hr65 e
set_option maxRecDepth 100000 in
def b_L_parses_65 (n : Nat) (r65 : Nat → Int → Int → Int → Int → Int → gi_H → Option (Int × gi_H)) (v0 : Nat) (v1 : Int) (v2 : Int) (v4 : Int) (v5 : Int) (v6 : Int)  (h : gi_H) : Option (Int × gi_H) :=
  Option.bind (gi_rg v6) fun _ => if (4 : Int) ≤ v6 then (Option.bind (gi_zo v4) fun _ => some (v4, h)) else (Option.bind (gi_rg v4) fun _ => if v4 = 0 then (Option.bind (gi_zo v4) fun _ => some (v4, h)) else (Option.bind (f_L_parse n v0 v6 h) fun q13 => Option.bind (f_L_value n v0 v6 q13.2) fun q14 => Option.bind (gi_rg q13.1) fun _ => if q13.1 < (-3 : Int) then (b_L_parses_151 n r65 v0 v1 v2 v5 v6 q13.1 q14.1 q14.2) else (Option.bind (gi_rg v1) fun _ => if v1 < q13.1 then (b_L_parses_151 n r65 v0 v1 v2 v5 v6 q13.1 q14.1 q14.2) else (if q13.1 = (-1 : Int) then (b_L_parses_116 n r65 v0 v1 v2 v5 v6 q13.1 q14.1 (1 : Int) q14.2) else (b_L_parses_116 n r65 v0 v1 v2 v5 v6 q13.1 q14.1 (0 : Int) q14.2)))))
set_option maxRecDepth 100000 in
theorem zb_L_parses_65 {n : Nat} {r65 : Nat → Int → Int → Int → Int → Int → gi_H → Option (Int × gi_H)} {res : Int} {h1 : gi_H} {kc ks k : Nat} (hkc : kc + (k + 1) * 8 ≤ 40) (hks : ks + (k + 1) * 48 ≤ 240) (hr65 : ∀ (kc ks : Nat) (x0 : Nat) (x1 : Int) (x2 : Int) (x4 : Int) (x5 : Int) (x6 : Int) (hh : gi_H), kc + k * 8 ≤ 40 → ks + k * 48 ≤ 240 → r65 x0 x1 x2 x4 x5 x6 hh = some (res, h1) → gx_Z mL_parses false false kc ks 65 [(0, .ref x0), (1, .int (gI x1)), (2, .int (gI x2)), (4, .int (gI x4)), (5, .int (gI x5)), (6, .int (gI x6))] [] (gi_cv hh) (.inl (some (.int (gI res)))) (gi_cv h1)) {v0 : Nat} {v1 : Int} {v2 : Int} {v4 : Int} {v5 : Int} {v6 : Int}  {h : gi_H} (e : b_L_parses_65 n r65 v0 v1 v2 v4 v5 v6 h = some (res, h1)) : gx_Z mL_parses false false kc ks 65 [(0, .ref v0), (1, .int (gI v1)), (2, .int (gI v2)), (4, .int (gI v4)), (5, .int (gI v5)), (6, .int (gI v6))] [] (gi_cv h) (.inl (some (.int (gI res)))) (gi_cv h1) := by
  have hKc : 40 ≤ (gx_rm mL_parses).cells := Nat.le_of_ble_eq_true rfl
  have hKs : 240 ≤ (gx_rm mL_parses).slots := Nat.le_of_ble_eq_true rfl
  refine gx_iload dL_parses_65 5 rfl ?_
  refine gy_iconst dL_parses_67 ?_
  refine gx_bE e (fun _ g7 e => ?_)
  refine gx_iE e (fun c8 e => ?_) (fun c8 e => ?_)
  · refine gy_icmp_ge (tgt := 215) (gi_rgS g7) (by decide) dL_parses_68 (by decide) (fun _ => ?_) (fun z => absurd c8 z)
    refine gx_iload dL_parses_215 3 rfl ?_
    refine gx_bE e (fun _ hu9 e => ?_)
    cases e
    exact gx_zret (gi_zoS hu9) dL_parses_217 rfl ⟨by show kc ≤ _; omega, by show ks ≤ _; omega⟩ (fun z => z)
  · refine gy_icmp_ge (tgt := 215) (gi_rgS g7) (by decide) dL_parses_68 (by decide) (fun z => absurd z c8) (fun _ => ?_)
    refine gx_iload dL_parses_71 3 rfl ?_
    refine gx_bE e (fun _ g10 e => ?_)
    refine gx_iE e (fun c11 e => ?_) (fun c11 e => ?_)
    · refine gy_if_eq (tgt := 215) (gi_rgS g10) dL_parses_73 (by decide) (fun _ => ?_) (fun z => absurd c11 z)
      refine gx_iload dL_parses_215 3 rfl ?_
      refine gx_bE e (fun _ hu12 e => ?_)
      cases e
      exact gx_zret (gi_zoS hu12) dL_parses_217 rfl ⟨by show kc ≤ _; omega, by show ks ≤ _; omega⟩ (fun z => z)
    · refine gy_if_eq (tgt := 215) (gi_rgS g10) dL_parses_73 (by decide) (fun z => absurd z c11) (fun _ => ?_)
      refine gx_aload_n dL_parses_76 rfl 0 rfl ?_
      refine gx_iload dL_parses_77 5 rfl ?_
      refine gx_bE e (fun q13 hq13 e => ?_)
      refine gx_callSW (n := 2) (st := []) (As := [.ref v0, .int (gI v6)]) dL_parses_79 (z_L_parse hq13) rfl ⟨(by decide +kernel), gw_cw_L_parse, gw_0, gp_L_parse, ⟨Nat.le_of_ble_eq_true rfl, Nat.le_of_ble_eq_true rfl⟩⟩ gw_1168 gw_1169 ⟨by show (kc + 1) ≤ _; omega, by show (ks + 6) ≤ _; omega⟩ (Nat.le_of_ble_eq_true rfl) (gy_k1 (x := .int (gI q13.1)) (kc2 := (kc + 1)) (ks2 := (ks + 6)) ⟨rfl, rfl⟩ ?_)
      refine gx_istore (ls2 := [(7, .int (gI q13.1)), (0, .ref v0), (1, .int (gI v1)), (2, .int (gI v2)), (4, .int (gI v4)), (5, .int (gI v5)), (6, .int (gI v6))]) dL_parses_82 (Nat.le_of_ble_eq_true rfl) rfl ?_
      refine gx_aload_n dL_parses_84 rfl 1 rfl ?_
      refine gx_iload dL_parses_85 6 rfl ?_
      refine gx_bE e (fun q14 hq14 e => ?_)
      refine gx_callSW (n := 2) (st := []) (As := [.ref v0, .int (gI v6)]) dL_parses_87 (z_L_value hq14) rfl ⟨(by decide +kernel), gw_cw_L_value, gw_0, gp_L_value, ⟨Nat.le_of_ble_eq_true rfl, Nat.le_of_ble_eq_true rfl⟩⟩ gw_1251 gw_1252 ⟨by show (kc + 3) ≤ _; omega, by show (ks + 18) ≤ _; omega⟩ (Nat.le_of_ble_eq_true rfl) (gy_k1 (x := .int (gI q14.1)) (kc2 := (kc + 3)) (ks2 := (ks + 18)) ⟨rfl, rfl⟩ ?_)
      refine gx_istore (ls2 := [(8, .int (gI q14.1)), (7, .int (gI q13.1)), (0, .ref v0), (1, .int (gI v1)), (2, .int (gI v2)), (4, .int (gI v4)), (5, .int (gI v5)), (6, .int (gI v6))]) dL_parses_90 (Nat.le_of_ble_eq_true rfl) rfl ?_
      refine gx_iload dL_parses_92 1 rfl ?_
      refine gy_bipush dL_parses_94 gcb_m3 ?_
      refine gx_bE e (fun _ g15 e => ?_)
      refine gx_iE e (fun c16 e => ?_) (fun c16 e => ?_)
      · refine gy_icmp_lt (tgt := 151) (gi_rgS g15) (by decide) dL_parses_96 (by decide) (fun _ => ?_) (fun z => absurd c16 z)
        refine gx_sub (ls2 := [(0, .ref v0), (1, .int (gI v1)), (2, .int (gI v2)), (5, .int (gI v5)), (6, .int (gI v6)), (7, .int (gI q13.1)), (8, .int (gI q14.1))]) [2, 3, 4, 6, 7, 1, 0] rfl ?_
        exact zb_L_parses_151 hkc hks hr65 e
      · refine gy_icmp_lt (tgt := 151) (gi_rgS g15) (by decide) dL_parses_96 (by decide) (fun z => absurd z c16) (fun _ => ?_)
        refine gx_iload dL_parses_99 1 rfl ?_
        refine gx_iload_n dL_parses_101 rfl 3 rfl ?_
        refine gx_bE e (fun _ g32 e => ?_)
        refine gx_iE e (fun c33 e => ?_) (fun c33 e => ?_)
        · refine gy_icmp_gt (tgt := 151) (gi_rgS g15) (gi_rgS g32) dL_parses_102 (by decide) (fun _ => ?_) (fun z => absurd c33 z)
          refine gx_sub (ls2 := [(0, .ref v0), (1, .int (gI v1)), (2, .int (gI v2)), (5, .int (gI v5)), (6, .int (gI v6)), (7, .int (gI q13.1)), (8, .int (gI q14.1))]) [2, 3, 4, 6, 7, 1, 0] rfl ?_
          exact zb_L_parses_151 hkc hks hr65 e
        · refine gy_icmp_gt (tgt := 151) (gi_rgS g15) (gi_rgS g32) dL_parses_102 (by decide) (fun z => absurd z c33) (fun _ => ?_)
          refine gx_iload dL_parses_105 1 rfl ?_
          refine gy_iconst dL_parses_107 ?_
          refine gx_iE e (fun c34 e => ?_) (fun c34 e => ?_)
          · refine gy_icmp_ne (tgt := 115) (gi_rgS g15) (by decide) dL_parses_108 (by decide) (fun z => absurd c34 z) (fun _ => ?_)
            refine gy_iconst dL_parses_111 ?_
            refine gx_goto (tgt := 116) dL_parses_112 (by decide) ?_
            refine gx_sub (ls2 := [(0, .ref v0), (1, .int (gI v1)), (2, .int (gI v2)), (5, .int (gI v5)), (6, .int (gI v6)), (7, .int (gI q13.1)), (8, .int (gI q14.1))]) [2, 3, 4, 6, 7, 1, 0] rfl ?_
            exact zb_L_parses_116 hkc hks hr65 e
          · refine gy_icmp_ne (tgt := 115) (gi_rgS g15) (by decide) dL_parses_108 (by decide) (fun _ => ?_) (fun z => absurd z c34)
            refine gy_iconst dL_parses_115 ?_
            refine gx_sub (ls2 := [(0, .ref v0), (1, .int (gI v1)), (2, .int (gI v2)), (5, .int (gI v5)), (6, .int (gI v6)), (7, .int (gI q13.1)), (8, .int (gI q14.1))]) [2, 3, 4, 6, 7, 1, 0] rfl ?_
            exact zb_L_parses_116 hkc hks hr65 e
def l_L_parses_65 (n : Nat)  : Nat → Nat → Int → Int → Int → Int → Int → gi_H → Option (Int × gi_H)
  | 0, _, _, _, _, _, _, _ => none
  | k + 1, v0, v1, v2, v4, v5, v6, h => b_L_parses_65 n  (l_L_parses_65 n  k) v0 v1 v2 v4 v5 v6 h
theorem zl_L_parses_65 {n : Nat}  {res : Int} {h1 : gi_H}  : ∀ (k kc ks : Nat) (v0 : Nat) (v1 : Int) (v2 : Int) (v4 : Int) (v5 : Int) (v6 : Int) (h : gi_H), kc + k * 8 ≤ 40 → ks + k * 48 ≤ 240 → l_L_parses_65 n  k v0 v1 v2 v4 v5 v6 h = some (res, h1) → gx_Z mL_parses false false kc ks 65 [(0, .ref v0), (1, .int (gI v1)), (2, .int (gI v2)), (4, .int (gI v4)), (5, .int (gI v5)), (6, .int (gI v6))] [] (gi_cv h) (.inl (some (.int (gI res)))) (gi_cv h1)
  | 0, _, _, _, _, _, _, _, _, _, _, _, e => gx_0E e
  | k + 1, _, _, _, _, _, _, _, _, _, hkc, hks, e => zb_L_parses_65 (n := n) hkc hks  (fun kc ks => zl_L_parses_65  k kc ks) e
set_option maxRecDepth 100000 in
def b_L_parses_57 (n : Nat)  (v0 : Nat) (v1 : Int) (v2 : Int) (s0 : Int) (h : gi_H) : Option (Int × gi_H) :=
  l_L_parses_65 n  5 v0 v1 v2 s0 (-1 : Int) (0 : Int) h
set_option maxRecDepth 100000 in
theorem zb_L_parses_57 {n : Nat}  {res : Int} {h1 : gi_H}  {v0 : Nat} {v1 : Int} {v2 : Int} {s0 : Int} {h : gi_H} (e : b_L_parses_57 n v0 v1 v2 s0 h = some (res, h1)) : gx_Z mL_parses false false 0 0 57 [(0, .ref v0), (1, .int (gI v1)), (2, .int (gI v2))] [.int (gI s0)] (gi_cv h) (.inl (some (.int (gI res)))) (gi_cv h1) := by
  refine gx_istore (ls2 := [(4, .int (gI s0)), (0, .ref v0), (1, .int (gI v1)), (2, .int (gI v2))]) dL_parses_57 (Nat.le_of_ble_eq_true rfl) rfl ?_
  refine gy_iconst dL_parses_59 ?_
  refine gx_istore (ls2 := [(5, .int (gI (-1 : Int))), (4, .int (gI s0)), (0, .ref v0), (1, .int (gI v1)), (2, .int (gI v2))]) dL_parses_60 (Nat.le_of_ble_eq_true rfl) rfl ?_
  refine gy_iconst dL_parses_62 ?_
  refine gx_istore (ls2 := [(6, .int (gI (0 : Int))), (5, .int (gI (-1 : Int))), (4, .int (gI s0)), (0, .ref v0), (1, .int (gI v1)), (2, .int (gI v2))]) dL_parses_63 (Nat.le_of_ble_eq_true rfl) rfl ?_
  refine gx_sub (ls2 := [(0, .ref v0), (1, .int (gI v1)), (2, .int (gI v2)), (4, .int (gI s0)), (5, .int (gI (-1 : Int))), (6, .int (gI (0 : Int)))]) [3, 4, 5, 2, 1, 0] rfl ?_
  exact zl_L_parses_65  5 0 0 _ _ _ _ _ _ _ (Nat.le_of_ble_eq_true rfl) (Nat.le_of_ble_eq_true rfl) e
set_option maxRecDepth 100000 in
def b_L_parses_56 (n : Nat)  (v0 : Nat) (v1 : Int) (v2 : Int)  (h : gi_H) : Option (Int × gi_H) :=
  b_L_parses_57 n  v0 v1 v2 (0 : Int) h
set_option maxRecDepth 100000 in
theorem zb_L_parses_56 {n : Nat}  {res : Int} {h1 : gi_H}  {v0 : Nat} {v1 : Int} {v2 : Int}  {h : gi_H} (e : b_L_parses_56 n v0 v1 v2 h = some (res, h1)) : gx_Z mL_parses false false 0 0 56 [(0, .ref v0), (1, .int (gI v1)), (2, .int (gI v2))] [] (gi_cv h) (.inl (some (.int (gI res)))) (gi_cv h1) := by
  refine gy_iconst dL_parses_56 ?_
  exact zb_L_parses_57  e
set_option maxRecDepth 100000 in
def b_L_parses_38 (n : Nat)  (v0 : Nat) (v1 : Int) (v2 : Int) (v3 : Int) (s0 : Int) (s1 : Int) (h : gi_H) : Option (Int × gi_H) :=
  Option.bind (gi_rg s0) fun _ => Option.bind (gi_rg s1) fun _ => if s0 = s1 then (Option.bind (gi_rg v3) fun _ => if v3 < (-1 : Int) then (b_L_parses_56 n  v0 v1 v2 h) else (if (99 : Int) < v3 then (b_L_parses_56 n  v0 v1 v2 h) else (b_L_parses_57 n  v0 v1 v2 (1 : Int) h))) else (b_L_parses_56 n  v0 v1 v2 h)
set_option maxRecDepth 100000 in
theorem zb_L_parses_38 {n : Nat}  {res : Int} {h1 : gi_H}  {v0 : Nat} {v1 : Int} {v2 : Int} {v3 : Int} {s0 : Int} {s1 : Int} {h : gi_H} (e : b_L_parses_38 n v0 v1 v2 v3 s0 s1 h = some (res, h1)) : gx_Z mL_parses false false 0 0 38 [(0, .ref v0), (1, .int (gI v1)), (2, .int (gI v2)), (3, .int (gI v3))] [.int (gI s1), .int (gI s0)] (gi_cv h) (.inl (some (.int (gI res)))) (gi_cv h1) := by
  refine gx_bE e (fun _ g50 e => ?_)
  refine gx_bE e (fun _ g51 e => ?_)
  refine gx_iE e (fun c52 e => ?_) (fun c52 e => ?_)
  · refine gy_icmp_ne (tgt := 56) (gi_rgS g50) (gi_rgS g51) dL_parses_38 (by decide) (fun z => absurd c52 z) (fun _ => ?_)
    refine gx_iload_n dL_parses_41 rfl 3 rfl ?_
    refine gy_iconst dL_parses_42 ?_
    refine gx_bE e (fun _ g53 e => ?_)
    refine gx_iE e (fun c54 e => ?_) (fun c54 e => ?_)
    · refine gy_icmp_lt (tgt := 56) (gi_rgS g53) (by decide) dL_parses_43 (by decide) (fun _ => ?_) (fun z => absurd c54 z)
      refine gx_sub (ls2 := [(0, .ref v0), (1, .int (gI v1)), (2, .int (gI v2))]) [0, 1, 2] rfl ?_
      exact zb_L_parses_56  e
    · refine gy_icmp_lt (tgt := 56) (gi_rgS g53) (by decide) dL_parses_43 (by decide) (fun z => absurd z c54) (fun _ => ?_)
      refine gx_iload_n dL_parses_46 rfl 3 rfl ?_
      refine gy_bipush dL_parses_47 gcb_99 ?_
      refine gx_iE e (fun c55 e => ?_) (fun c55 e => ?_)
      · refine gy_icmp_gt (tgt := 56) (gi_rgS g53) (by decide) dL_parses_49 (by decide) (fun _ => ?_) (fun z => absurd c55 z)
        refine gx_sub (ls2 := [(0, .ref v0), (1, .int (gI v1)), (2, .int (gI v2))]) [0, 1, 2] rfl ?_
        exact zb_L_parses_56  e
      · refine gy_icmp_gt (tgt := 56) (gi_rgS g53) (by decide) dL_parses_49 (by decide) (fun z => absurd z c55) (fun _ => ?_)
        refine gy_iconst dL_parses_52 ?_
        refine gx_goto (tgt := 57) dL_parses_53 (by decide) ?_
        refine gx_sub (ls2 := [(0, .ref v0), (1, .int (gI v1)), (2, .int (gI v2))]) [0, 1, 2] rfl ?_
        exact zb_L_parses_57  e
  · refine gy_icmp_ne (tgt := 56) (gi_rgS g50) (gi_rgS g51) dL_parses_38 (by decide) (fun _ => ?_) (fun z => absurd z c52)
    refine gx_sub (ls2 := [(0, .ref v0), (1, .int (gI v1)), (2, .int (gI v2))]) [0, 1, 2] rfl ?_
    exact zb_L_parses_56  e
set_option maxRecDepth 100000 in
def b_L_parses_29 (n : Nat)  (v0 : Nat) (v1 : Int) (v2 : Int) (v3 : Int) (s0 : Int) (h : gi_H) : Option (Int × gi_H) :=
  Option.bind (gi_rg v3) fun _ => if v3 = 0 then (b_L_parses_38 n  v0 v1 v2 v3 s0 (1 : Int) h) else (b_L_parses_38 n  v0 v1 v2 v3 s0 (0 : Int) h)
set_option maxRecDepth 100000 in
theorem zb_L_parses_29 {n : Nat}  {res : Int} {h1 : gi_H}  {v0 : Nat} {v1 : Int} {v2 : Int} {v3 : Int} {s0 : Int} {h : gi_H} (e : b_L_parses_29 n v0 v1 v2 v3 s0 h = some (res, h1)) : gx_Z mL_parses false false 0 0 29 [(0, .ref v0), (1, .int (gI v1)), (2, .int (gI v2)), (3, .int (gI v3))] [.int (gI s0)] (gi_cv h) (.inl (some (.int (gI res)))) (gi_cv h1) := by
  refine gx_iload_n dL_parses_29 rfl 3 rfl ?_
  refine gx_bE e (fun _ g48 e => ?_)
  refine gx_iE e (fun c49 e => ?_) (fun c49 e => ?_)
  · refine gy_if_ne (tgt := 37) (gi_rgS g48) dL_parses_30 (by decide) (fun z => absurd c49 z) (fun _ => ?_)
    refine gy_iconst dL_parses_33 ?_
    refine gx_goto (tgt := 38) dL_parses_34 (by decide) ?_
    exact zb_L_parses_38  e
  · refine gy_if_ne (tgt := 37) (gi_rgS g48) dL_parses_30 (by decide) (fun _ => ?_) (fun z => absurd z c49)
    refine gy_iconst dL_parses_37 ?_
    exact zb_L_parses_38  e
set_option maxRecDepth 100000 in
def f_L_parses (n : Nat) (v0 : Nat) (v1 : Int) (h : gi_H) : Option (Int × gi_H) :=
  Option.bind (gi_is h v0 9) fun _ => Option.bind (f_X11_readings n v0 h) fun q2 => Option.bind (gi_is q2.2 v0 9) fun _ => Option.bind (f_X11_repair n v0 q2.2) fun q4 => Option.bind (gi_rg q2.1) fun _ => if q2.1 < 0 then (b_L_parses_56 n  v0 v1 q2.1 q4.2) else (if (100 : Int) < q2.1 then (b_L_parses_56 n  v0 v1 q2.1 q4.2) else (if q2.1 ≤ 0 then (b_L_parses_29 n  v0 v1 q2.1 q4.1 (0 : Int) q4.2) else (b_L_parses_29 n  v0 v1 q2.1 q4.1 (1 : Int) q4.2)))
set_option maxRecDepth 100000 in
theorem z_L_parses {n : Nat} {v0 : Nat} {v1 : Int} {h : gi_H} {res : Int} {h1 : gi_H} (e : f_L_parses n v0 v1 h = some (res, h1)) : gx_Cw mL_parses false [.ref v0, .int (gI v1)] (gi_cv h) (.inl (some (.int (gI res)))) (gi_cv h1) := by
  refine gx_enter (by decide +kernel) rfl (Nat.le_of_ble_eq_true rfl) ?_
  show gx_Z mL_parses false false 0 0 0 [(0, .ref v0), (1, .int (gI v1))] [] (gi_cv h) (.inl (some (.int (gI res)))) (gi_cv h1)
  refine gx_aload_n dL_parses_0 rfl 0 rfl ?_
  refine gx_bE e (fun _ hu1 e => ?_)
  refine gx_bE e (fun q2 hq2 e => ?_)
  refine gx_callV (n := 0) (st := []) (As := []) (b := v0) dL_parses_1 (z_X11_readings hq2) rfl ⟨rfl, gw_cw_X11_readings, gw_1, gp_X11_readings, ⟨Nat.le_of_ble_eq_true rfl, Nat.le_of_ble_eq_true rfl⟩⟩ (gi_isS hu1) (by decide) gw_1164 gw_1165 gw_1166 rfl ⟨Nat.le_of_ble_eq_true rfl, Nat.le_of_ble_eq_true rfl⟩ (Nat.le_of_ble_eq_true rfl) (gy_k1 (x := .int (gI q2.1)) (kc2 := 0) (ks2 := 0) ⟨rfl, rfl⟩ ?_) gy_kn
  refine gx_istore_n (ls2 := [(2, .int (gI q2.1)), (0, .ref v0), (1, .int (gI v1))]) dL_parses_4 rfl (Nat.le_of_ble_eq_true rfl) rfl ?_
  refine gx_aload_n dL_parses_5 rfl 1 rfl ?_
  refine gx_bE e (fun _ hu3 e => ?_)
  refine gx_bE e (fun q4 hq4 e => ?_)
  refine gx_callV (n := 0) (st := []) (As := []) (b := v0) dL_parses_6 (z_X11_repair hq4) rfl ⟨rfl, gw_cw_X11_repair, gw_1, gp_X11_repair, ⟨Nat.le_of_ble_eq_true rfl, Nat.le_of_ble_eq_true rfl⟩⟩ (gi_isS hu3) (by decide) gw_387 gw_388 gw_389 rfl ⟨Nat.le_of_ble_eq_true rfl, Nat.le_of_ble_eq_true rfl⟩ (Nat.le_of_ble_eq_true rfl) (gy_k1 (x := .int (gI q4.1)) (kc2 := 0) (ks2 := 0) ⟨rfl, rfl⟩ ?_) gy_kn
  refine gx_istore_n (ls2 := [(3, .int (gI q4.1)), (2, .int (gI q2.1)), (0, .ref v0), (1, .int (gI v1))]) dL_parses_9 rfl (Nat.le_of_ble_eq_true rfl) rfl ?_
  refine gx_iload_n dL_parses_10 rfl 1 rfl ?_
  refine gx_bE e (fun _ g5 e => ?_)
  refine gx_iE e (fun c6 e => ?_) (fun c6 e => ?_)
  · refine gy_if_lt (tgt := 56) (gi_rgS g5) dL_parses_11 (by decide) (fun _ => ?_) (fun z => absurd c6 z)
    refine gx_sub (ls2 := [(0, .ref v0), (1, .int (gI v1)), (2, .int (gI q2.1))]) [2, 3, 1] rfl ?_
    exact zb_L_parses_56  e
  · refine gy_if_lt (tgt := 56) (gi_rgS g5) dL_parses_11 (by decide) (fun z => absurd z c6) (fun _ => ?_)
    refine gx_iload_n dL_parses_14 rfl 1 rfl ?_
    refine gy_bipush dL_parses_15 gcb_100 ?_
    refine gx_iE e (fun c46 e => ?_) (fun c46 e => ?_)
    · refine gy_icmp_gt (tgt := 56) (gi_rgS g5) (by decide) dL_parses_17 (by decide) (fun _ => ?_) (fun z => absurd c46 z)
      refine gx_sub (ls2 := [(0, .ref v0), (1, .int (gI v1)), (2, .int (gI q2.1))]) [2, 3, 1] rfl ?_
      exact zb_L_parses_56  e
    · refine gy_icmp_gt (tgt := 56) (gi_rgS g5) (by decide) dL_parses_17 (by decide) (fun z => absurd z c46) (fun _ => ?_)
      refine gx_iload_n dL_parses_20 rfl 1 rfl ?_
      refine gx_iE e (fun c47 e => ?_) (fun c47 e => ?_)
      · refine gy_if_le (tgt := 28) (gi_rgS g5) dL_parses_21 (by decide) (fun _ => ?_) (fun z => absurd c47 z)
        refine gy_iconst dL_parses_28 ?_
        refine gx_sub (ls2 := [(0, .ref v0), (1, .int (gI v1)), (2, .int (gI q2.1)), (3, .int (gI q4.1))]) [2, 3, 1, 0] rfl ?_
        exact zb_L_parses_29  e
      · refine gy_if_le (tgt := 28) (gi_rgS g5) dL_parses_21 (by decide) (fun z => absurd z c47) (fun _ => ?_)
        refine gy_iconst dL_parses_24 ?_
        refine gx_goto (tgt := 29) dL_parses_25 (by decide) ?_
        refine gx_sub (ls2 := [(0, .ref v0), (1, .int (gI v1)), (2, .int (gI q2.1)), (3, .int (gI q4.1))]) [2, 3, 1, 0] rfl ?_
        exact zb_L_parses_29  e
/-! X11_requireNonterminal  -/
set_option maxRecDepth 100000 in
def b_X11_requireNonterminal_10    (h : gi_H) : Option ((Unit ⊕ String) × gi_H) :=
  some (.inr gx_IOB, h)
set_option maxRecDepth 100000 in
theorem zb_X11_requireNonterminal_10  {res : Unit ⊕ String} {h1 : gi_H}    {h : gi_H} (e : b_X11_requireNonterminal_10  h = some (res, h1)) : gx_Z mX11_requireNonterminal false false 0 0 10 [] [] (gi_cv h) (gx_oV res) (gi_cv h1) := by
  cases e
  exact gx_throw rfl gt_151_171_155 rfl dX11_requireNonterminal_10 dX11_requireNonterminal_13 dX11_requireNonterminal_14 dX11_requireNonterminal_16 dX11_requireNonterminal_19 (Nat.le_of_ble_eq_true rfl) (Nat.le_of_ble_eq_true rfl) ⟨Nat.le_of_ble_eq_true rfl, Nat.le_of_ble_eq_true rfl⟩
set_option maxRecDepth 100000 in
def f_X11_requireNonterminal (v0 : Int) (h : gi_H) : Option ((Unit ⊕ String) × gi_H) :=
  Option.bind (gi_rg v0) fun _ => if v0 < 0 then (b_X11_requireNonterminal_10   h) else (if v0 < (16 : Int) then (some (.inl (), h)) else (b_X11_requireNonterminal_10   h))
set_option maxRecDepth 100000 in
theorem z_X11_requireNonterminal {v0 : Int} {h : gi_H} {res : Unit ⊕ String} {h1 : gi_H} (e : f_X11_requireNonterminal v0 h = some (res, h1)) : gx_Cw mX11_requireNonterminal false [.int (gI v0)] (gi_cv h) (gx_oV res) (gi_cv h1) := by
  refine gx_enter (by decide +kernel) rfl (Nat.le_of_ble_eq_true rfl) ?_
  show gx_Z mX11_requireNonterminal false false 0 0 0 [(0, .int (gI v0))] [] (gi_cv h) (gx_oV res) (gi_cv h1)
  refine gx_iload_n dX11_requireNonterminal_0 rfl 0 rfl ?_
  refine gx_bE e (fun _ g1 e => ?_)
  refine gx_iE e (fun c2 e => ?_) (fun c2 e => ?_)
  · refine gy_if_lt (tgt := 10) (gi_rgS g1) dX11_requireNonterminal_1 (by decide) (fun _ => ?_) (fun z => absurd c2 z)
    refine gx_sub (ls2 := []) [] rfl ?_
    exact zb_X11_requireNonterminal_10  e
  · refine gy_if_lt (tgt := 10) (gi_rgS g1) dX11_requireNonterminal_1 (by decide) (fun z => absurd z c2) (fun _ => ?_)
    refine gx_iload_n dX11_requireNonterminal_4 rfl 0 rfl ?_
    refine gy_bipush dX11_requireNonterminal_5 gcb_16 ?_
    refine gx_iE e (fun c3 e => ?_) (fun c3 e => ?_)
    · refine gy_icmp_lt (tgt := 20) (gi_rgS g1) (by decide) dX11_requireNonterminal_7 (by decide) (fun _ => ?_) (fun z => absurd c3 z)
      cases e
      exact gx_vret dX11_requireNonterminal_20 rfl ⟨Nat.le_of_ble_eq_true rfl, Nat.le_of_ble_eq_true rfl⟩ (fun z => z)
    · refine gy_icmp_lt (tgt := 20) (gi_rgS g1) (by decide) dX11_requireNonterminal_7 (by decide) (fun z => absurd z c3) (fun _ => ?_)
      refine gx_sub (ls2 := []) [] rfl ?_
      exact zb_X11_requireNonterminal_10  e
/-! X11_shortest  -/
set_option maxRecDepth 100000 in
def f_X11_shortest (n : Nat) (v0 : Nat) (v1 : Int) (h : gi_H) : Option ((Int ⊕ String) × gi_H) :=
  Option.bind (f_X11_requireNonterminal v1 h) fun q1 => gx_sm q1.1 (fun t2 => Option.bind (gi_gR q1.2 v0 9 8) fun t3 => Option.bind (gi_is q1.2 t3 2) fun _ => Option.bind (f_X3_learn n t3 q1.2) fun q5 => Option.bind (gi_gR q5 v0 9 8) fun t6 => Option.bind (gi_is q5 t6 2) fun _ => Option.bind (f_X3_least t6 v1 q5) fun q8 => some (.inl q8, q5)) (fun t2 => some (.inr t2, q1.2))
set_option maxRecDepth 100000 in
theorem z_X11_shortest {n : Nat} {v0 : Nat} {v1 : Int} {h : gi_H} {res : Int ⊕ String} {h1 : gi_H} (e : f_X11_shortest n v0 v1 h = some (res, h1)) : gx_Cw mX11_shortest false [.ref v0, .int (gI v1)] (gi_cv h) (gx_oI res) (gi_cv h1) := by
  refine gx_enter (by decide +kernel) rfl (Nat.le_of_ble_eq_true rfl) ?_
  show gx_Z mX11_shortest false false 0 0 0 [(0, .ref v0), (1, .int (gI v1))] [] (gi_cv h) (gx_oI res) (gi_cv h1)
  refine gx_iload_n dX11_shortest_0 rfl 1 rfl ?_
  refine gx_bE e (fun q1 hq1 e => ?_)
  refine gx_smE e (fun t2 ht2 e => ?_) (fun t2 ht2 e => ?_)
  · have zq1 := z_X11_requireNonterminal hq1
    rw [ht2] at zq1
    refine gx_callS (n := 1) (st := []) (As := [.int (gI v1)]) dX11_shortest_1 zq1 rfl ⟨rfl, gw_cw_X11_requireNonterminal, gw_1, gp_X11_requireNonterminal, ⟨Nat.le_of_ble_eq_true rfl, Nat.le_of_ble_eq_true rfl⟩⟩ gw_1275 gw_1276 ⟨Nat.le_of_ble_eq_true rfl, Nat.le_of_ble_eq_true rfl⟩ (Nat.le_of_ble_eq_true rfl) (gy_k0 (kc2 := 1) (ks2 := 6) ⟨rfl, rfl⟩ ?_) gy_kn
    refine gx_aload_n dX11_shortest_4 rfl 0 rfl ?_
    refine gx_bE e (fun t3 ht3 e => ?_)
    refine gy_fR ht3 dX11_shortest_5 gf_RX11_52_9_8 (by decide) gkN_9_8 gkR_9_8 ?_
    refine gx_bE e (fun _ hu4 e => ?_)
    refine gx_bE e (fun q5 hq5 e => ?_)
    refine gx_callV (n := 0) (st := []) (As := []) (b := t3) dX11_shortest_8 (z_X3_learn hq5) rfl ⟨rfl, gw_cw_X3_learn, gw_6, gp_X3_learn, ⟨Nat.le_of_ble_eq_true rfl, Nat.le_of_ble_eq_true rfl⟩⟩ (gi_isS hu4) (by decide) gw_391 gw_392 gw_393 rfl ⟨Nat.le_of_ble_eq_true rfl, Nat.le_of_ble_eq_true rfl⟩ (Nat.le_of_ble_eq_true rfl) (gy_k0 (kc2 := 1) (ks2 := 6) ⟨rfl, rfl⟩ ?_) gy_kn
    refine gx_aload_n dX11_shortest_11 rfl 0 rfl ?_
    refine gx_bE e (fun t6 ht6 e => ?_)
    refine gy_fR ht6 dX11_shortest_12 gf_RX11_52_9_8 (by decide) gkN_9_8 gkR_9_8 ?_
    refine gx_iload_n dX11_shortest_15 rfl 1 rfl ?_
    refine gx_bE e (fun _ hu7 e => ?_)
    refine gx_bE e (fun q8 hq8 e => ?_)
    refine gx_callV (n := 1) (st := []) (As := [.int (gI v1)]) (b := t6) dX11_shortest_16 (z_X3_least hq8) rfl ⟨rfl, gw_cw_X3_least, gw_6, gp_X3_least, ⟨Nat.le_of_ble_eq_true rfl, Nat.le_of_ble_eq_true rfl⟩⟩ (gi_isS hu7) (by decide) gw_1278 gw_516 gw_517 rfl ⟨Nat.le_of_ble_eq_true rfl, Nat.le_of_ble_eq_true rfl⟩ (Nat.le_of_ble_eq_true rfl) (gy_k1 (x := .int (gI q8)) (kc2 := 1) (ks2 := 6) ⟨rfl, rfl⟩ ?_) gy_kn
    cases e
    exact gx_iret dX11_shortest_19 rfl ⟨Nat.le_of_ble_eq_true rfl, Nat.le_of_ble_eq_true rfl⟩ (fun z => z)
  · have zq1 := z_X11_requireNonterminal hq1
    rw [ht2] at zq1
    refine gx_callS (n := 1) (st := []) (As := [.int (gI v1)]) dX11_shortest_1 zq1 rfl ⟨rfl, gw_cw_X11_requireNonterminal, gw_1, gp_X11_requireNonterminal, ⟨Nat.le_of_ble_eq_true rfl, Nat.le_of_ble_eq_true rfl⟩⟩ gw_1275 gw_1276 ⟨Nat.le_of_ble_eq_true rfl, Nat.le_of_ble_eq_true rfl⟩ (Nat.le_of_ble_eq_true rfl) gy_kN (gy_kE (kc2 := 1) (ks2 := 6) ⟨rfl, rfl⟩ ?_)
    cases e
    exact gx_out rfl ⟨Nat.le_of_ble_eq_true rfl, Nat.le_of_ble_eq_true rfl⟩ (fun z => z)
/-! L_shortest  -/
set_option maxRecDepth 100000 in
def f_L_shortest (n : Nat) (v0 : Nat) (v1 : Int) (h : gi_H) : Option (Int × gi_H) :=
  Option.bind (gi_is h v0 9) fun _ => Option.bind (f_X11_shortest n v0 v1 h) fun q2 => gx_sm q2.1 (fun t3 => some (t3, q2.2)) (fun t3 => if t3 = gx_IOB then (some ((-101 : Int), q2.2)) else (none))
set_option maxRecDepth 100000 in
theorem z_L_shortest {n : Nat} {v0 : Nat} {v1 : Int} {h : gi_H} {res : Int} {h1 : gi_H} (e : f_L_shortest n v0 v1 h = some (res, h1)) : gx_Cw mL_shortest false [.ref v0, .int (gI v1)] (gi_cv h) (.inl (some (.int (gI res)))) (gi_cv h1) := by
  refine gx_enter (by decide +kernel) rfl (Nat.le_of_ble_eq_true rfl) ?_
  show gx_Z mL_shortest false false 0 0 0 [(0, .ref v0), (1, .int (gI v1))] [] (gi_cv h) (.inl (some (.int (gI res)))) (gi_cv h1)
  refine gx_aload_n dL_shortest_0 rfl 0 rfl ?_
  refine gx_iload_n dL_shortest_1 rfl 1 rfl ?_
  refine gx_bE e (fun _ hu1 e => ?_)
  refine gx_bE e (fun q2 hq2 e => ?_)
  refine gx_smE e (fun t3 ht3 e => ?_) (fun t3 ht3 e => ?_)
  · have zq2 := z_X11_shortest hq2
    rw [ht3] at zq2
    refine gx_callV (n := 1) (st := []) (As := [.int (gI v1)]) (b := v0) dL_shortest_2 zq2 rfl ⟨rfl, gw_cw_X11_shortest, gw_1, gp_X11_shortest, ⟨Nat.le_of_ble_eq_true rfl, Nat.le_of_ble_eq_true rfl⟩⟩ (gi_isS hu1) (by decide) gw_1271 gw_1272 gw_1273 rfl ⟨Nat.le_of_ble_eq_true rfl, Nat.le_of_ble_eq_true rfl⟩ (Nat.le_of_ble_eq_true rfl) (gy_k1 (x := .int (gI t3)) (kc2 := 1) (ks2 := 6) ⟨rfl, rfl⟩ ?_) gy_kn
    cases e
    exact gx_iret dL_shortest_5 rfl ⟨Nat.le_of_ble_eq_true rfl, Nat.le_of_ble_eq_true rfl⟩ (fun z => z)
  · have zq2 := z_X11_shortest hq2
    rw [ht3] at zq2
    refine gx_callV (n := 1) (st := []) (As := [.int (gI v1)]) (b := v0) dL_shortest_2 zq2 rfl ⟨rfl, gw_cw_X11_shortest, gw_1, gp_X11_shortest, ⟨Nat.le_of_ble_eq_true rfl, Nat.le_of_ble_eq_true rfl⟩⟩ (gi_isS hu1) (by decide) gw_1271 gw_1272 gw_1273 rfl ⟨Nat.le_of_ble_eq_true rfl, Nat.le_of_ble_eq_true rfl⟩ (Nat.le_of_ble_eq_true rfl) gy_kN (gy_kE (kc2 := 1) (ks2 := 6) ⟨rfl, rfl⟩ ?_)
    refine gx_iE e (fun c4 e => ?_) (fun c4 e => ?_)
    · rw [c4]
      refine gx_catch (ls2 := [(0, .ref v0), (1, .int (gI v1))]) [] (x := (0, 5, 6, 33)) rfl (fun z hz => by cases hz) (by decide +kernel) (by decide) gw_866 (by decide +kernel) (Nat.le_of_ble_eq_true rfl) (Or.inl ⟨2, rfl, rfl, dL_shortest_6⟩) rfl ?_
      refine gy_bipush dL_shortest_7 gcb_m101 ?_
      cases e
      exact gx_iret dL_shortest_9 rfl ⟨Nat.le_of_ble_eq_true rfl, Nat.le_of_ble_eq_true rfl⟩ (fun z => z)
    cases e
/-! X3_isReached  -/
set_option maxRecDepth 100000 in
def f_X3_isReached (v0 : Nat) (v1 : Int) (h : gi_H) : Option (Int) :=
  Option.bind (gi_gI h v0 2 2) fun t1 => Option.bind (f_X11_has t1 v1 h) fun q2 => Option.bind (gi_zo q2) fun _ => some q2
set_option maxRecDepth 100000 in
theorem z_X3_isReached {al : Bool} {v0 : Nat} {v1 : Int} {h : gi_H} {res : Int} (e : f_X3_isReached v0 v1 h = some res) : gx_Cw mX3_isReached al [.ref v0, .int (gI v1)] (gi_cv h) (.inl (some (.int (gI res)))) (gi_cv h) := by
  refine gx_enter (by decide +kernel) rfl (Nat.le_of_ble_eq_true rfl) ?_
  show gx_Z mX3_isReached al al 0 0 0 [(0, .ref v0), (1, .int (gI v1))] [] (gi_cv h) (.inl (some (.int (gI res)))) (gi_cv h)
  refine gx_aload_n dX3_isReached_0 rfl 0 rfl ?_
  refine gx_bE e (fun t1 ht1 e => ?_)
  refine gy_fI ht1 dX3_isReached_1 gf_RX3_79_2_2 (by decide) gkN_2_2 gkR_2_2 ?_
  refine gx_iload_n dX3_isReached_4 rfl 1 rfl ?_
  refine gx_bE e (fun q2 hq2 e => ?_)
  refine gx_callSN (n := 2) (st := []) (As := [.int (gI t1), .int (gI v1)]) dX3_isReached_5 (z_X11_has hq2) rfl ⟨rfl, gw_cw_X11_has, gw_1, gp_X11_has, ⟨Nat.le_of_ble_eq_true rfl, Nat.le_of_ble_eq_true rfl⟩⟩ (host := "Grammarsmith") (by decide +kernel) gw_460 ⟨Nat.le_of_ble_eq_true rfl, Nat.le_of_ble_eq_true rfl⟩ (Nat.le_of_ble_eq_true rfl) (gy_k1 (x := .int (gI q2)) (kc2 := 0) (ks2 := 0) ⟨rfl, rfl⟩ ?_) gy_kn
  refine gx_bE e (fun _ hu3 e => ?_)
  cases e
  exact gx_zret (gi_zoS hu3) dX3_isReached_8 rfl ⟨Nat.le_of_ble_eq_true rfl, Nat.le_of_ble_eq_true rfl⟩ (fun z => z)
/-! X11_uses  -/
set_option maxRecDepth 100000 in
def b_X11_uses_43 (n : Nat)   (s0 : Int) (s1 : Int) (h : gi_H) : Option ((Int ⊕ String) × gi_H) :=
  some (.inl (s0 + s1), h)
set_option maxRecDepth 100000 in
theorem zb_X11_uses_43 {n : Nat}  {res : Int ⊕ String} {h1 : gi_H}   {s0 : Int} {s1 : Int} {h : gi_H} (e : b_X11_uses_43 n s0 s1 h = some (res, h1)) : gx_Z mX11_uses false false 1 6 43 [] [.int (gI s1), .int (gI s0)] (gi_cv h) (gx_oI res) (gi_cv h1) := by
  refine gy_iadd dX11_uses_43 ?_
  cases e
  exact gx_iret dX11_uses_44 rfl ⟨Nat.le_of_ble_eq_true rfl, Nat.le_of_ble_eq_true rfl⟩ (fun z => z)
set_option maxRecDepth 100000 in
def b_X11_uses_27 (n : Nat)  (v0 : Nat) (v1 : Int) (s0 : Int) (h : gi_H) : Option ((Int ⊕ String) × gi_H) :=
  Option.bind (gi_gR h v0 9 8) fun t11 => Option.bind (gi_is h t11 2) fun _ => Option.bind (f_X3_isReached t11 v1 h) fun q13 => Option.bind (gi_rg q13) fun _ => if q13 = 0 then (b_X11_uses_43 n  s0 (0 : Int) h) else (b_X11_uses_43 n  s0 (2 : Int) h)
set_option maxRecDepth 100000 in
theorem zb_X11_uses_27 {n : Nat}  {res : Int ⊕ String} {h1 : gi_H}  {v0 : Nat} {v1 : Int} {s0 : Int} {h : gi_H} (e : b_X11_uses_27 n v0 v1 s0 h = some (res, h1)) : gx_Z mX11_uses false false 1 6 27 [(0, .ref v0), (1, .int (gI v1))] [.int (gI s0)] (gi_cv h) (gx_oI res) (gi_cv h1) := by
  refine gx_aload_n dX11_uses_27 rfl 0 rfl ?_
  refine gx_bE e (fun t11 ht11 e => ?_)
  refine gy_fR ht11 dX11_uses_28 gf_RX11_52_9_8 (by decide) gkN_9_8 gkR_9_8 ?_
  refine gx_iload_n dX11_uses_31 rfl 1 rfl ?_
  refine gx_bE e (fun _ hu12 e => ?_)
  refine gx_bE e (fun q13 hq13 e => ?_)
  refine gx_callV (n := 1) (st := [.int (gI s0)]) (As := [.int (gI v1)]) (b := t11) dX11_uses_32 (z_X3_isReached hq13) rfl ⟨rfl, gw_cw_X3_isReached, gw_6, gp_X3_isReached, ⟨Nat.le_of_ble_eq_true rfl, Nat.le_of_ble_eq_true rfl⟩⟩ (gi_isS hu12) (by decide) gw_1286 gw_1287 gw_1288 rfl ⟨Nat.le_of_ble_eq_true rfl, Nat.le_of_ble_eq_true rfl⟩ (Nat.le_of_ble_eq_true rfl) (gy_k1 (x := .int (gI q13)) (kc2 := 1) (ks2 := 6) ⟨rfl, rfl⟩ ?_) gy_kn
  refine gx_bE e (fun _ g14 e => ?_)
  refine gx_iE e (fun c15 e => ?_) (fun c15 e => ?_)
  · refine gy_if_eq (tgt := 42) (gi_rgS g14) dX11_uses_35 (by decide) (fun _ => ?_) (fun z => absurd c15 z)
    refine gy_iconst dX11_uses_42 ?_
    refine gx_sub (ls2 := []) [] rfl ?_
    exact zb_X11_uses_43  e
  · refine gy_if_eq (tgt := 42) (gi_rgS g14) dX11_uses_35 (by decide) (fun z => absurd z c15) (fun _ => ?_)
    refine gy_iconst dX11_uses_38 ?_
    refine gx_goto (tgt := 43) dX11_uses_39 (by decide) ?_
    refine gx_sub (ls2 := []) [] rfl ?_
    exact zb_X11_uses_43  e
set_option maxRecDepth 100000 in
def f_X11_uses (n : Nat) (v0 : Nat) (v1 : Int) (h : gi_H) : Option ((Int ⊕ String) × gi_H) :=
  Option.bind (f_X11_requireNonterminal v1 h) fun q1 => gx_sm q1.1 (fun t2 => Option.bind (gi_gR q1.2 v0 9 8) fun t3 => Option.bind (gi_is q1.2 t3 2) fun _ => Option.bind (f_X3_learn n t3 q1.2) fun q5 => Option.bind (gi_gR q5 v0 9 8) fun t6 => Option.bind (gi_is q5 t6 2) fun _ => Option.bind (f_X3_isProductive t6 v1 q5) fun q8 => Option.bind (gi_rg q8) fun _ => if q8 = 0 then (b_X11_uses_27 n  v0 v1 (0 : Int) q5) else (b_X11_uses_27 n  v0 v1 (1 : Int) q5)) (fun t2 => some (.inr t2, q1.2))
set_option maxRecDepth 100000 in
theorem z_X11_uses {n : Nat} {v0 : Nat} {v1 : Int} {h : gi_H} {res : Int ⊕ String} {h1 : gi_H} (e : f_X11_uses n v0 v1 h = some (res, h1)) : gx_Cw mX11_uses false [.ref v0, .int (gI v1)] (gi_cv h) (gx_oI res) (gi_cv h1) := by
  refine gx_enter (by decide +kernel) rfl (Nat.le_of_ble_eq_true rfl) ?_
  show gx_Z mX11_uses false false 0 0 0 [(0, .ref v0), (1, .int (gI v1))] [] (gi_cv h) (gx_oI res) (gi_cv h1)
  refine gx_iload_n dX11_uses_0 rfl 1 rfl ?_
  refine gx_bE e (fun q1 hq1 e => ?_)
  refine gx_smE e (fun t2 ht2 e => ?_) (fun t2 ht2 e => ?_)
  · have zq1 := z_X11_requireNonterminal hq1
    rw [ht2] at zq1
    refine gx_callS (n := 1) (st := []) (As := [.int (gI v1)]) dX11_uses_1 zq1 rfl ⟨rfl, gw_cw_X11_requireNonterminal, gw_1, gp_X11_requireNonterminal, ⟨Nat.le_of_ble_eq_true rfl, Nat.le_of_ble_eq_true rfl⟩⟩ gw_1275 gw_1276 ⟨Nat.le_of_ble_eq_true rfl, Nat.le_of_ble_eq_true rfl⟩ (Nat.le_of_ble_eq_true rfl) (gy_k0 (kc2 := 1) (ks2 := 6) ⟨rfl, rfl⟩ ?_) gy_kn
    refine gx_aload_n dX11_uses_4 rfl 0 rfl ?_
    refine gx_bE e (fun t3 ht3 e => ?_)
    refine gy_fR ht3 dX11_uses_5 gf_RX11_52_9_8 (by decide) gkN_9_8 gkR_9_8 ?_
    refine gx_bE e (fun _ hu4 e => ?_)
    refine gx_bE e (fun q5 hq5 e => ?_)
    refine gx_callV (n := 0) (st := []) (As := []) (b := t3) dX11_uses_8 (z_X3_learn hq5) rfl ⟨rfl, gw_cw_X3_learn, gw_6, gp_X3_learn, ⟨Nat.le_of_ble_eq_true rfl, Nat.le_of_ble_eq_true rfl⟩⟩ (gi_isS hu4) (by decide) gw_391 gw_392 gw_393 rfl ⟨Nat.le_of_ble_eq_true rfl, Nat.le_of_ble_eq_true rfl⟩ (Nat.le_of_ble_eq_true rfl) (gy_k0 (kc2 := 1) (ks2 := 6) ⟨rfl, rfl⟩ ?_) gy_kn
    refine gx_aload_n dX11_uses_11 rfl 0 rfl ?_
    refine gx_bE e (fun t6 ht6 e => ?_)
    refine gy_fR ht6 dX11_uses_12 gf_RX11_52_9_8 (by decide) gkN_9_8 gkR_9_8 ?_
    refine gx_iload_n dX11_uses_15 rfl 1 rfl ?_
    refine gx_bE e (fun _ hu7 e => ?_)
    refine gx_bE e (fun q8 hq8 e => ?_)
    refine gx_callV (n := 1) (st := []) (As := [.int (gI v1)]) (b := t6) dX11_uses_16 (z_X3_isProductive hq8) rfl ⟨rfl, gw_cw_X3_isProductive, gw_6, gp_X3_isProductive, ⟨Nat.le_of_ble_eq_true rfl, Nat.le_of_ble_eq_true rfl⟩⟩ (gi_isS hu7) (by decide) gw_511 gw_512 gw_513 rfl ⟨Nat.le_of_ble_eq_true rfl, Nat.le_of_ble_eq_true rfl⟩ (Nat.le_of_ble_eq_true rfl) (gy_k1 (x := .int (gI q8)) (kc2 := 1) (ks2 := 6) ⟨rfl, rfl⟩ ?_) gy_kn
    refine gx_bE e (fun _ g9 e => ?_)
    refine gx_iE e (fun c10 e => ?_) (fun c10 e => ?_)
    · refine gy_if_eq (tgt := 26) (gi_rgS g9) dX11_uses_19 (by decide) (fun _ => ?_) (fun z => absurd c10 z)
      refine gy_iconst dX11_uses_26 ?_
      exact zb_X11_uses_27  e
    · refine gy_if_eq (tgt := 26) (gi_rgS g9) dX11_uses_19 (by decide) (fun z => absurd z c10) (fun _ => ?_)
      refine gy_iconst dX11_uses_22 ?_
      refine gx_goto (tgt := 27) dX11_uses_23 (by decide) ?_
      exact zb_X11_uses_27  e
  · have zq1 := z_X11_requireNonterminal hq1
    rw [ht2] at zq1
    refine gx_callS (n := 1) (st := []) (As := [.int (gI v1)]) dX11_uses_1 zq1 rfl ⟨rfl, gw_cw_X11_requireNonterminal, gw_1, gp_X11_requireNonterminal, ⟨Nat.le_of_ble_eq_true rfl, Nat.le_of_ble_eq_true rfl⟩⟩ gw_1275 gw_1276 ⟨Nat.le_of_ble_eq_true rfl, Nat.le_of_ble_eq_true rfl⟩ (Nat.le_of_ble_eq_true rfl) gy_kN (gy_kE (kc2 := 1) (ks2 := 6) ⟨rfl, rfl⟩ ?_)
    cases e
    exact gx_out rfl ⟨Nat.le_of_ble_eq_true rfl, Nat.le_of_ble_eq_true rfl⟩ (fun z => z)
/-! L_uses  -/
set_option maxRecDepth 100000 in
def f_L_uses (n : Nat) (v0 : Nat) (v1 : Int) (h : gi_H) : Option (Int × gi_H) :=
  Option.bind (gi_is h v0 9) fun _ => Option.bind (f_X11_uses n v0 v1 h) fun q2 => gx_sm q2.1 (fun t3 => some (t3, q2.2)) (fun t3 => if t3 = gx_IOB then (some ((-101 : Int), q2.2)) else (none))
set_option maxRecDepth 100000 in
theorem z_L_uses {n : Nat} {v0 : Nat} {v1 : Int} {h : gi_H} {res : Int} {h1 : gi_H} (e : f_L_uses n v0 v1 h = some (res, h1)) : gx_Cw mL_uses false [.ref v0, .int (gI v1)] (gi_cv h) (.inl (some (.int (gI res)))) (gi_cv h1) := by
  refine gx_enter (by decide +kernel) rfl (Nat.le_of_ble_eq_true rfl) ?_
  show gx_Z mL_uses false false 0 0 0 [(0, .ref v0), (1, .int (gI v1))] [] (gi_cv h) (.inl (some (.int (gI res)))) (gi_cv h1)
  refine gx_aload_n dL_uses_0 rfl 0 rfl ?_
  refine gx_iload_n dL_uses_1 rfl 1 rfl ?_
  refine gx_bE e (fun _ hu1 e => ?_)
  refine gx_bE e (fun q2 hq2 e => ?_)
  refine gx_smE e (fun t3 ht3 e => ?_) (fun t3 ht3 e => ?_)
  · have zq2 := z_X11_uses hq2
    rw [ht3] at zq2
    refine gx_callV (n := 1) (st := []) (As := [.int (gI v1)]) (b := v0) dL_uses_2 zq2 rfl ⟨rfl, gw_cw_X11_uses, gw_1, gp_X11_uses, ⟨Nat.le_of_ble_eq_true rfl, Nat.le_of_ble_eq_true rfl⟩⟩ (gi_isS hu1) (by decide) gw_1282 gw_1283 gw_1284 rfl ⟨Nat.le_of_ble_eq_true rfl, Nat.le_of_ble_eq_true rfl⟩ (Nat.le_of_ble_eq_true rfl) (gy_k1 (x := .int (gI t3)) (kc2 := 1) (ks2 := 6) ⟨rfl, rfl⟩ ?_) gy_kn
    cases e
    exact gx_iret dL_uses_5 rfl ⟨Nat.le_of_ble_eq_true rfl, Nat.le_of_ble_eq_true rfl⟩ (fun z => z)
  · have zq2 := z_X11_uses hq2
    rw [ht3] at zq2
    refine gx_callV (n := 1) (st := []) (As := [.int (gI v1)]) (b := v0) dL_uses_2 zq2 rfl ⟨rfl, gw_cw_X11_uses, gw_1, gp_X11_uses, ⟨Nat.le_of_ble_eq_true rfl, Nat.le_of_ble_eq_true rfl⟩⟩ (gi_isS hu1) (by decide) gw_1282 gw_1283 gw_1284 rfl ⟨Nat.le_of_ble_eq_true rfl, Nat.le_of_ble_eq_true rfl⟩ (Nat.le_of_ble_eq_true rfl) gy_kN (gy_kE (kc2 := 1) (ks2 := 6) ⟨rfl, rfl⟩ ?_)
    refine gx_iE e (fun c4 e => ?_) (fun c4 e => ?_)
    · rw [c4]
      refine gx_catch (ls2 := [(0, .ref v0), (1, .int (gI v1))]) [] (x := (0, 5, 6, 33)) rfl (fun z hz => by cases hz) (by decide +kernel) (by decide) gw_866 (by decide +kernel) (Nat.le_of_ble_eq_true rfl) (Or.inl ⟨2, rfl, rfl, dL_uses_6⟩) rfl ?_
      refine gy_bipush dL_uses_7 gcb_m101 ?_
      cases e
      exact gx_iret dL_uses_9 rfl ⟨Nat.le_of_ble_eq_true rfl, Nat.le_of_ble_eq_true rfl⟩ (fun z => z)
    cases e
