/-! X12_findsShort  -/
set_option maxRecDepth 100000 in
def b_X12_findsShort_223 (n : Nat)  (v6 : Int) (s0 : Nat) (s1 : Int) (s2 : Int) (h : gi_H) : Option (Int × gi_H) :=
  Option.bind (gi_s2 h s0 s1 s2) fun h24 => Option.bind (gi_zo v6) fun _ => some (v6, h24)
set_option maxRecDepth 100000 in
theorem zb_X12_findsShort_223 {al : Bool} {n : Nat}  {res : Int} {h1 : gi_H}  {v6 : Int} {s0 : Nat} {s1 : Int} {s2 : Int} {h : gi_H} (e : b_X12_findsShort_223 n v6 s0 s1 s2 h = some (res, h1)) : gx_Z mX12_findsShort al al 0 0 223 [(6, .int (gI v6))] [.long (gL s2), .int (gI s1), .ref s0] (gi_cv h) (.inl (some (.int (gI res)))) (gi_cv h1) := by
  refine gx_bE e (fun h24 hh24 e => ?_)
  refine gy_t2 hh24 dX12_findsShort_223 ?_
  refine gx_iload dX12_findsShort_224 0 rfl ?_
  refine gx_bE e (fun _ hu25 e => ?_)
  cases e
  exact gx_zret (gi_zoS hu25) dX12_findsShort_226 rfl ⟨Nat.le_of_ble_eq_true rfl, Nat.le_of_ble_eq_true rfl⟩ (fun z => z)
set_option maxRecDepth 100000 in
def b_X12_findsShort_200 (n : Nat)  (v0 : Nat) (v3 : Int) (v5 : Int) (v6 : Int) (s0 : Nat) (s1 : Int) (s2 : Int) (h : gi_H) : Option (Int × gi_H) :=
  Option.bind (gi_s1 h s0 s1 s2) fun h18 => Option.bind (gi_gR h18 v0 10 22) fun t19 => Option.bind (gi_rg v6) fun _ => if v6 = 0 then (Option.bind (gi_gR h18 v0 10 22) fun t22 => Option.bind (gi_aL h18 t22 v5) fun t23 => b_X12_findsShort_223 n  v6 t19 v5 t23 h18) else (b_X12_findsShort_223 n  v6 t19 v5 v3 h18)
set_option maxRecDepth 100000 in
theorem zb_X12_findsShort_200 {al : Bool} {n : Nat}  {res : Int} {h1 : gi_H}  {v0 : Nat} {v3 : Int} {v5 : Int} {v6 : Int} {s0 : Nat} {s1 : Int} {s2 : Int} {h : gi_H} (e : b_X12_findsShort_200 n v0 v3 v5 v6 s0 s1 s2 h = some (res, h1)) : gx_Z mX12_findsShort al al 0 0 200 [(0, .ref v0), (3, .long (gL v3)), (5, .int (gI v5)), (6, .int (gI v6))] [.int (gI s2), .int (gI s1), .ref s0] (gi_cv h) (.inl (some (.int (gI res)))) (gi_cv h1) := by
  refine gx_bE e (fun h18 hh18 e => ?_)
  refine gy_t1 hh18 dX12_findsShort_200 ?_
  refine gx_aload_n dX12_findsShort_201 rfl 0 rfl ?_
  refine gx_bE e (fun t19 ht19 e => ?_)
  refine gy_fR ht19 dX12_findsShort_202 gf_RX12_61_10_22 (by decide) gkN_10_22 gkR_10_22 ?_
  refine gx_iload dX12_findsShort_205 2 rfl ?_
  refine gx_iload dX12_findsShort_207 3 rfl ?_
  refine gx_bE e (fun _ g20 e => ?_)
  refine gx_iE e (fun c21 e => ?_) (fun c21 e => ?_)
  · refine gy_if_eq (tgt := 216) (gi_rgS g20) dX12_findsShort_209 (by decide) (fun _ => ?_) (fun z => absurd c21 z)
    refine gx_aload_n dX12_findsShort_216 rfl 0 rfl ?_
    refine gx_bE e (fun t22 ht22 e => ?_)
    refine gy_fR ht22 dX12_findsShort_217 gf_RX12_61_10_22 (by decide) gkN_10_22 gkR_10_22 ?_
    refine gx_iload dX12_findsShort_220 2 rfl ?_
    refine gx_bE e (fun t23 ht23 e => ?_)
    refine gy_l2 ht23 dX12_findsShort_222 ?_
    refine gx_sub (ls2 := [(6, .int (gI v6))]) [3] rfl ?_
    exact zb_X12_findsShort_223  e
  · refine gy_if_eq (tgt := 216) (gi_rgS g20) dX12_findsShort_209 (by decide) (fun z => absurd z c21) (fun _ => ?_)
    refine gx_lload_n dX12_findsShort_212 rfl 1 rfl ?_
    refine gx_goto (tgt := 223) dX12_findsShort_213 (by decide) ?_
    refine gx_sub (ls2 := [(6, .int (gI v6))]) [3] rfl ?_
    exact zb_X12_findsShort_223  e
set_option maxRecDepth 100000 in
def b_X12_findsShort_176 (n : Nat)  (v0 : Nat) (v2 : Int) (v3 : Int) (v5 : Int) (s0 : Int) (h : gi_H) : Option (Int × gi_H) :=
  Option.bind (gi_gR h v0 10 21) fun t13 => Option.bind (gi_rg s0) fun _ => if s0 = 0 then (Option.bind (gi_gR h v0 10 21) fun t16 => Option.bind (gi_aI h 1 t16 v5) fun t17 => b_X12_findsShort_200 n  v0 v3 v5 s0 t13 v5 t17 h) else (b_X12_findsShort_200 n  v0 v3 v5 s0 t13 v5 v2 h)
set_option maxRecDepth 100000 in
theorem zb_X12_findsShort_176 {al : Bool} {n : Nat}  {res : Int} {h1 : gi_H}  {v0 : Nat} {v2 : Int} {v3 : Int} {v5 : Int} {s0 : Int} {h : gi_H} (e : b_X12_findsShort_176 n v0 v2 v3 v5 s0 h = some (res, h1)) : gx_Z mX12_findsShort al al 0 0 176 [(0, .ref v0), (2, .int (gI v2)), (3, .long (gL v3)), (5, .int (gI v5))] [.int (gI s0)] (gi_cv h) (.inl (some (.int (gI res)))) (gi_cv h1) := by
  refine gx_istore (ls2 := [(6, .int (gI s0)), (0, .ref v0), (2, .int (gI v2)), (3, .long (gL v3)), (5, .int (gI v5))]) dX12_findsShort_176 (Nat.le_of_ble_eq_true rfl) rfl ?_
  refine gx_aload_n dX12_findsShort_178 rfl 1 rfl ?_
  refine gx_bE e (fun t13 ht13 e => ?_)
  refine gy_fR ht13 dX12_findsShort_179 gf_RX12_58_10_21 (by decide) gkN_10_21 gkR_10_21 ?_
  refine gx_iload dX12_findsShort_182 4 rfl ?_
  refine gx_iload dX12_findsShort_184 0 rfl ?_
  refine gx_bE e (fun _ g14 e => ?_)
  refine gx_iE e (fun c15 e => ?_) (fun c15 e => ?_)
  · refine gy_if_eq (tgt := 193) (gi_rgS g14) dX12_findsShort_186 (by decide) (fun _ => ?_) (fun z => absurd c15 z)
    refine gx_aload_n dX12_findsShort_193 rfl 1 rfl ?_
    refine gx_bE e (fun t16 ht16 e => ?_)
    refine gy_fR ht16 dX12_findsShort_194 gf_RX12_58_10_21 (by decide) gkN_10_21 gkR_10_21 ?_
    refine gx_iload dX12_findsShort_197 4 rfl ?_
    refine gx_bE e (fun t17 ht17 e => ?_)
    refine gy_l1 ht17 dX12_findsShort_199 ?_
    refine gx_sub (ls2 := [(0, .ref v0), (3, .long (gL v3)), (5, .int (gI v5)), (6, .int (gI s0))]) [1, 3, 4, 0] rfl ?_
    exact zb_X12_findsShort_200  e
  · refine gy_if_eq (tgt := 193) (gi_rgS g14) dX12_findsShort_186 (by decide) (fun z => absurd z c15) (fun _ => ?_)
    refine gx_iload_n dX12_findsShort_189 rfl 2 rfl ?_
    refine gx_goto (tgt := 200) dX12_findsShort_190 (by decide) ?_
    refine gx_sub (ls2 := [(0, .ref v0), (3, .long (gL v3)), (5, .int (gI v5)), (6, .int (gI s0))]) [1, 3, 4, 0] rfl ?_
    exact zb_X12_findsShort_200  e
set_option maxRecDepth 100000 in
def b_X12_findsShort_171 (n : Nat)  (v0 : Nat) (v2 : Int) (v3 : Int) (v5 : Int)  (h : gi_H) : Option (Int × gi_H) :=
  b_X12_findsShort_176 n  v0 v2 v3 v5 (1 : Int) h
set_option maxRecDepth 100000 in
theorem zb_X12_findsShort_171 {al : Bool} {n : Nat}  {res : Int} {h1 : gi_H}  {v0 : Nat} {v2 : Int} {v3 : Int} {v5 : Int}  {h : gi_H} (e : b_X12_findsShort_171 n v0 v2 v3 v5 h = some (res, h1)) : gx_Z mX12_findsShort al al 0 0 171 [(0, .ref v0), (2, .int (gI v2)), (3, .long (gL v3)), (5, .int (gI v5))] [] (gi_cv h) (.inl (some (.int (gI res)))) (gi_cv h1) := by
  refine gy_iconst dX12_findsShort_171 ?_
  refine gx_goto (tgt := 176) dX12_findsShort_172 (by decide) ?_
  exact zb_X12_findsShort_176  e
set_option maxRecDepth 100000 in
def b_X12_findsShort_175 (n : Nat)  (v0 : Nat) (v2 : Int) (v3 : Int) (v5 : Int)  (h : gi_H) : Option (Int × gi_H) :=
  b_X12_findsShort_176 n  v0 v2 v3 v5 (0 : Int) h
set_option maxRecDepth 100000 in
theorem zb_X12_findsShort_175 {al : Bool} {n : Nat}  {res : Int} {h1 : gi_H}  {v0 : Nat} {v2 : Int} {v3 : Int} {v5 : Int}  {h : gi_H} (e : b_X12_findsShort_175 n v0 v2 v3 v5 h = some (res, h1)) : gx_Z mX12_findsShort al al 0 0 175 [(0, .ref v0), (2, .int (gI v2)), (3, .long (gL v3)), (5, .int (gI v5))] [] (gi_cv h) (.inl (some (.int (gI res)))) (gi_cv h1) := by
  refine gy_iconst dX12_findsShort_175 ?_
  exact zb_X12_findsShort_176  e
set_option maxRecDepth 100000 in
def b_X12_findsShort_130 (n : Nat)  (v0 : Nat) (v1 : Int) (v2 : Int) (v3 : Int)  (h : gi_H) : Option (Int × gi_H) :=
  Option.bind (gi_is h v0 10) fun _ => Option.bind (f_X12_lead v0 v1 h) fun q7 => Option.bind (gi_gR h v0 10 21) fun t8 => Option.bind (gi_aI h 1 t8 q7) fun t9 => Option.bind (gi_rg v2) fun _ => Option.bind (gi_rg t9) fun _ => if v2 < t9 then (b_X12_findsShort_171 n  v0 v2 v3 q7 h) else (Option.bind (gi_gR h v0 10 21) fun t26 => Option.bind (gi_aI h 1 t26 q7) fun t27 => Option.bind (gi_rg t27) fun _ => if v2 = t27 then (Option.bind (gi_gR h v0 10 22) fun t30 => Option.bind (gi_aL h t30 q7) fun t31 => Option.bind (gi_rgL v3) fun _ => Option.bind (gi_rgL t31) fun _ => Option.bind (gi_rg (gi_cmp v3 t31)) fun _ => if 0 ≤ (gi_cmp v3 t31) then (b_X12_findsShort_175 n  v0 v2 v3 q7 h) else (b_X12_findsShort_171 n  v0 v2 v3 q7 h)) else (b_X12_findsShort_175 n  v0 v2 v3 q7 h))
set_option maxRecDepth 100000 in
theorem zb_X12_findsShort_130 {al : Bool} {n : Nat}  {res : Int} {h1 : gi_H}  {v0 : Nat} {v1 : Int} {v2 : Int} {v3 : Int}  {h : gi_H} (e : b_X12_findsShort_130 n v0 v1 v2 v3 h = some (res, h1)) : gx_Z mX12_findsShort al al 0 0 130 [(0, .ref v0), (1, .int (gI v1)), (2, .int (gI v2)), (3, .long (gL v3))] [] (gi_cv h) (.inl (some (.int (gI res)))) (gi_cv h1) := by
  refine gx_aload_n dX12_findsShort_130 rfl 0 rfl ?_
  refine gx_iload_n dX12_findsShort_131 rfl 1 rfl ?_
  refine gx_bE e (fun _ hu6 e => ?_)
  refine gx_bE e (fun q7 hq7 e => ?_)
  refine gx_callV (n := 1) (st := []) (As := [.int (gI v1)]) (b := v0) dX12_findsShort_132 (z_X12_lead hq7) rfl ⟨rfl, gw_cw_X12_lead, gw_14, gp_X12_lead, ⟨Nat.le_of_ble_eq_true rfl, Nat.le_of_ble_eq_true rfl⟩⟩ (gi_isS hu6) (by decide) gw_1595 gw_1597 gs_74 rfl ⟨Nat.le_of_ble_eq_true rfl, Nat.le_of_ble_eq_true rfl⟩ (Nat.le_of_ble_eq_true rfl) (gy_k1 (x := .int (gI q7)) (kc2 := 0) (ks2 := 0) ⟨rfl, rfl⟩ ?_) gy_kn
  refine gx_istore (ls2 := [(5, .int (gI q7)), (0, .ref v0), (1, .int (gI v1)), (2, .int (gI v2)), (3, .long (gL v3))]) dX12_findsShort_135 (Nat.le_of_ble_eq_true rfl) rfl ?_
  refine gx_iload_n dX12_findsShort_137 rfl 3 rfl ?_
  refine gx_aload_n dX12_findsShort_138 rfl 1 rfl ?_
  refine gx_bE e (fun t8 ht8 e => ?_)
  refine gy_fR ht8 dX12_findsShort_139 gf_RX12_58_10_21 (by decide) gkN_10_21 gkR_10_21 ?_
  refine gx_iload dX12_findsShort_142 0 rfl ?_
  refine gx_bE e (fun t9 ht9 e => ?_)
  refine gy_l1 ht9 dX12_findsShort_144 ?_
  refine gx_bE e (fun _ g10 e => ?_)
  refine gx_bE e (fun _ g11 e => ?_)
  refine gx_iE e (fun c12 e => ?_) (fun c12 e => ?_)
  · refine gy_icmp_lt (tgt := 171) (gi_rgS g10) (gi_rgS g11) dX12_findsShort_145 (by decide) (fun _ => ?_) (fun z => absurd c12 z)
    refine gx_sub (ls2 := [(0, .ref v0), (2, .int (gI v2)), (3, .long (gL v3)), (5, .int (gI q7))]) [1, 3, 4, 0] rfl ?_
    exact zb_X12_findsShort_171  e
  · refine gy_icmp_lt (tgt := 171) (gi_rgS g10) (gi_rgS g11) dX12_findsShort_145 (by decide) (fun z => absurd z c12) (fun _ => ?_)
    refine gx_iload_n dX12_findsShort_148 rfl 3 rfl ?_
    refine gx_aload_n dX12_findsShort_149 rfl 1 rfl ?_
    refine gx_bE e (fun t26 ht26 e => ?_)
    refine gy_fR ht26 dX12_findsShort_150 gf_RX12_58_10_21 (by decide) gkN_10_21 gkR_10_21 ?_
    refine gx_iload dX12_findsShort_153 0 rfl ?_
    refine gx_bE e (fun t27 ht27 e => ?_)
    refine gy_l1 ht27 dX12_findsShort_155 ?_
    refine gx_bE e (fun _ g28 e => ?_)
    refine gx_iE e (fun c29 e => ?_) (fun c29 e => ?_)
    · refine gy_icmp_ne (tgt := 175) (gi_rgS g10) (gi_rgS g28) dX12_findsShort_156 (by decide) (fun z => absurd c29 z) (fun _ => ?_)
      refine gx_lload_n dX12_findsShort_159 rfl 4 rfl ?_
      refine gx_aload_n dX12_findsShort_160 rfl 1 rfl ?_
      refine gx_bE e (fun t30 ht30 e => ?_)
      refine gy_fR ht30 dX12_findsShort_161 gf_RX12_61_10_22 (by decide) gkN_10_22 gkR_10_22 ?_
      refine gx_iload dX12_findsShort_164 0 rfl ?_
      refine gx_bE e (fun t31 ht31 e => ?_)
      refine gy_l2 ht31 dX12_findsShort_166 ?_
      refine gx_bE e (fun _ g32 e => ?_)
      refine gx_bE e (fun _ g33 e => ?_)
      refine gy_lcmp (gi_rgLS g32) (gi_rgLS g33) dX12_findsShort_167 ?_
      refine gx_bE e (fun _ g34 e => ?_)
      refine gx_iE e (fun c35 e => ?_) (fun c35 e => ?_)
      · refine gy_if_ge (tgt := 175) (gi_rgS g34) dX12_findsShort_168 (by decide) (fun _ => ?_) (fun z => absurd c35 z)
        refine gx_sub (ls2 := [(0, .ref v0), (2, .int (gI v2)), (3, .long (gL v3)), (5, .int (gI q7))]) [1, 3, 4, 0] rfl ?_
        exact zb_X12_findsShort_175  e
      · refine gy_if_ge (tgt := 175) (gi_rgS g34) dX12_findsShort_168 (by decide) (fun z => absurd z c35) (fun _ => ?_)
        refine gx_sub (ls2 := [(0, .ref v0), (2, .int (gI v2)), (3, .long (gL v3)), (5, .int (gI q7))]) [1, 3, 4, 0] rfl ?_
        exact zb_X12_findsShort_171  e
    · refine gy_icmp_ne (tgt := 175) (gi_rgS g10) (gi_rgS g28) dX12_findsShort_156 (by decide) (fun _ => ?_) (fun z => absurd z c29)
      refine gx_sub (ls2 := [(0, .ref v0), (2, .int (gI v2)), (3, .long (gL v3)), (5, .int (gI q7))]) [1, 3, 4, 0] rfl ?_
      exact zb_X12_findsShort_175  e
set_option maxRecDepth 100000 in
def b_X12_findsShort_123 (n : Nat) (r7 : Nat → Int → Int → Int → Int → gi_H → Option (Int × gi_H)) (v0 : Nat) (v1 : Int) (v2 : Int) (v5 : Int) (s0 : Int) (h : gi_H) : Option (Int × gi_H) :=
  gx_nm (v5 + (1 : Int)) fun t52 => r7 v0 v1 v2 s0 t52 h
set_option maxRecDepth 100000 in
theorem zb_X12_findsShort_123 {al : Bool} {n : Nat} {r7 : Nat → Int → Int → Int → Int → gi_H → Option (Int × gi_H)} {res : Int} {h1 : gi_H} (hr7 : ∀ (x0 : Nat) (x1 : Int) (x2 : Int) (x3 : Int) (x5 : Int) (hh : gi_H), r7 x0 x1 x2 x3 x5 hh = some (res, h1) → gx_Z mX12_findsShort al al 0 0 7 [(0, .ref x0), (1, .int (gI x1)), (2, .int (gI x2)), (3, .long (gL x3)), (5, .int (gI x5))] [] (gi_cv hh) (.inl (some (.int (gI res)))) (gi_cv h1)) {v0 : Nat} {v1 : Int} {v2 : Int} {v5 : Int} {s0 : Int} {h : gi_H} (e : b_X12_findsShort_123 n r7 v0 v1 v2 v5 s0 h = some (res, h1)) : gx_Z mX12_findsShort al al 0 0 123 [(0, .ref v0), (1, .int (gI v1)), (2, .int (gI v2)), (5, .int (gI v5))] [.long (gL s0)] (gi_cv h) (.inl (some (.int (gI res)))) (gi_cv h1) := by
  refine gx_lstore_n (ls2 := [(3, .long (gL s0)), (0, .ref v0), (1, .int (gI v1)), (2, .int (gI v2)), (5, .int (gI v5))]) dX12_findsShort_123 rfl (Nat.le_of_ble_eq_true rfl) rfl ?_
  refine gx_nE e (fun t52 ht52 e => ?_)
  refine gy_iinc (v := t52) (ls2 := [(5, .int (gI t52)), (3, .long (gL s0)), (0, .ref v0), (1, .int (gI v1)), (2, .int (gI v2))]) dX12_findsShort_124 4 rfl ht52 (Nat.le_of_ble_eq_true rfl) rfl ?_
  refine gx_goto (tgt := 7) dX12_findsShort_127 (by decide) ?_
  refine gx_sub (ls2 := [(0, .ref v0), (1, .int (gI v1)), (2, .int (gI v2)), (3, .long (gL s0)), (5, .int (gI t52))]) [2, 3, 4, 1, 0] rfl ?_
  exact hr7 _ _ _ _ _ _ e
set_option maxRecDepth 100000 in
def b_X12_findsShort_76 (n : Nat) (r7 : Nat → Int → Int → Int → Int → gi_H → Option (Int × gi_H)) (v0 : Nat) (v1 : Int) (v3 : Int) (v5 : Int) (v6 : Int) (v7 : Int) (s0 : Int) (h : gi_H) : Option (Int × gi_H) :=
  Option.bind (gi_rg s0) fun _ => if s0 ≤ (20 : Int) then (Option.bind (gi_rg v6) fun _ => if (16 : Int) ≤ v6 then (Option.bind (gi_gR h v0 10 22) fun t50 => Option.bind (gi_aL h t50 (v6 - (16 : Int))) fun t51 => b_X12_findsShort_123 n r7 v0 v1 s0 v5 ((gi_shlL v3 ((3 : Int) * v7)) + t51) h) else (b_X12_findsShort_123 n r7 v0 v1 s0 v5 ((v3 * (8 : Int)) + v6) h)) else (b_X12_findsShort_123 n r7 v0 v1 s0 v5 (0 : Int) h)
set_option maxRecDepth 100000 in
theorem zb_X12_findsShort_76 {al : Bool} {n : Nat} {r7 : Nat → Int → Int → Int → Int → gi_H → Option (Int × gi_H)} {res : Int} {h1 : gi_H} (hr7 : ∀ (x0 : Nat) (x1 : Int) (x2 : Int) (x3 : Int) (x5 : Int) (hh : gi_H), r7 x0 x1 x2 x3 x5 hh = some (res, h1) → gx_Z mX12_findsShort al al 0 0 7 [(0, .ref x0), (1, .int (gI x1)), (2, .int (gI x2)), (3, .long (gL x3)), (5, .int (gI x5))] [] (gi_cv hh) (.inl (some (.int (gI res)))) (gi_cv h1)) {v0 : Nat} {v1 : Int} {v3 : Int} {v5 : Int} {v6 : Int} {v7 : Int} {s0 : Int} {h : gi_H} (e : b_X12_findsShort_76 n r7 v0 v1 v3 v5 v6 v7 s0 h = some (res, h1)) : gx_Z mX12_findsShort al al 0 0 76 [(0, .ref v0), (1, .int (gI v1)), (3, .long (gL v3)), (5, .int (gI v5)), (6, .int (gI v6)), (7, .int (gI v7))] [.int (gI s0)] (gi_cv h) (.inl (some (.int (gI res)))) (gi_cv h1) := by
  refine gx_istore_n (ls2 := [(2, .int (gI s0)), (0, .ref v0), (1, .int (gI v1)), (3, .long (gL v3)), (5, .int (gI v5)), (6, .int (gI v6)), (7, .int (gI v7))]) dX12_findsShort_76 rfl (Nat.le_of_ble_eq_true rfl) rfl ?_
  refine gx_iload_n dX12_findsShort_77 rfl 0 rfl ?_
  refine gy_bipush dX12_findsShort_78 gcb_20 ?_
  refine gx_bE e (fun _ g46 e => ?_)
  refine gx_iE e (fun c47 e => ?_) (fun c47 e => ?_)
  · refine gy_icmp_le (tgt := 87) (gi_rgS g46) (by decide) dX12_findsShort_80 (by decide) (fun _ => ?_) (fun z => absurd c47 z)
    refine gx_iload dX12_findsShort_87 5 rfl ?_
    refine gy_bipush dX12_findsShort_89 gcb_16 ?_
    refine gx_bE e (fun _ g48 e => ?_)
    refine gx_iE e (fun c49 e => ?_) (fun c49 e => ?_)
    · refine gy_icmp_ge (tgt := 106) (gi_rgS g48) (by decide) dX12_findsShort_91 (by decide) (fun _ => ?_) (fun z => absurd c49 z)
      refine gx_lload_n dX12_findsShort_106 rfl 3 rfl ?_
      refine gy_iconst dX12_findsShort_107 ?_
      refine gx_iload dX12_findsShort_108 6 rfl ?_
      refine gy_imul dX12_findsShort_110 ?_
      refine gy_lshl dX12_findsShort_111 ?_
      refine gx_aload_n dX12_findsShort_112 rfl 1 rfl ?_
      refine gx_bE e (fun t50 ht50 e => ?_)
      refine gy_fR ht50 dX12_findsShort_113 gf_RX12_61_10_22 (by decide) gkN_10_22 gkR_10_22 ?_
      refine gx_iload dX12_findsShort_116 5 rfl ?_
      refine gy_bipush dX12_findsShort_118 gcb_16 ?_
      refine gy_isub dX12_findsShort_120 ?_
      refine gx_bE e (fun t51 ht51 e => ?_)
      refine gy_l2 ht51 dX12_findsShort_121 ?_
      refine gy_ladd dX12_findsShort_122 ?_
      refine gx_sub (ls2 := [(0, .ref v0), (1, .int (gI v1)), (2, .int (gI s0)), (5, .int (gI v5))]) [1, 2, 0, 4] rfl ?_
      exact zb_X12_findsShort_123 hr7 e
    · refine gy_icmp_ge (tgt := 106) (gi_rgS g48) (by decide) dX12_findsShort_91 (by decide) (fun z => absurd z c49) (fun _ => ?_)
      refine gx_lload_n dX12_findsShort_94 rfl 3 rfl ?_
      refine gy_ldc2 (n := 8) dX12_findsShort_95 gw_1615 (by decide +kernel) ?_
      refine gy_lmul dX12_findsShort_98 ?_
      refine gx_iload dX12_findsShort_99 5 rfl ?_
      refine gy_i2l (gi_rgS g48) dX12_findsShort_101 ?_
      refine gy_ladd dX12_findsShort_102 ?_
      refine gx_goto (tgt := 123) dX12_findsShort_103 (by decide) ?_
      refine gx_sub (ls2 := [(0, .ref v0), (1, .int (gI v1)), (2, .int (gI s0)), (5, .int (gI v5))]) [1, 2, 0, 4] rfl ?_
      exact zb_X12_findsShort_123 hr7 e
  · refine gy_icmp_le (tgt := 87) (gi_rgS g46) (by decide) dX12_findsShort_80 (by decide) (fun z => absurd z c47) (fun _ => ?_)
    refine gy_lconst (v := 0) dX12_findsShort_83 (by decide +kernel) ?_
    refine gx_goto (tgt := 123) dX12_findsShort_84 (by decide) ?_
    refine gx_sub (ls2 := [(0, .ref v0), (1, .int (gI v1)), (2, .int (gI s0)), (5, .int (gI v5))]) [1, 2, 0, 4] rfl ?_
    exact zb_X12_findsShort_123 hr7 e
set_option maxRecDepth 100000 in
def b_X12_findsShort_47 (n : Nat) (r7 : Nat → Int → Int → Int → Int → gi_H → Option (Int × gi_H)) (v0 : Nat) (v1 : Int) (v2 : Int) (v3 : Int) (v5 : Int) (v6 : Int) (s0 : Int) (h : gi_H) : Option (Int × gi_H) :=
  Option.bind (gi_rg s0) fun _ => if s0 ≤ (100 : Int) then (Option.bind (gi_rg (v2 + s0)) fun _ => if (v2 + s0) ≤ (100 : Int) then (b_X12_findsShort_76 n r7 v0 v1 v3 v5 v6 s0 (v2 + s0) h) else (b_X12_findsShort_76 n r7 v0 v1 v3 v5 v6 s0 (100 : Int) h)) else (some ((0 : Int), h))
set_option maxRecDepth 100000 in
theorem zb_X12_findsShort_47 {al : Bool} {n : Nat} {r7 : Nat → Int → Int → Int → Int → gi_H → Option (Int × gi_H)} {res : Int} {h1 : gi_H} (hr7 : ∀ (x0 : Nat) (x1 : Int) (x2 : Int) (x3 : Int) (x5 : Int) (hh : gi_H), r7 x0 x1 x2 x3 x5 hh = some (res, h1) → gx_Z mX12_findsShort al al 0 0 7 [(0, .ref x0), (1, .int (gI x1)), (2, .int (gI x2)), (3, .long (gL x3)), (5, .int (gI x5))] [] (gi_cv hh) (.inl (some (.int (gI res)))) (gi_cv h1)) {v0 : Nat} {v1 : Int} {v2 : Int} {v3 : Int} {v5 : Int} {v6 : Int} {s0 : Int} {h : gi_H} (e : b_X12_findsShort_47 n r7 v0 v1 v2 v3 v5 v6 s0 h = some (res, h1)) : gx_Z mX12_findsShort al al 0 0 47 [(0, .ref v0), (1, .int (gI v1)), (2, .int (gI v2)), (3, .long (gL v3)), (5, .int (gI v5)), (6, .int (gI v6))] [.int (gI s0)] (gi_cv h) (.inl (some (.int (gI res)))) (gi_cv h1) := by
  refine gx_istore (ls2 := [(7, .int (gI s0)), (0, .ref v0), (1, .int (gI v1)), (2, .int (gI v2)), (3, .long (gL v3)), (5, .int (gI v5)), (6, .int (gI v6))]) dX12_findsShort_47 (Nat.le_of_ble_eq_true rfl) rfl ?_
  refine gx_iload dX12_findsShort_49 0 rfl ?_
  refine gy_bipush dX12_findsShort_51 gcb_100 ?_
  refine gx_bE e (fun _ g42 e => ?_)
  refine gx_iE e (fun c43 e => ?_) (fun c43 e => ?_)
  · refine gy_icmp_le (tgt := 58) (gi_rgS g42) (by decide) dX12_findsShort_53 (by decide) (fun _ => ?_) (fun z => absurd c43 z)
    refine gx_iload_n dX12_findsShort_58 rfl 3 rfl ?_
    refine gx_iload dX12_findsShort_59 0 rfl ?_
    refine gy_iadd dX12_findsShort_61 ?_
    refine gy_bipush dX12_findsShort_62 gcb_100 ?_
    refine gx_bE e (fun _ g44 e => ?_)
    refine gx_iE e (fun c45 e => ?_) (fun c45 e => ?_)
    · refine gy_icmp_le (tgt := 72) (gi_rgS g44) (by decide) dX12_findsShort_64 (by decide) (fun _ => ?_) (fun z => absurd c45 z)
      refine gx_iload_n dX12_findsShort_72 rfl 3 rfl ?_
      refine gx_iload dX12_findsShort_73 0 rfl ?_
      refine gy_iadd dX12_findsShort_75 ?_
      refine gx_sub (ls2 := [(0, .ref v0), (1, .int (gI v1)), (3, .long (gL v3)), (5, .int (gI v5)), (6, .int (gI v6)), (7, .int (gI s0))]) [1, 2, 4, 5, 6, 0] rfl ?_
      exact zb_X12_findsShort_76 hr7 e
    · refine gy_icmp_le (tgt := 72) (gi_rgS g44) (by decide) dX12_findsShort_64 (by decide) (fun z => absurd z c45) (fun _ => ?_)
      refine gy_bipush dX12_findsShort_67 gcb_100 ?_
      refine gx_goto (tgt := 76) dX12_findsShort_69 (by decide) ?_
      refine gx_sub (ls2 := [(0, .ref v0), (1, .int (gI v1)), (3, .long (gL v3)), (5, .int (gI v5)), (6, .int (gI v6)), (7, .int (gI s0))]) [1, 2, 4, 5, 6, 0] rfl ?_
      exact zb_X12_findsShort_76 hr7 e
  · refine gy_icmp_le (tgt := 58) (gi_rgS g42) (by decide) dX12_findsShort_53 (by decide) (fun z => absurd z c43) (fun _ => ?_)
    refine gy_iconst dX12_findsShort_56 ?_
    cases e
    exact gx_zret (by decide +kernel) dX12_findsShort_57 rfl ⟨Nat.le_of_ble_eq_true rfl, Nat.le_of_ble_eq_true rfl⟩ (fun z => z)
set_option maxRecDepth 100000 in
def b_X12_findsShort_7 (n : Nat) (r7 : Nat → Int → Int → Int → Int → gi_H → Option (Int × gi_H)) (v0 : Nat) (v1 : Int) (v2 : Int) (v3 : Int) (v5 : Int)  (h : gi_H) : Option (Int × gi_H) :=
  Option.bind (gi_is h v0 10) fun _ => Option.bind (f_X12_sizeOf v0 v1 h) fun q2 => Option.bind (gi_rg v5) fun _ => Option.bind (gi_rg q2) fun _ => if q2 ≤ v5 then (b_X12_findsShort_130 n  v0 v1 v2 v3 h) else (Option.bind (gi_is h v0 10) fun _ => Option.bind (f_X12_symbol v0 v1 v5 h) fun q37 => Option.bind (gi_rg q37) fun _ => if (16 : Int) ≤ q37 then (Option.bind (gi_gR h v0 10 21) fun t40 => Option.bind (gi_aI h 1 t40 (q37 - (16 : Int))) fun t41 => b_X12_findsShort_47 n r7 v0 v1 v2 v3 v5 q37 t41 h) else (b_X12_findsShort_47 n r7 v0 v1 v2 v3 v5 q37 (1 : Int) h))
set_option maxRecDepth 100000 in
theorem zb_X12_findsShort_7 {al : Bool} {n : Nat} {r7 : Nat → Int → Int → Int → Int → gi_H → Option (Int × gi_H)} {res : Int} {h1 : gi_H} (hr7 : ∀ (x0 : Nat) (x1 : Int) (x2 : Int) (x3 : Int) (x5 : Int) (hh : gi_H), r7 x0 x1 x2 x3 x5 hh = some (res, h1) → gx_Z mX12_findsShort al al 0 0 7 [(0, .ref x0), (1, .int (gI x1)), (2, .int (gI x2)), (3, .long (gL x3)), (5, .int (gI x5))] [] (gi_cv hh) (.inl (some (.int (gI res)))) (gi_cv h1)) {v0 : Nat} {v1 : Int} {v2 : Int} {v3 : Int} {v5 : Int}  {h : gi_H} (e : b_X12_findsShort_7 n r7 v0 v1 v2 v3 v5 h = some (res, h1)) : gx_Z mX12_findsShort al al 0 0 7 [(0, .ref v0), (1, .int (gI v1)), (2, .int (gI v2)), (3, .long (gL v3)), (5, .int (gI v5))] [] (gi_cv h) (.inl (some (.int (gI res)))) (gi_cv h1) := by
  refine gx_iload dX12_findsShort_7 4 rfl ?_
  refine gx_aload_n dX12_findsShort_9 rfl 0 rfl ?_
  refine gx_iload_n dX12_findsShort_10 rfl 1 rfl ?_
  refine gx_bE e (fun _ hu1 e => ?_)
  refine gx_bE e (fun q2 hq2 e => ?_)
  refine gx_callV (n := 1) (st := [.int (gI v5)]) (As := [.int (gI v1)]) (b := v0) dX12_findsShort_11 (z_X12_sizeOf hq2) rfl ⟨rfl, gw_cw_X12_sizeOf, gw_14, gp_X12_sizeOf, ⟨Nat.le_of_ble_eq_true rfl, Nat.le_of_ble_eq_true rfl⟩⟩ (gi_isS hu1) (by decide) gw_1579 gw_1581 gs_71 rfl ⟨Nat.le_of_ble_eq_true rfl, Nat.le_of_ble_eq_true rfl⟩ (Nat.le_of_ble_eq_true rfl) (gy_k1 (x := .int (gI q2)) (kc2 := 0) (ks2 := 0) ⟨rfl, rfl⟩ ?_) gy_kn
  refine gx_bE e (fun _ g3 e => ?_)
  refine gx_bE e (fun _ g4 e => ?_)
  refine gx_iE e (fun c5 e => ?_) (fun c5 e => ?_)
  · refine gy_icmp_ge (tgt := 130) (gi_rgS g3) (gi_rgS g4) dX12_findsShort_14 (by decide) (fun _ => ?_) (fun z => absurd c5 z)
    refine gx_sub (ls2 := [(0, .ref v0), (1, .int (gI v1)), (2, .int (gI v2)), (3, .long (gL v3))]) [0, 1, 2, 3] rfl ?_
    exact zb_X12_findsShort_130  e
  · refine gy_icmp_ge (tgt := 130) (gi_rgS g3) (gi_rgS g4) dX12_findsShort_14 (by decide) (fun z => absurd z c5) (fun _ => ?_)
    refine gx_aload_n dX12_findsShort_17 rfl 0 rfl ?_
    refine gx_iload_n dX12_findsShort_18 rfl 1 rfl ?_
    refine gx_iload dX12_findsShort_19 4 rfl ?_
    refine gx_bE e (fun _ hu36 e => ?_)
    refine gx_bE e (fun q37 hq37 e => ?_)
    refine gx_callV (n := 2) (st := []) (As := [.int (gI v1), .int (gI v5)]) (b := v0) dX12_findsShort_21 (z_X12_symbol hq37) rfl ⟨rfl, gw_cw_X12_symbol, gw_14, gp_X12_symbol, ⟨Nat.le_of_ble_eq_true rfl, Nat.le_of_ble_eq_true rfl⟩⟩ (gi_isS hu36) (by decide) gw_1575 gw_1577 gs_70 rfl ⟨Nat.le_of_ble_eq_true rfl, Nat.le_of_ble_eq_true rfl⟩ (Nat.le_of_ble_eq_true rfl) (gy_k1 (x := .int (gI q37)) (kc2 := 0) (ks2 := 0) ⟨rfl, rfl⟩ ?_) gy_kn
    refine gx_istore (ls2 := [(6, .int (gI q37)), (0, .ref v0), (1, .int (gI v1)), (2, .int (gI v2)), (3, .long (gL v3)), (5, .int (gI v5))]) dX12_findsShort_24 (Nat.le_of_ble_eq_true rfl) rfl ?_
    refine gx_iload dX12_findsShort_26 0 rfl ?_
    refine gy_bipush dX12_findsShort_28 gcb_16 ?_
    refine gx_bE e (fun _ g38 e => ?_)
    refine gx_iE e (fun c39 e => ?_) (fun c39 e => ?_)
    · refine gy_icmp_ge (tgt := 37) (gi_rgS g38) (by decide) dX12_findsShort_30 (by decide) (fun _ => ?_) (fun z => absurd c39 z)
      refine gx_aload_n dX12_findsShort_37 rfl 1 rfl ?_
      refine gx_bE e (fun t40 ht40 e => ?_)
      refine gy_fR ht40 dX12_findsShort_38 gf_RX12_58_10_21 (by decide) gkN_10_21 gkR_10_21 ?_
      refine gx_iload dX12_findsShort_41 0 rfl ?_
      refine gy_bipush dX12_findsShort_43 gcb_16 ?_
      refine gy_isub dX12_findsShort_45 ?_
      refine gx_bE e (fun t41 ht41 e => ?_)
      refine gy_l1 ht41 dX12_findsShort_46 ?_
      refine gx_sub (ls2 := [(0, .ref v0), (1, .int (gI v1)), (2, .int (gI v2)), (3, .long (gL v3)), (5, .int (gI v5)), (6, .int (gI q37))]) [1, 2, 3, 4, 5, 0] rfl ?_
      exact zb_X12_findsShort_47 hr7 e
    · refine gy_icmp_ge (tgt := 37) (gi_rgS g38) (by decide) dX12_findsShort_30 (by decide) (fun z => absurd z c39) (fun _ => ?_)
      refine gy_iconst dX12_findsShort_33 ?_
      refine gx_goto (tgt := 47) dX12_findsShort_34 (by decide) ?_
      refine gx_sub (ls2 := [(0, .ref v0), (1, .int (gI v1)), (2, .int (gI v2)), (3, .long (gL v3)), (5, .int (gI v5)), (6, .int (gI q37))]) [1, 2, 3, 4, 5, 0] rfl ?_
      exact zb_X12_findsShort_47 hr7 e
def l_X12_findsShort_7 (n : Nat)  : Nat → Nat → Int → Int → Int → Int → gi_H → Option (Int × gi_H)
  | 0, _, _, _, _, _, _ => none
  | k + 1, v0, v1, v2, v3, v5, h => b_X12_findsShort_7 n  (l_X12_findsShort_7 n  k) v0 v1 v2 v3 v5 h
theorem zl_X12_findsShort_7 {al : Bool} {n : Nat}  {res : Int} {h1 : gi_H}  : ∀ (k : Nat) (v0 : Nat) (v1 : Int) (v2 : Int) (v3 : Int) (v5 : Int) (h : gi_H), l_X12_findsShort_7 n  k v0 v1 v2 v3 v5 h = some (res, h1) → gx_Z mX12_findsShort al al 0 0 7 [(0, .ref v0), (1, .int (gI v1)), (2, .int (gI v2)), (3, .long (gL v3)), (5, .int (gI v5))] [] (gi_cv h) (.inl (some (.int (gI res)))) (gi_cv h1)
  | 0, _, _, _, _, _, _, e => gx_0E e
  | k + 1, _, _, _, _, _, _, e => zb_X12_findsShort_7 (n := n)  (zl_X12_findsShort_7  k) e
set_option maxRecDepth 100000 in
def f_X12_findsShort (n : Nat) (v0 : Nat) (v1 : Int) (h : gi_H) : Option (Int × gi_H) :=
  l_X12_findsShort_7 n  n v0 v1 (0 : Int) (0 : Int) (0 : Int) h
set_option maxRecDepth 100000 in
theorem z_X12_findsShort {al : Bool} {n : Nat} {v0 : Nat} {v1 : Int} {h : gi_H} {res : Int} {h1 : gi_H} (e : f_X12_findsShort n v0 v1 h = some (res, h1)) : gx_Cw mX12_findsShort al [.ref v0, .int (gI v1)] (gi_cv h) (.inl (some (.int (gI res)))) (gi_cv h1) := by
  refine gx_enter (by decide +kernel) rfl (Nat.le_of_ble_eq_true rfl) ?_
  show gx_Z mX12_findsShort al al 0 0 0 [(0, .ref v0), (1, .int (gI v1))] [] (gi_cv h) (.inl (some (.int (gI res)))) (gi_cv h1)
  refine gy_iconst dX12_findsShort_0 ?_
  refine gx_istore_n (ls2 := [(2, .int (gI (0 : Int))), (0, .ref v0), (1, .int (gI v1))]) dX12_findsShort_1 rfl (Nat.le_of_ble_eq_true rfl) rfl ?_
  refine gy_lconst (v := 0) dX12_findsShort_2 (by decide +kernel) ?_
  refine gx_lstore_n (ls2 := [(3, .long (gL (0 : Int))), (2, .int (gI (0 : Int))), (0, .ref v0), (1, .int (gI v1))]) dX12_findsShort_3 rfl (Nat.le_of_ble_eq_true rfl) rfl ?_
  refine gy_iconst dX12_findsShort_4 ?_
  refine gx_istore (ls2 := [(5, .int (gI (0 : Int))), (3, .long (gL (0 : Int))), (2, .int (gI (0 : Int))), (0, .ref v0), (1, .int (gI v1))]) dX12_findsShort_5 (Nat.le_of_ble_eq_true rfl) rfl ?_
  refine gx_sub (ls2 := [(0, .ref v0), (1, .int (gI v1)), (2, .int (gI (0 : Int))), (3, .long (gL (0 : Int))), (5, .int (gI (0 : Int)))]) [3, 4, 2, 1, 0] rfl ?_
  exact zl_X12_findsShort_7  n _ _ _ _ _ _ e
/-! X12_leadsAll  -/
set_option maxRecDepth 100000 in
def b_X12_leadsAll_181 (n : Nat) (r114 : Nat → Int → gi_H → Option (gi_H)) (v0 : Nat) (v1 : Int)  (h : gi_H) : Option (gi_H) :=
  gx_nm (v1 + (1 : Int)) fun t11 => r114 v0 t11 h
set_option maxRecDepth 100000 in
theorem zb_X12_leadsAll_181 {al : Bool} {n : Nat} {r114 : Nat → Int → gi_H → Option (gi_H)} {h1 : gi_H} (hr114 : ∀ (x0 : Nat) (x1 : Int) (hh : gi_H), r114 x0 x1 hh = some h1 → gx_Z mX12_leadsAll al al 0 0 114 [(0, .ref x0), (1, .int (gI x1))] [] (gi_cv hh) (.inl none) (gi_cv h1)) {v0 : Nat} {v1 : Int}  {h : gi_H} (e : b_X12_leadsAll_181 n r114 v0 v1 h = some h1) : gx_Z mX12_leadsAll al al 0 0 181 [(0, .ref v0), (1, .int (gI v1))] [] (gi_cv h) (.inl none) (gi_cv h1) := by
  refine gx_nE e (fun t11 ht11 e => ?_)
  refine gy_iinc (v := t11) (ls2 := [(1, .int (gI t11)), (0, .ref v0)]) dX12_leadsAll_181 1 rfl ht11 (Nat.le_of_ble_eq_true rfl) rfl ?_
  refine gx_goto (tgt := 114) dX12_leadsAll_184 (by decide) ?_
  refine gx_sub (ls2 := [(0, .ref v0), (1, .int (gI t11))]) [1, 0] rfl ?_
  exact hr114 _ _ _ e
set_option maxRecDepth 100000 in
def b_X12_leadsAll_175 (n : Nat) (r114 : Nat → Int → gi_H → Option (gi_H)) (r122 : Nat → Int → Int → gi_H → Option (gi_H)) (v0 : Nat) (v1 : Int) (v2 : Int)  (h : gi_H) : Option (gi_H) :=
  gx_nm (v2 + (1 : Int)) fun t14 => r122 v0 v1 t14 h
set_option maxRecDepth 100000 in
theorem zb_X12_leadsAll_175 {al : Bool} {n : Nat} {r114 : Nat → Int → gi_H → Option (gi_H)} {r122 : Nat → Int → Int → gi_H → Option (gi_H)} {h1 : gi_H} (hr114 : ∀ (x0 : Nat) (x1 : Int) (hh : gi_H), r114 x0 x1 hh = some h1 → gx_Z mX12_leadsAll al al 0 0 114 [(0, .ref x0), (1, .int (gI x1))] [] (gi_cv hh) (.inl none) (gi_cv h1)) (hr122 : ∀ (x0 : Nat) (x1 : Int) (x2 : Int) (hh : gi_H), r122 x0 x1 x2 hh = some h1 → gx_Z mX12_leadsAll al al 0 0 122 [(0, .ref x0), (1, .int (gI x1)), (2, .int (gI x2))] [] (gi_cv hh) (.inl none) (gi_cv h1)) {v0 : Nat} {v1 : Int} {v2 : Int}  {h : gi_H} (e : b_X12_leadsAll_175 n r114 r122 v0 v1 v2 h = some h1) : gx_Z mX12_leadsAll al al 0 0 175 [(0, .ref v0), (1, .int (gI v1)), (2, .int (gI v2))] [] (gi_cv h) (.inl none) (gi_cv h1) := by
  refine gx_nE e (fun t14 ht14 e => ?_)
  refine gy_iinc (v := t14) (ls2 := [(2, .int (gI t14)), (0, .ref v0), (1, .int (gI v1))]) dX12_leadsAll_175 2 rfl ht14 (Nat.le_of_ble_eq_true rfl) rfl ?_
  refine gx_goto (tgt := 122) dX12_leadsAll_178 (by decide) ?_
  refine gx_sub (ls2 := [(0, .ref v0), (1, .int (gI v1)), (2, .int (gI t14))]) [1, 2, 0] rfl ?_
  exact hr122 _ _ _ _ e
set_option maxRecDepth 100000 in
def b_X12_leadsAll_167 (n : Nat) (r114 : Nat → Int → gi_H → Option (gi_H)) (r122 : Nat → Int → Int → gi_H → Option (gi_H)) (r130 : Nat → Int → Int → Int → gi_H → Option (gi_H)) (v0 : Nat) (v1 : Int) (v2 : Int) (v3 : Int) (s0 : Nat) (s1 : Int) (s2 : Int) (s3 : Int) (h : gi_H) : Option (gi_H) :=
  Option.bind (gi_s1 h s0 s1 (gi_or s2 s3)) fun h23 => gx_nm (v3 + (1 : Int)) fun t24 => r130 v0 v1 v2 t24 h23
set_option maxRecDepth 100000 in
theorem zb_X12_leadsAll_167 {al : Bool} {n : Nat} {r114 : Nat → Int → gi_H → Option (gi_H)} {r122 : Nat → Int → Int → gi_H → Option (gi_H)} {r130 : Nat → Int → Int → Int → gi_H → Option (gi_H)} {h1 : gi_H} (hr114 : ∀ (x0 : Nat) (x1 : Int) (hh : gi_H), r114 x0 x1 hh = some h1 → gx_Z mX12_leadsAll al al 0 0 114 [(0, .ref x0), (1, .int (gI x1))] [] (gi_cv hh) (.inl none) (gi_cv h1)) (hr122 : ∀ (x0 : Nat) (x1 : Int) (x2 : Int) (hh : gi_H), r122 x0 x1 x2 hh = some h1 → gx_Z mX12_leadsAll al al 0 0 122 [(0, .ref x0), (1, .int (gI x1)), (2, .int (gI x2))] [] (gi_cv hh) (.inl none) (gi_cv h1)) (hr130 : ∀ (x0 : Nat) (x1 : Int) (x2 : Int) (x3 : Int) (hh : gi_H), r130 x0 x1 x2 x3 hh = some h1 → gx_Z mX12_leadsAll al al 0 0 130 [(0, .ref x0), (1, .int (gI x1)), (2, .int (gI x2)), (3, .int (gI x3))] [] (gi_cv hh) (.inl none) (gi_cv h1)) {v0 : Nat} {v1 : Int} {v2 : Int} {v3 : Int} {s0 : Nat} {s1 : Int} {s2 : Int} {s3 : Int} {h : gi_H} (e : b_X12_leadsAll_167 n r114 r122 r130 v0 v1 v2 v3 s0 s1 s2 s3 h = some h1) : gx_Z mX12_leadsAll al al 0 0 167 [(0, .ref v0), (1, .int (gI v1)), (2, .int (gI v2)), (3, .int (gI v3))] [.int (gI s3), .int (gI s2), .int (gI s1), .ref s0] (gi_cv h) (.inl none) (gi_cv h1) := by
  refine gy_ior dX12_leadsAll_167 ?_
  refine gx_bE e (fun h23 hh23 e => ?_)
  refine gy_t1 hh23 dX12_leadsAll_168 ?_
  refine gx_nE e (fun t24 ht24 e => ?_)
  refine gy_iinc (v := t24) (ls2 := [(3, .int (gI t24)), (0, .ref v0), (1, .int (gI v1)), (2, .int (gI v2))]) dX12_leadsAll_169 3 rfl ht24 (Nat.le_of_ble_eq_true rfl) rfl ?_
  refine gx_goto (tgt := 130) dX12_leadsAll_172 (by decide) ?_
  refine gx_sub (ls2 := [(0, .ref v0), (1, .int (gI v1)), (2, .int (gI v2)), (3, .int (gI t24))]) [1, 2, 3, 0] rfl ?_
  exact hr130 _ _ _ _ _ e
set_option maxRecDepth 100000 in
def b_X12_leadsAll_130 (n : Nat) (r114 : Nat → Int → gi_H → Option (gi_H)) (r122 : Nat → Int → Int → gi_H → Option (gi_H)) (r130 : Nat → Int → Int → Int → gi_H → Option (gi_H)) (v0 : Nat) (v1 : Int) (v2 : Int) (v3 : Int)  (h : gi_H) : Option (gi_H) :=
  Option.bind (gi_rg v3) fun _ => if (16 : Int) ≤ v3 then (b_X12_leadsAll_175 n r114 r122 v0 v1 v2 h) else (Option.bind (gi_gR h v0 10 23) fun t15 => Option.bind (gi_aI h 1 t15 v2) fun t16 => Option.bind (gi_gR h v0 10 23) fun t17 => Option.bind (gi_aI h 1 t17 v2) fun t18 => Option.bind (gi_rg (gi_and (gi_shr t18 v3) (1 : Int))) fun _ => if (gi_and (gi_shr t18 v3) (1 : Int)) = (1 : Int) then (Option.bind (gi_gR h v0 10 23) fun t21 => Option.bind (gi_aI h 1 t21 v3) fun t22 => b_X12_leadsAll_167 n r114 r122 r130 v0 v1 v2 v3 t15 v2 t16 t22 h) else (b_X12_leadsAll_167 n r114 r122 r130 v0 v1 v2 v3 t15 v2 t16 (0 : Int) h))
set_option maxRecDepth 100000 in
theorem zb_X12_leadsAll_130 {al : Bool} {n : Nat} {r114 : Nat → Int → gi_H → Option (gi_H)} {r122 : Nat → Int → Int → gi_H → Option (gi_H)} {r130 : Nat → Int → Int → Int → gi_H → Option (gi_H)} {h1 : gi_H} (hr114 : ∀ (x0 : Nat) (x1 : Int) (hh : gi_H), r114 x0 x1 hh = some h1 → gx_Z mX12_leadsAll al al 0 0 114 [(0, .ref x0), (1, .int (gI x1))] [] (gi_cv hh) (.inl none) (gi_cv h1)) (hr122 : ∀ (x0 : Nat) (x1 : Int) (x2 : Int) (hh : gi_H), r122 x0 x1 x2 hh = some h1 → gx_Z mX12_leadsAll al al 0 0 122 [(0, .ref x0), (1, .int (gI x1)), (2, .int (gI x2))] [] (gi_cv hh) (.inl none) (gi_cv h1)) (hr130 : ∀ (x0 : Nat) (x1 : Int) (x2 : Int) (x3 : Int) (hh : gi_H), r130 x0 x1 x2 x3 hh = some h1 → gx_Z mX12_leadsAll al al 0 0 130 [(0, .ref x0), (1, .int (gI x1)), (2, .int (gI x2)), (3, .int (gI x3))] [] (gi_cv hh) (.inl none) (gi_cv h1)) {v0 : Nat} {v1 : Int} {v2 : Int} {v3 : Int}  {h : gi_H} (e : b_X12_leadsAll_130 n r114 r122 r130 v0 v1 v2 v3 h = some h1) : gx_Z mX12_leadsAll al al 0 0 130 [(0, .ref v0), (1, .int (gI v1)), (2, .int (gI v2)), (3, .int (gI v3))] [] (gi_cv h) (.inl none) (gi_cv h1) := by
  refine gx_iload_n dX12_leadsAll_130 rfl 3 rfl ?_
  refine gy_bipush dX12_leadsAll_131 gcb_16 ?_
  refine gx_bE e (fun _ g12 e => ?_)
  refine gx_iE e (fun c13 e => ?_) (fun c13 e => ?_)
  · refine gy_icmp_ge (tgt := 175) (gi_rgS g12) (by decide) dX12_leadsAll_133 (by decide) (fun _ => ?_) (fun z => absurd c13 z)
    refine gx_sub (ls2 := [(0, .ref v0), (1, .int (gI v1)), (2, .int (gI v2))]) [0, 1, 2] rfl ?_
    exact zb_X12_leadsAll_175 hr114 hr122 e
  · refine gy_icmp_ge (tgt := 175) (gi_rgS g12) (by decide) dX12_leadsAll_133 (by decide) (fun z => absurd z c13) (fun _ => ?_)
    refine gx_aload_n dX12_leadsAll_136 rfl 0 rfl ?_
    refine gx_bE e (fun t15 ht15 e => ?_)
    refine gy_fR ht15 dX12_leadsAll_137 gf_RX12_65_10_23 (by decide) gkN_10_23 gkR_10_23 ?_
    refine gx_iload_n dX12_leadsAll_140 rfl 2 rfl ?_
    refine gx_dup2 dX12_leadsAll_141 rfl rfl ?_
    refine gx_bE e (fun t16 ht16 e => ?_)
    refine gy_l1 ht16 dX12_leadsAll_142 ?_
    refine gx_aload_n dX12_leadsAll_143 rfl 0 rfl ?_
    refine gx_bE e (fun t17 ht17 e => ?_)
    refine gy_fR ht17 dX12_leadsAll_144 gf_RX12_65_10_23 (by decide) gkN_10_23 gkR_10_23 ?_
    refine gx_iload_n dX12_leadsAll_147 rfl 2 rfl ?_
    refine gx_bE e (fun t18 ht18 e => ?_)
    refine gy_l1 ht18 dX12_leadsAll_148 ?_
    refine gx_iload_n dX12_leadsAll_149 rfl 3 rfl ?_
    refine gy_ishr dX12_leadsAll_150 ?_
    refine gy_iconst dX12_leadsAll_151 ?_
    refine gy_iand dX12_leadsAll_152 ?_
    refine gy_iconst dX12_leadsAll_153 ?_
    refine gx_bE e (fun _ g19 e => ?_)
    refine gx_iE e (fun c20 e => ?_) (fun c20 e => ?_)
    · refine gy_icmp_ne (tgt := 166) (gi_rgS g19) (by decide) dX12_leadsAll_154 (by decide) (fun z => absurd c20 z) (fun _ => ?_)
      refine gx_aload_n dX12_leadsAll_157 rfl 0 rfl ?_
      refine gx_bE e (fun t21 ht21 e => ?_)
      refine gy_fR ht21 dX12_leadsAll_158 gf_RX12_65_10_23 (by decide) gkN_10_23 gkR_10_23 ?_
      refine gx_iload_n dX12_leadsAll_161 rfl 3 rfl ?_
      refine gx_bE e (fun t22 ht22 e => ?_)
      refine gy_l1 ht22 dX12_leadsAll_162 ?_
      refine gx_goto (tgt := 167) dX12_leadsAll_163 (by decide) ?_
      exact zb_X12_leadsAll_167 hr114 hr122 hr130 e
    · refine gy_icmp_ne (tgt := 166) (gi_rgS g19) (by decide) dX12_leadsAll_154 (by decide) (fun _ => ?_) (fun z => absurd z c20)
      refine gy_iconst dX12_leadsAll_166 ?_
      exact zb_X12_leadsAll_167 hr114 hr122 hr130 e
def l_X12_leadsAll_130 (n : Nat) (r114 : Nat → Int → gi_H → Option (gi_H)) (r122 : Nat → Int → Int → gi_H → Option (gi_H)) : Nat → Nat → Int → Int → Int → gi_H → Option (gi_H)
  | 0, _, _, _, _, _ => none
  | k + 1, v0, v1, v2, v3, h => b_X12_leadsAll_130 n r114 r122 (l_X12_leadsAll_130 n r114 r122 k) v0 v1 v2 v3 h
theorem zl_X12_leadsAll_130 {al : Bool} {n : Nat} {r114 : Nat → Int → gi_H → Option (gi_H)} {r122 : Nat → Int → Int → gi_H → Option (gi_H)} {h1 : gi_H} (hr114 : ∀ (x0 : Nat) (x1 : Int) (hh : gi_H), r114 x0 x1 hh = some h1 → gx_Z mX12_leadsAll al al 0 0 114 [(0, .ref x0), (1, .int (gI x1))] [] (gi_cv hh) (.inl none) (gi_cv h1)) (hr122 : ∀ (x0 : Nat) (x1 : Int) (x2 : Int) (hh : gi_H), r122 x0 x1 x2 hh = some h1 → gx_Z mX12_leadsAll al al 0 0 122 [(0, .ref x0), (1, .int (gI x1)), (2, .int (gI x2))] [] (gi_cv hh) (.inl none) (gi_cv h1)) : ∀ (k : Nat) (v0 : Nat) (v1 : Int) (v2 : Int) (v3 : Int) (h : gi_H), l_X12_leadsAll_130 n r114 r122 k v0 v1 v2 v3 h = some h1 → gx_Z mX12_leadsAll al al 0 0 130 [(0, .ref v0), (1, .int (gI v1)), (2, .int (gI v2)), (3, .int (gI v3))] [] (gi_cv h) (.inl none) (gi_cv h1)
  | 0, _, _, _, _, _, e => gx_0E e
  | k + 1, _, _, _, _, _, e => zb_X12_leadsAll_130 (n := n) hr114 hr122 (zl_X12_leadsAll_130 hr114 hr122 k) e
set_option maxRecDepth 100000 in
def b_X12_leadsAll_122 (n : Nat) (r114 : Nat → Int → gi_H → Option (gi_H)) (r122 : Nat → Int → Int → gi_H → Option (gi_H)) (v0 : Nat) (v1 : Int) (v2 : Int)  (h : gi_H) : Option (gi_H) :=
  Option.bind (gi_rg v2) fun _ => if (16 : Int) ≤ v2 then (b_X12_leadsAll_181 n r114 v0 v1 h) else (l_X12_leadsAll_130 n r114 r122 n v0 v1 v2 (0 : Int) h)
set_option maxRecDepth 100000 in
theorem zb_X12_leadsAll_122 {al : Bool} {n : Nat} {r114 : Nat → Int → gi_H → Option (gi_H)} {r122 : Nat → Int → Int → gi_H → Option (gi_H)} {h1 : gi_H} (hr114 : ∀ (x0 : Nat) (x1 : Int) (hh : gi_H), r114 x0 x1 hh = some h1 → gx_Z mX12_leadsAll al al 0 0 114 [(0, .ref x0), (1, .int (gI x1))] [] (gi_cv hh) (.inl none) (gi_cv h1)) (hr122 : ∀ (x0 : Nat) (x1 : Int) (x2 : Int) (hh : gi_H), r122 x0 x1 x2 hh = some h1 → gx_Z mX12_leadsAll al al 0 0 122 [(0, .ref x0), (1, .int (gI x1)), (2, .int (gI x2))] [] (gi_cv hh) (.inl none) (gi_cv h1)) {v0 : Nat} {v1 : Int} {v2 : Int}  {h : gi_H} (e : b_X12_leadsAll_122 n r114 r122 v0 v1 v2 h = some h1) : gx_Z mX12_leadsAll al al 0 0 122 [(0, .ref v0), (1, .int (gI v1)), (2, .int (gI v2))] [] (gi_cv h) (.inl none) (gi_cv h1) := by
  refine gx_iload_n dX12_leadsAll_122 rfl 2 rfl ?_
  refine gy_bipush dX12_leadsAll_123 gcb_16 ?_
  refine gx_bE e (fun _ g9 e => ?_)
  refine gx_iE e (fun c10 e => ?_) (fun c10 e => ?_)
  · refine gy_icmp_ge (tgt := 181) (gi_rgS g9) (by decide) dX12_leadsAll_125 (by decide) (fun _ => ?_) (fun z => absurd c10 z)
    refine gx_sub (ls2 := [(0, .ref v0), (1, .int (gI v1))]) [0, 1] rfl ?_
    exact zb_X12_leadsAll_181 hr114 e
  · refine gy_icmp_ge (tgt := 181) (gi_rgS g9) (by decide) dX12_leadsAll_125 (by decide) (fun z => absurd z c10) (fun _ => ?_)
    refine gy_iconst dX12_leadsAll_128 ?_
    refine gx_istore_n (ls2 := [(3, .int (gI (0 : Int))), (0, .ref v0), (1, .int (gI v1)), (2, .int (gI v2))]) dX12_leadsAll_129 rfl (Nat.le_of_ble_eq_true rfl) rfl ?_
    refine gx_sub (ls2 := [(0, .ref v0), (1, .int (gI v1)), (2, .int (gI v2)), (3, .int (gI (0 : Int)))]) [1, 2, 3, 0] rfl ?_
    exact zl_X12_leadsAll_130 hr114 hr122 n _ _ _ _ _ e
def l_X12_leadsAll_122 (n : Nat) (r114 : Nat → Int → gi_H → Option (gi_H)) : Nat → Nat → Int → Int → gi_H → Option (gi_H)
  | 0, _, _, _, _ => none
  | k + 1, v0, v1, v2, h => b_X12_leadsAll_122 n r114 (l_X12_leadsAll_122 n r114 k) v0 v1 v2 h
theorem zl_X12_leadsAll_122 {al : Bool} {n : Nat} {r114 : Nat → Int → gi_H → Option (gi_H)} {h1 : gi_H} (hr114 : ∀ (x0 : Nat) (x1 : Int) (hh : gi_H), r114 x0 x1 hh = some h1 → gx_Z mX12_leadsAll al al 0 0 114 [(0, .ref x0), (1, .int (gI x1))] [] (gi_cv hh) (.inl none) (gi_cv h1)) : ∀ (k : Nat) (v0 : Nat) (v1 : Int) (v2 : Int) (h : gi_H), l_X12_leadsAll_122 n r114 k v0 v1 v2 h = some h1 → gx_Z mX12_leadsAll al al 0 0 122 [(0, .ref v0), (1, .int (gI v1)), (2, .int (gI v2))] [] (gi_cv h) (.inl none) (gi_cv h1)
  | 0, _, _, _, _, e => gx_0E e
  | k + 1, _, _, _, _, e => zb_X12_leadsAll_122 (n := n) hr114 (zl_X12_leadsAll_122 hr114 k) e
set_option maxRecDepth 100000 in
def b_X12_leadsAll_114 (n : Nat) (r114 : Nat → Int → gi_H → Option (gi_H)) (v0 : Nat) (v1 : Int)  (h : gi_H) : Option (gi_H) :=
  Option.bind (gi_rg v1) fun _ => if (16 : Int) ≤ v1 then (some h) else (l_X12_leadsAll_122 n r114 n v0 v1 (0 : Int) h)
set_option maxRecDepth 100000 in
theorem zb_X12_leadsAll_114 {al : Bool} {n : Nat} {r114 : Nat → Int → gi_H → Option (gi_H)} {h1 : gi_H} (hr114 : ∀ (x0 : Nat) (x1 : Int) (hh : gi_H), r114 x0 x1 hh = some h1 → gx_Z mX12_leadsAll al al 0 0 114 [(0, .ref x0), (1, .int (gI x1))] [] (gi_cv hh) (.inl none) (gi_cv h1)) {v0 : Nat} {v1 : Int}  {h : gi_H} (e : b_X12_leadsAll_114 n r114 v0 v1 h = some h1) : gx_Z mX12_leadsAll al al 0 0 114 [(0, .ref v0), (1, .int (gI v1))] [] (gi_cv h) (.inl none) (gi_cv h1) := by
  refine gx_iload_n dX12_leadsAll_114 rfl 1 rfl ?_
  refine gy_bipush dX12_leadsAll_115 gcb_16 ?_
  refine gx_bE e (fun _ g7 e => ?_)
  refine gx_iE e (fun c8 e => ?_) (fun c8 e => ?_)
  · refine gy_icmp_ge (tgt := 187) (gi_rgS g7) (by decide) dX12_leadsAll_117 (by decide) (fun _ => ?_) (fun z => absurd c8 z)
    cases e
    exact gx_vret dX12_leadsAll_187 rfl ⟨Nat.le_of_ble_eq_true rfl, Nat.le_of_ble_eq_true rfl⟩ (fun z => z)
  · refine gy_icmp_ge (tgt := 187) (gi_rgS g7) (by decide) dX12_leadsAll_117 (by decide) (fun z => absurd z c8) (fun _ => ?_)
    refine gy_iconst dX12_leadsAll_120 ?_
    refine gx_istore_n (ls2 := [(2, .int (gI (0 : Int))), (0, .ref v0), (1, .int (gI v1))]) dX12_leadsAll_121 rfl (Nat.le_of_ble_eq_true rfl) rfl ?_
    refine gx_sub (ls2 := [(0, .ref v0), (1, .int (gI v1)), (2, .int (gI (0 : Int)))]) [1, 2, 0] rfl ?_
    exact zl_X12_leadsAll_122 hr114 n _ _ _ _ e
def l_X12_leadsAll_114 (n : Nat)  : Nat → Nat → Int → gi_H → Option (gi_H)
  | 0, _, _, _ => none
  | k + 1, v0, v1, h => b_X12_leadsAll_114 n  (l_X12_leadsAll_114 n  k) v0 v1 h
theorem zl_X12_leadsAll_114 {al : Bool} {n : Nat}  {h1 : gi_H}  : ∀ (k : Nat) (v0 : Nat) (v1 : Int) (h : gi_H), l_X12_leadsAll_114 n  k v0 v1 h = some h1 → gx_Z mX12_leadsAll al al 0 0 114 [(0, .ref v0), (1, .int (gI v1))] [] (gi_cv h) (.inl none) (gi_cv h1)
  | 0, _, _, _, e => gx_0E e
  | k + 1, _, _, _, e => zb_X12_leadsAll_114 (n := n)  (zl_X12_leadsAll_114  k) e
set_option maxRecDepth 100000 in
def b_X12_leadsAll_112 (n : Nat)  (v0 : Nat)  (h : gi_H) : Option (gi_H) :=
  l_X12_leadsAll_114 n  n v0 (0 : Int) h
set_option maxRecDepth 100000 in
theorem zb_X12_leadsAll_112 {al : Bool} {n : Nat}  {h1 : gi_H}  {v0 : Nat}  {h : gi_H} (e : b_X12_leadsAll_112 n v0 h = some h1) : gx_Z mX12_leadsAll al al 0 0 112 [(0, .ref v0)] [] (gi_cv h) (.inl none) (gi_cv h1) := by
  refine gy_iconst dX12_leadsAll_112 ?_
  refine gx_istore_n (ls2 := [(1, .int (gI (0 : Int))), (0, .ref v0)]) dX12_leadsAll_113 rfl (Nat.le_of_ble_eq_true rfl) rfl ?_
  refine gx_sub (ls2 := [(0, .ref v0), (1, .int (gI (0 : Int)))]) [1, 0] rfl ?_
  exact zl_X12_leadsAll_114  n _ _ _ e
set_option maxRecDepth 100000 in
def b_X12_leadsAll_106 (n : Nat) (r2 : Nat → Int → gi_H → Option (gi_H)) (v0 : Nat) (v1 : Int)  (h : gi_H) : Option (gi_H) :=
  gx_nm (v1 + (1 : Int)) fun t30 => r2 v0 t30 h
set_option maxRecDepth 100000 in
theorem zb_X12_leadsAll_106 {al : Bool} {n : Nat} {r2 : Nat → Int → gi_H → Option (gi_H)} {h1 : gi_H} (hr2 : ∀ (x0 : Nat) (x1 : Int) (hh : gi_H), r2 x0 x1 hh = some h1 → gx_Z mX12_leadsAll al al 0 0 2 [(0, .ref x0), (1, .int (gI x1))] [] (gi_cv hh) (.inl none) (gi_cv h1)) {v0 : Nat} {v1 : Int}  {h : gi_H} (e : b_X12_leadsAll_106 n r2 v0 v1 h = some h1) : gx_Z mX12_leadsAll al al 0 0 106 [(0, .ref v0), (1, .int (gI v1))] [] (gi_cv h) (.inl none) (gi_cv h1) := by
  refine gx_nE e (fun t30 ht30 e => ?_)
  refine gy_iinc (v := t30) (ls2 := [(1, .int (gI t30)), (0, .ref v0)]) dX12_leadsAll_106 1 rfl ht30 (Nat.le_of_ble_eq_true rfl) rfl ?_
  refine gx_goto (tgt := 2) dX12_leadsAll_109 (by decide) ?_
  refine gx_sub (ls2 := [(0, .ref v0), (1, .int (gI t30))]) [1, 0] rfl ?_
  exact hr2 _ _ _ e
set_option maxRecDepth 100000 in
def b_X12_leadsAll_99 (n : Nat) (r2 : Nat → Int → gi_H → Option (gi_H)) (r19 : Nat → Int → Int → Int → gi_H → Option (gi_H)) (v0 : Nat) (v1 : Int) (v3 : Int) (s0 : Int) (h : gi_H) : Option (gi_H) :=
  gx_nm (v3 + (1 : Int)) fun t44 => r19 v0 v1 s0 t44 h
set_option maxRecDepth 100000 in
theorem zb_X12_leadsAll_99 {al : Bool} {n : Nat} {r2 : Nat → Int → gi_H → Option (gi_H)} {r19 : Nat → Int → Int → Int → gi_H → Option (gi_H)} {h1 : gi_H} (hr2 : ∀ (x0 : Nat) (x1 : Int) (hh : gi_H), r2 x0 x1 hh = some h1 → gx_Z mX12_leadsAll al al 0 0 2 [(0, .ref x0), (1, .int (gI x1))] [] (gi_cv hh) (.inl none) (gi_cv h1)) (hr19 : ∀ (x0 : Nat) (x1 : Int) (x2 : Int) (x3 : Int) (hh : gi_H), r19 x0 x1 x2 x3 hh = some h1 → gx_Z mX12_leadsAll al al 0 0 19 [(0, .ref x0), (1, .int (gI x1)), (2, .int (gI x2)), (3, .int (gI x3))] [] (gi_cv hh) (.inl none) (gi_cv h1)) {v0 : Nat} {v1 : Int} {v3 : Int} {s0 : Int} {h : gi_H} (e : b_X12_leadsAll_99 n r2 r19 v0 v1 v3 s0 h = some h1) : gx_Z mX12_leadsAll al al 0 0 99 [(0, .ref v0), (1, .int (gI v1)), (3, .int (gI v3))] [.int (gI s0)] (gi_cv h) (.inl none) (gi_cv h1) := by
  refine gx_istore_n (ls2 := [(2, .int (gI s0)), (0, .ref v0), (1, .int (gI v1)), (3, .int (gI v3))]) dX12_leadsAll_99 rfl (Nat.le_of_ble_eq_true rfl) rfl ?_
  refine gx_nE e (fun t44 ht44 e => ?_)
  refine gy_iinc (v := t44) (ls2 := [(3, .int (gI t44)), (2, .int (gI s0)), (0, .ref v0), (1, .int (gI v1))]) dX12_leadsAll_100 3 rfl ht44 (Nat.le_of_ble_eq_true rfl) rfl ?_
  refine gx_goto (tgt := 19) dX12_leadsAll_103 (by decide) ?_
  refine gx_sub (ls2 := [(0, .ref v0), (1, .int (gI v1)), (2, .int (gI s0)), (3, .int (gI t44))]) [2, 3, 1, 0] rfl ?_
  exact hr19 _ _ _ _ _ e
set_option maxRecDepth 100000 in
def b_X12_leadsAll_98 (n : Nat) (r2 : Nat → Int → gi_H → Option (gi_H)) (r19 : Nat → Int → Int → Int → gi_H → Option (gi_H)) (v0 : Nat) (v1 : Int) (v3 : Int)  (h : gi_H) : Option (gi_H) :=
  b_X12_leadsAll_99 n r2 r19 v0 v1 v3 (0 : Int) h
set_option maxRecDepth 100000 in
theorem zb_X12_leadsAll_98 {al : Bool} {n : Nat} {r2 : Nat → Int → gi_H → Option (gi_H)} {r19 : Nat → Int → Int → Int → gi_H → Option (gi_H)} {h1 : gi_H} (hr2 : ∀ (x0 : Nat) (x1 : Int) (hh : gi_H), r2 x0 x1 hh = some h1 → gx_Z mX12_leadsAll al al 0 0 2 [(0, .ref x0), (1, .int (gI x1))] [] (gi_cv hh) (.inl none) (gi_cv h1)) (hr19 : ∀ (x0 : Nat) (x1 : Int) (x2 : Int) (x3 : Int) (hh : gi_H), r19 x0 x1 x2 x3 hh = some h1 → gx_Z mX12_leadsAll al al 0 0 19 [(0, .ref x0), (1, .int (gI x1)), (2, .int (gI x2)), (3, .int (gI x3))] [] (gi_cv hh) (.inl none) (gi_cv h1)) {v0 : Nat} {v1 : Int} {v3 : Int}  {h : gi_H} (e : b_X12_leadsAll_98 n r2 r19 v0 v1 v3 h = some h1) : gx_Z mX12_leadsAll al al 0 0 98 [(0, .ref v0), (1, .int (gI v1)), (3, .int (gI v3))] [] (gi_cv h) (.inl none) (gi_cv h1) := by
  refine gy_iconst dX12_leadsAll_98 ?_
  exact zb_X12_leadsAll_99 hr2 hr19 e
set_option maxRecDepth 100000 in
def b_X12_leadsAll_69 (n : Nat) (r2 : Nat → Int → gi_H → Option (gi_H)) (r19 : Nat → Int → Int → Int → gi_H → Option (gi_H)) (v0 : Nat) (v1 : Int) (v3 : Int) (v4 : Int) (s0 : Nat) (s1 : Int) (s2 : Int) (s3 : Int) (h : gi_H) : Option (gi_H) :=
  Option.bind (gi_s1 h s0 s1 (gi_or s2 s3)) fun h41 => Option.bind (gi_rg v4) fun _ => if v4 < (16 : Int) then (b_X12_leadsAll_98 n r2 r19 v0 v1 v3 h41) else (Option.bind (gi_gI h41 v0 10 18) fun t45 => Option.bind (gi_rg (gi_and (gi_shr t45 (v4 - (16 : Int))) (1 : Int))) fun _ => if (gi_and (gi_shr t45 (v4 - (16 : Int))) (1 : Int)) = (1 : Int) then (b_X12_leadsAll_99 n r2 r19 v0 v1 v3 (1 : Int) h41) else (b_X12_leadsAll_98 n r2 r19 v0 v1 v3 h41))
set_option maxRecDepth 100000 in
theorem zb_X12_leadsAll_69 {al : Bool} {n : Nat} {r2 : Nat → Int → gi_H → Option (gi_H)} {r19 : Nat → Int → Int → Int → gi_H → Option (gi_H)} {h1 : gi_H} (hr2 : ∀ (x0 : Nat) (x1 : Int) (hh : gi_H), r2 x0 x1 hh = some h1 → gx_Z mX12_leadsAll al al 0 0 2 [(0, .ref x0), (1, .int (gI x1))] [] (gi_cv hh) (.inl none) (gi_cv h1)) (hr19 : ∀ (x0 : Nat) (x1 : Int) (x2 : Int) (x3 : Int) (hh : gi_H), r19 x0 x1 x2 x3 hh = some h1 → gx_Z mX12_leadsAll al al 0 0 19 [(0, .ref x0), (1, .int (gI x1)), (2, .int (gI x2)), (3, .int (gI x3))] [] (gi_cv hh) (.inl none) (gi_cv h1)) {v0 : Nat} {v1 : Int} {v3 : Int} {v4 : Int} {s0 : Nat} {s1 : Int} {s2 : Int} {s3 : Int} {h : gi_H} (e : b_X12_leadsAll_69 n r2 r19 v0 v1 v3 v4 s0 s1 s2 s3 h = some h1) : gx_Z mX12_leadsAll al al 0 0 69 [(0, .ref v0), (1, .int (gI v1)), (3, .int (gI v3)), (4, .int (gI v4))] [.int (gI s3), .int (gI s2), .int (gI s1), .ref s0] (gi_cv h) (.inl none) (gi_cv h1) := by
  refine gy_ior dX12_leadsAll_69 ?_
  refine gx_bE e (fun h41 hh41 e => ?_)
  refine gy_t1 hh41 dX12_leadsAll_70 ?_
  refine gx_iload dX12_leadsAll_71 3 rfl ?_
  refine gy_bipush dX12_leadsAll_73 gcb_16 ?_
  refine gx_bE e (fun _ g42 e => ?_)
  refine gx_iE e (fun c43 e => ?_) (fun c43 e => ?_)
  · refine gy_icmp_lt (tgt := 98) (gi_rgS g42) (by decide) dX12_leadsAll_75 (by decide) (fun _ => ?_) (fun z => absurd c43 z)
    refine gx_sub (ls2 := [(0, .ref v0), (1, .int (gI v1)), (3, .int (gI v3))]) [0, 1, 2] rfl ?_
    exact zb_X12_leadsAll_98 hr2 hr19 e
  · refine gy_icmp_lt (tgt := 98) (gi_rgS g42) (by decide) dX12_leadsAll_75 (by decide) (fun z => absurd z c43) (fun _ => ?_)
    refine gx_aload_n dX12_leadsAll_78 rfl 0 rfl ?_
    refine gx_bE e (fun t45 ht45 e => ?_)
    refine gy_fI ht45 dX12_leadsAll_79 gf_RX12_190_10_18 (by decide) gkN_10_18 gkR_10_18 ?_
    refine gx_iload dX12_leadsAll_82 3 rfl ?_
    refine gy_bipush dX12_leadsAll_84 gcb_16 ?_
    refine gy_isub dX12_leadsAll_86 ?_
    refine gy_ishr dX12_leadsAll_87 ?_
    refine gy_iconst dX12_leadsAll_88 ?_
    refine gy_iand dX12_leadsAll_89 ?_
    refine gy_iconst dX12_leadsAll_90 ?_
    refine gx_bE e (fun _ g46 e => ?_)
    refine gx_iE e (fun c47 e => ?_) (fun c47 e => ?_)
    · refine gy_icmp_ne (tgt := 98) (gi_rgS g46) (by decide) dX12_leadsAll_91 (by decide) (fun z => absurd c47 z) (fun _ => ?_)
      refine gy_iconst dX12_leadsAll_94 ?_
      refine gx_goto (tgt := 99) dX12_leadsAll_95 (by decide) ?_
      refine gx_sub (ls2 := [(0, .ref v0), (1, .int (gI v1)), (3, .int (gI v3))]) [0, 1, 2] rfl ?_
      exact zb_X12_leadsAll_99 hr2 hr19 e
    · refine gy_icmp_ne (tgt := 98) (gi_rgS g46) (by decide) dX12_leadsAll_91 (by decide) (fun _ => ?_) (fun z => absurd z c47)
      refine gx_sub (ls2 := [(0, .ref v0), (1, .int (gI v1)), (3, .int (gI v3))]) [0, 1, 2] rfl ?_
      exact zb_X12_leadsAll_98 hr2 hr19 e
set_option maxRecDepth 100000 in
def b_X12_leadsAll_19 (n : Nat) (r2 : Nat → Int → gi_H → Option (gi_H)) (r19 : Nat → Int → Int → Int → gi_H → Option (gi_H)) (v0 : Nat) (v1 : Int) (v2 : Int) (v3 : Int)  (h : gi_H) : Option (gi_H) :=
  Option.bind (gi_is h v0 10) fun _ => Option.bind (f_X12_sizeOf v0 v1 h) fun q26 => Option.bind (gi_rg v3) fun _ => Option.bind (gi_rg q26) fun _ => if q26 ≤ v3 then (b_X12_leadsAll_106 n r2 v0 v1 h) else (Option.bind (gi_rg v2) fun _ => if v2 = 0 then (b_X12_leadsAll_106 n r2 v0 v1 h) else (Option.bind (gi_is h v0 10) fun _ => Option.bind (f_X12_symbol v0 v1 v3 h) fun q34 => Option.bind (gi_gR h v0 10 23) fun t35 => Option.bind (gi_is h v0 10) fun _ => Option.bind (f_X12_lead v0 v1 h) fun q37 => Option.bind (gi_aI h 1 t35 q37) fun t38 => Option.bind (gi_rg q34) fun _ => if (16 : Int) ≤ q34 then (b_X12_leadsAll_69 n r2 r19 v0 v1 v3 q34 t35 q37 t38 (gi_shl (1 : Int) (q34 - (16 : Int))) h) else (b_X12_leadsAll_69 n r2 r19 v0 v1 v3 q34 t35 q37 t38 (0 : Int) h)))
set_option maxRecDepth 100000 in
theorem zb_X12_leadsAll_19 {al : Bool} {n : Nat} {r2 : Nat → Int → gi_H → Option (gi_H)} {r19 : Nat → Int → Int → Int → gi_H → Option (gi_H)} {h1 : gi_H} (hr2 : ∀ (x0 : Nat) (x1 : Int) (hh : gi_H), r2 x0 x1 hh = some h1 → gx_Z mX12_leadsAll al al 0 0 2 [(0, .ref x0), (1, .int (gI x1))] [] (gi_cv hh) (.inl none) (gi_cv h1)) (hr19 : ∀ (x0 : Nat) (x1 : Int) (x2 : Int) (x3 : Int) (hh : gi_H), r19 x0 x1 x2 x3 hh = some h1 → gx_Z mX12_leadsAll al al 0 0 19 [(0, .ref x0), (1, .int (gI x1)), (2, .int (gI x2)), (3, .int (gI x3))] [] (gi_cv hh) (.inl none) (gi_cv h1)) {v0 : Nat} {v1 : Int} {v2 : Int} {v3 : Int}  {h : gi_H} (e : b_X12_leadsAll_19 n r2 r19 v0 v1 v2 v3 h = some h1) : gx_Z mX12_leadsAll al al 0 0 19 [(0, .ref v0), (1, .int (gI v1)), (2, .int (gI v2)), (3, .int (gI v3))] [] (gi_cv h) (.inl none) (gi_cv h1) := by
  refine gx_iload_n dX12_leadsAll_19 rfl 3 rfl ?_
  refine gx_aload_n dX12_leadsAll_20 rfl 0 rfl ?_
  refine gx_iload_n dX12_leadsAll_21 rfl 1 rfl ?_
  refine gx_bE e (fun _ hu25 e => ?_)
  refine gx_bE e (fun q26 hq26 e => ?_)
  refine gx_callV (n := 1) (st := [.int (gI v3)]) (As := [.int (gI v1)]) (b := v0) dX12_leadsAll_22 (z_X12_sizeOf hq26) rfl ⟨rfl, gw_cw_X12_sizeOf, gw_14, gp_X12_sizeOf, ⟨Nat.le_of_ble_eq_true rfl, Nat.le_of_ble_eq_true rfl⟩⟩ (gi_isS hu25) (by decide) gw_1579 gw_1581 gs_71 rfl ⟨Nat.le_of_ble_eq_true rfl, Nat.le_of_ble_eq_true rfl⟩ (Nat.le_of_ble_eq_true rfl) (gy_k1 (x := .int (gI q26)) (kc2 := 0) (ks2 := 0) ⟨rfl, rfl⟩ ?_) gy_kn
  refine gx_bE e (fun _ g27 e => ?_)
  refine gx_bE e (fun _ g28 e => ?_)
  refine gx_iE e (fun c29 e => ?_) (fun c29 e => ?_)
  · refine gy_icmp_ge (tgt := 106) (gi_rgS g27) (gi_rgS g28) dX12_leadsAll_25 (by decide) (fun _ => ?_) (fun z => absurd c29 z)
    refine gx_sub (ls2 := [(0, .ref v0), (1, .int (gI v1))]) [0, 1] rfl ?_
    exact zb_X12_leadsAll_106 hr2 e
  · refine gy_icmp_ge (tgt := 106) (gi_rgS g27) (gi_rgS g28) dX12_leadsAll_25 (by decide) (fun z => absurd z c29) (fun _ => ?_)
    refine gx_iload_n dX12_leadsAll_28 rfl 2 rfl ?_
    refine gx_bE e (fun _ g31 e => ?_)
    refine gx_iE e (fun c32 e => ?_) (fun c32 e => ?_)
    · refine gy_if_eq (tgt := 106) (gi_rgS g31) dX12_leadsAll_29 (by decide) (fun _ => ?_) (fun z => absurd c32 z)
      refine gx_sub (ls2 := [(0, .ref v0), (1, .int (gI v1))]) [0, 1] rfl ?_
      exact zb_X12_leadsAll_106 hr2 e
    · refine gy_if_eq (tgt := 106) (gi_rgS g31) dX12_leadsAll_29 (by decide) (fun z => absurd z c32) (fun _ => ?_)
      refine gx_aload_n dX12_leadsAll_32 rfl 0 rfl ?_
      refine gx_iload_n dX12_leadsAll_33 rfl 1 rfl ?_
      refine gx_iload_n dX12_leadsAll_34 rfl 3 rfl ?_
      refine gx_bE e (fun _ hu33 e => ?_)
      refine gx_bE e (fun q34 hq34 e => ?_)
      refine gx_callV (n := 2) (st := []) (As := [.int (gI v1), .int (gI v3)]) (b := v0) dX12_leadsAll_35 (z_X12_symbol hq34) rfl ⟨rfl, gw_cw_X12_symbol, gw_14, gp_X12_symbol, ⟨Nat.le_of_ble_eq_true rfl, Nat.le_of_ble_eq_true rfl⟩⟩ (gi_isS hu33) (by decide) gw_1575 gw_1577 gs_70 rfl ⟨Nat.le_of_ble_eq_true rfl, Nat.le_of_ble_eq_true rfl⟩ (Nat.le_of_ble_eq_true rfl) (gy_k1 (x := .int (gI q34)) (kc2 := 0) (ks2 := 0) ⟨rfl, rfl⟩ ?_) gy_kn
      refine gx_istore (ls2 := [(4, .int (gI q34)), (0, .ref v0), (1, .int (gI v1)), (2, .int (gI v2)), (3, .int (gI v3))]) dX12_leadsAll_38 (Nat.le_of_ble_eq_true rfl) rfl ?_
      refine gx_aload_n dX12_leadsAll_40 rfl 1 rfl ?_
      refine gx_bE e (fun t35 ht35 e => ?_)
      refine gy_fR ht35 dX12_leadsAll_41 gf_RX12_65_10_23 (by decide) gkN_10_23 gkR_10_23 ?_
      refine gx_aload_n dX12_leadsAll_44 rfl 1 rfl ?_
      refine gx_iload_n dX12_leadsAll_45 rfl 2 rfl ?_
      refine gx_bE e (fun _ hu36 e => ?_)
      refine gx_bE e (fun q37 hq37 e => ?_)
      refine gx_callV (n := 1) (st := [.ref t35]) (As := [.int (gI v1)]) (b := v0) dX12_leadsAll_46 (z_X12_lead hq37) rfl ⟨rfl, gw_cw_X12_lead, gw_14, gp_X12_lead, ⟨Nat.le_of_ble_eq_true rfl, Nat.le_of_ble_eq_true rfl⟩⟩ (gi_isS hu36) (by decide) gw_1595 gw_1597 gs_74 rfl ⟨Nat.le_of_ble_eq_true rfl, Nat.le_of_ble_eq_true rfl⟩ (Nat.le_of_ble_eq_true rfl) (gy_k1 (x := .int (gI q37)) (kc2 := 0) (ks2 := 0) ⟨rfl, rfl⟩ ?_) gy_kn
      refine gx_dup2 dX12_leadsAll_49 rfl rfl ?_
      refine gx_bE e (fun t38 ht38 e => ?_)
      refine gy_l1 ht38 dX12_leadsAll_50 ?_
      refine gx_iload dX12_leadsAll_51 0 rfl ?_
      refine gy_bipush dX12_leadsAll_53 gcb_16 ?_
      refine gx_bE e (fun _ g39 e => ?_)
      refine gx_iE e (fun c40 e => ?_) (fun c40 e => ?_)
      · refine gy_icmp_ge (tgt := 62) (gi_rgS g39) (by decide) dX12_leadsAll_55 (by decide) (fun _ => ?_) (fun z => absurd c40 z)
        refine gy_iconst dX12_leadsAll_62 ?_
        refine gx_iload dX12_leadsAll_63 0 rfl ?_
        refine gy_bipush dX12_leadsAll_65 gcb_16 ?_
        refine gy_isub dX12_leadsAll_67 ?_
        refine gy_ishl dX12_leadsAll_68 ?_
        refine gx_sub (ls2 := [(0, .ref v0), (1, .int (gI v1)), (3, .int (gI v3)), (4, .int (gI q34))]) [1, 2, 4, 0] rfl ?_
        exact zb_X12_leadsAll_69 hr2 hr19 e
      · refine gy_icmp_ge (tgt := 62) (gi_rgS g39) (by decide) dX12_leadsAll_55 (by decide) (fun z => absurd z c40) (fun _ => ?_)
        refine gy_iconst dX12_leadsAll_58 ?_
        refine gx_goto (tgt := 69) dX12_leadsAll_59 (by decide) ?_
        refine gx_sub (ls2 := [(0, .ref v0), (1, .int (gI v1)), (3, .int (gI v3)), (4, .int (gI q34))]) [1, 2, 4, 0] rfl ?_
        exact zb_X12_leadsAll_69 hr2 hr19 e
def l_X12_leadsAll_19 (n : Nat) (r2 : Nat → Int → gi_H → Option (gi_H)) : Nat → Nat → Int → Int → Int → gi_H → Option (gi_H)
  | 0, _, _, _, _, _ => none
  | k + 1, v0, v1, v2, v3, h => b_X12_leadsAll_19 n r2 (l_X12_leadsAll_19 n r2 k) v0 v1 v2 v3 h
theorem zl_X12_leadsAll_19 {al : Bool} {n : Nat} {r2 : Nat → Int → gi_H → Option (gi_H)} {h1 : gi_H} (hr2 : ∀ (x0 : Nat) (x1 : Int) (hh : gi_H), r2 x0 x1 hh = some h1 → gx_Z mX12_leadsAll al al 0 0 2 [(0, .ref x0), (1, .int (gI x1))] [] (gi_cv hh) (.inl none) (gi_cv h1)) : ∀ (k : Nat) (v0 : Nat) (v1 : Int) (v2 : Int) (v3 : Int) (h : gi_H), l_X12_leadsAll_19 n r2 k v0 v1 v2 v3 h = some h1 → gx_Z mX12_leadsAll al al 0 0 19 [(0, .ref v0), (1, .int (gI v1)), (2, .int (gI v2)), (3, .int (gI v3))] [] (gi_cv h) (.inl none) (gi_cv h1)
  | 0, _, _, _, _, _, e => gx_0E e
  | k + 1, _, _, _, _, _, e => zb_X12_leadsAll_19 (n := n) hr2 (zl_X12_leadsAll_19 hr2 k) e
set_option maxRecDepth 100000 in
def b_X12_leadsAll_2 (n : Nat) (r2 : Nat → Int → gi_H → Option (gi_H)) (v0 : Nat) (v1 : Int)  (h : gi_H) : Option (gi_H) :=
  Option.bind (gi_gR h v0 10 3) fun t1 => Option.bind (gi_gI h v0 10 9) fun t2 => Option.bind (gi_aI h 1 t1 t2) fun t3 => Option.bind (gi_rg v1) fun _ => Option.bind (gi_rg t3) fun _ => if t3 ≤ v1 then (b_X12_leadsAll_112 n  v0 h) else (l_X12_leadsAll_19 n r2 n v0 v1 (1 : Int) (0 : Int) h)
set_option maxRecDepth 100000 in
theorem zb_X12_leadsAll_2 {al : Bool} {n : Nat} {r2 : Nat → Int → gi_H → Option (gi_H)} {h1 : gi_H} (hr2 : ∀ (x0 : Nat) (x1 : Int) (hh : gi_H), r2 x0 x1 hh = some h1 → gx_Z mX12_leadsAll al al 0 0 2 [(0, .ref x0), (1, .int (gI x1))] [] (gi_cv hh) (.inl none) (gi_cv h1)) {v0 : Nat} {v1 : Int}  {h : gi_H} (e : b_X12_leadsAll_2 n r2 v0 v1 h = some h1) : gx_Z mX12_leadsAll al al 0 0 2 [(0, .ref v0), (1, .int (gI v1))] [] (gi_cv h) (.inl none) (gi_cv h1) := by
  refine gx_iload_n dX12_leadsAll_2 rfl 1 rfl ?_
  refine gx_aload_n dX12_leadsAll_3 rfl 0 rfl ?_
  refine gx_bE e (fun t1 ht1 e => ?_)
  refine gy_fR ht1 dX12_leadsAll_4 gf_RX12_19_10_3 (by decide) gkN_10_3 gkR_10_3 ?_
  refine gx_aload_n dX12_leadsAll_7 rfl 0 rfl ?_
  refine gx_bE e (fun t2 ht2 e => ?_)
  refine gy_fI ht2 dX12_leadsAll_8 gf_RX12_139_10_9 (by decide) gkN_10_9 gkR_10_9 ?_
  refine gx_bE e (fun t3 ht3 e => ?_)
  refine gy_l1 ht3 dX12_leadsAll_11 ?_
  refine gx_bE e (fun _ g4 e => ?_)
  refine gx_bE e (fun _ g5 e => ?_)
  refine gx_iE e (fun c6 e => ?_) (fun c6 e => ?_)
  · refine gy_icmp_ge (tgt := 112) (gi_rgS g4) (gi_rgS g5) dX12_leadsAll_12 (by decide) (fun _ => ?_) (fun z => absurd c6 z)
    refine gx_sub (ls2 := [(0, .ref v0)]) [0] rfl ?_
    exact zb_X12_leadsAll_112  e
  · refine gy_icmp_ge (tgt := 112) (gi_rgS g4) (gi_rgS g5) dX12_leadsAll_12 (by decide) (fun z => absurd z c6) (fun _ => ?_)
    refine gy_iconst dX12_leadsAll_15 ?_
    refine gx_istore_n (ls2 := [(2, .int (gI (1 : Int))), (0, .ref v0), (1, .int (gI v1))]) dX12_leadsAll_16 rfl (Nat.le_of_ble_eq_true rfl) rfl ?_
    refine gy_iconst dX12_leadsAll_17 ?_
    refine gx_istore_n (ls2 := [(3, .int (gI (0 : Int))), (2, .int (gI (1 : Int))), (0, .ref v0), (1, .int (gI v1))]) dX12_leadsAll_18 rfl (Nat.le_of_ble_eq_true rfl) rfl ?_
    refine gx_sub (ls2 := [(0, .ref v0), (1, .int (gI v1)), (2, .int (gI (1 : Int))), (3, .int (gI (0 : Int)))]) [2, 3, 1, 0] rfl ?_
    exact zl_X12_leadsAll_19 hr2 n _ _ _ _ _ e
def l_X12_leadsAll_2 (n : Nat)  : Nat → Nat → Int → gi_H → Option (gi_H)
  | 0, _, _, _ => none
  | k + 1, v0, v1, h => b_X12_leadsAll_2 n  (l_X12_leadsAll_2 n  k) v0 v1 h
theorem zl_X12_leadsAll_2 {al : Bool} {n : Nat}  {h1 : gi_H}  : ∀ (k : Nat) (v0 : Nat) (v1 : Int) (h : gi_H), l_X12_leadsAll_2 n  k v0 v1 h = some h1 → gx_Z mX12_leadsAll al al 0 0 2 [(0, .ref v0), (1, .int (gI v1))] [] (gi_cv h) (.inl none) (gi_cv h1)
  | 0, _, _, _, e => gx_0E e
  | k + 1, _, _, _, e => zb_X12_leadsAll_2 (n := n)  (zl_X12_leadsAll_2  k) e
set_option maxRecDepth 100000 in
def f_X12_leadsAll (n : Nat) (v0 : Nat) (h : gi_H) : Option (gi_H) :=
  l_X12_leadsAll_2 n  n v0 (0 : Int) h
set_option maxRecDepth 100000 in
theorem z_X12_leadsAll {al : Bool} {n : Nat} {v0 : Nat} {h : gi_H} {h1 : gi_H} (e : f_X12_leadsAll n v0 h = some h1) : gx_Cw mX12_leadsAll al [.ref v0] (gi_cv h) (.inl none) (gi_cv h1) := by
  refine gx_enter (by decide +kernel) rfl (Nat.le_of_ble_eq_true rfl) ?_
  show gx_Z mX12_leadsAll al al 0 0 0 [(0, .ref v0)] [] (gi_cv h) (.inl none) (gi_cv h1)
  refine gy_iconst dX12_leadsAll_0 ?_
  refine gx_istore_n (ls2 := [(1, .int (gI (0 : Int))), (0, .ref v0)]) dX12_leadsAll_1 rfl (Nat.le_of_ble_eq_true rfl) rfl ?_
  refine gx_sub (ls2 := [(0, .ref v0), (1, .int (gI (0 : Int)))]) [1, 0] rfl ?_
  exact zl_X12_leadsAll_2  n _ _ _ e
/-! X12_finds  -/
set_option maxRecDepth 100000 in
def b_X12_finds_165 (n : Nat)  (v0 : Nat)  (h : gi_H) : Option (gi_H) :=
  Option.bind (gi_is h v0 10) fun _ => Option.bind (f_X12_leadsAll n v0 h) fun q15 => some q15
set_option maxRecDepth 100000 in
theorem zb_X12_finds_165 {al : Bool} {n : Nat}  {h1 : gi_H}  {v0 : Nat}  {h : gi_H} (e : b_X12_finds_165 n v0 h = some h1) : gx_Z mX12_finds al al 0 0 165 [(0, .ref v0)] [] (gi_cv h) (.inl none) (gi_cv h1) := by
  refine gx_aload_n dX12_finds_165 rfl 0 rfl ?_
  refine gx_bE e (fun _ hu14 e => ?_)
  refine gx_bE e (fun q15 hq15 e => ?_)
  refine gx_callV (n := 0) (st := []) (As := []) (b := v0) dX12_finds_166 (z_X12_leadsAll hq15) rfl ⟨rfl, gw_cw_X12_leadsAll, gw_14, gp_X12_leadsAll, ⟨Nat.le_of_ble_eq_true rfl, Nat.le_of_ble_eq_true rfl⟩⟩ (gi_isS hu14) (by decide) gw_1616 gw_1618 gs_79 rfl ⟨Nat.le_of_ble_eq_true rfl, Nat.le_of_ble_eq_true rfl⟩ (Nat.le_of_ble_eq_true rfl) (gy_k0 (kc2 := 0) (ks2 := 0) ⟨rfl, rfl⟩ ?_) gy_kn
  cases e
  exact gx_vret dX12_finds_169 rfl ⟨Nat.le_of_ble_eq_true rfl, Nat.le_of_ble_eq_true rfl⟩ (fun z => z)
set_option maxRecDepth 100000 in
def b_X12_finds_162 (n : Nat) (r117 : Nat → Int → gi_H → Option (gi_H)) (v0 : Nat) (v1 : Int)  (h : gi_H) : Option (gi_H) :=
  r117 v0 v1 h
set_option maxRecDepth 100000 in
theorem zb_X12_finds_162 {al : Bool} {n : Nat} {r117 : Nat → Int → gi_H → Option (gi_H)} {h1 : gi_H} (hr117 : ∀ (x0 : Nat) (x1 : Int) (hh : gi_H), r117 x0 x1 hh = some h1 → gx_Z mX12_finds al al 0 0 117 [(0, .ref x0), (1, .int (gI x1))] [] (gi_cv hh) (.inl none) (gi_cv h1)) {v0 : Nat} {v1 : Int}  {h : gi_H} (e : b_X12_finds_162 n r117 v0 v1 h = some h1) : gx_Z mX12_finds al al 0 0 162 [(0, .ref v0), (1, .int (gI v1))] [] (gi_cv h) (.inl none) (gi_cv h1) := by
  refine gx_goto (tgt := 117) dX12_finds_162 (by decide) ?_
  exact hr117 _ _ _ e
set_option maxRecDepth 100000 in
def b_X12_finds_155 (n : Nat) (r117 : Nat → Int → gi_H → Option (gi_H)) (r125 : Nat → Int → Int → gi_H → Option (gi_H)) (v0 : Nat) (v2 : Int) (s0 : Int) (h : gi_H) : Option (gi_H) :=
  gx_nm (v2 + (1 : Int)) fun t28 => r125 v0 s0 t28 h
set_option maxRecDepth 100000 in
theorem zb_X12_finds_155 {al : Bool} {n : Nat} {r117 : Nat → Int → gi_H → Option (gi_H)} {r125 : Nat → Int → Int → gi_H → Option (gi_H)} {h1 : gi_H} (hr117 : ∀ (x0 : Nat) (x1 : Int) (hh : gi_H), r117 x0 x1 hh = some h1 → gx_Z mX12_finds al al 0 0 117 [(0, .ref x0), (1, .int (gI x1))] [] (gi_cv hh) (.inl none) (gi_cv h1)) (hr125 : ∀ (x0 : Nat) (x1 : Int) (x2 : Int) (hh : gi_H), r125 x0 x1 x2 hh = some h1 → gx_Z mX12_finds al al 0 0 125 [(0, .ref x0), (1, .int (gI x1)), (2, .int (gI x2))] [] (gi_cv hh) (.inl none) (gi_cv h1)) {v0 : Nat} {v2 : Int} {s0 : Int} {h : gi_H} (e : b_X12_finds_155 n r117 r125 v0 v2 s0 h = some h1) : gx_Z mX12_finds al al 0 0 155 [(0, .ref v0), (2, .int (gI v2))] [.int (gI s0)] (gi_cv h) (.inl none) (gi_cv h1) := by
  refine gx_istore_n (ls2 := [(1, .int (gI s0)), (0, .ref v0), (2, .int (gI v2))]) dX12_finds_155 rfl (Nat.le_of_ble_eq_true rfl) rfl ?_
  refine gx_nE e (fun t28 ht28 e => ?_)
  refine gy_iinc (v := t28) (ls2 := [(2, .int (gI t28)), (1, .int (gI s0)), (0, .ref v0)]) dX12_finds_156 2 rfl ht28 (Nat.le_of_ble_eq_true rfl) rfl ?_
  refine gx_goto (tgt := 125) dX12_finds_159 (by decide) ?_
  refine gx_sub (ls2 := [(0, .ref v0), (1, .int (gI s0)), (2, .int (gI t28))]) [2, 1, 0] rfl ?_
  exact hr125 _ _ _ _ e
set_option maxRecDepth 100000 in
def b_X12_finds_150 (n : Nat) (r117 : Nat → Int → gi_H → Option (gi_H)) (r125 : Nat → Int → Int → gi_H → Option (gi_H)) (v0 : Nat) (v2 : Int)  (h : gi_H) : Option (gi_H) :=
  b_X12_finds_155 n r117 r125 v0 v2 (1 : Int) h
set_option maxRecDepth 100000 in
theorem zb_X12_finds_150 {al : Bool} {n : Nat} {r117 : Nat → Int → gi_H → Option (gi_H)} {r125 : Nat → Int → Int → gi_H → Option (gi_H)} {h1 : gi_H} (hr117 : ∀ (x0 : Nat) (x1 : Int) (hh : gi_H), r117 x0 x1 hh = some h1 → gx_Z mX12_finds al al 0 0 117 [(0, .ref x0), (1, .int (gI x1))] [] (gi_cv hh) (.inl none) (gi_cv h1)) (hr125 : ∀ (x0 : Nat) (x1 : Int) (x2 : Int) (hh : gi_H), r125 x0 x1 x2 hh = some h1 → gx_Z mX12_finds al al 0 0 125 [(0, .ref x0), (1, .int (gI x1)), (2, .int (gI x2))] [] (gi_cv hh) (.inl none) (gi_cv h1)) {v0 : Nat} {v2 : Int}  {h : gi_H} (e : b_X12_finds_150 n r117 r125 v0 v2 h = some h1) : gx_Z mX12_finds al al 0 0 150 [(0, .ref v0), (2, .int (gI v2))] [] (gi_cv h) (.inl none) (gi_cv h1) := by
  refine gy_iconst dX12_finds_150 ?_
  refine gx_goto (tgt := 155) dX12_finds_151 (by decide) ?_
  exact zb_X12_finds_155 hr117 hr125 e
set_option maxRecDepth 100000 in
def b_X12_finds_125 (n : Nat) (r117 : Nat → Int → gi_H → Option (gi_H)) (r125 : Nat → Int → Int → gi_H → Option (gi_H)) (v0 : Nat) (v1 : Int) (v2 : Int)  (h : gi_H) : Option (gi_H) :=
  Option.bind (gi_gR h v0 10 3) fun t16 => Option.bind (gi_gI h v0 10 9) fun t17 => Option.bind (gi_aI h 1 t16 t17) fun t18 => Option.bind (gi_rg v2) fun _ => Option.bind (gi_rg t18) fun _ => if t18 ≤ v2 then (b_X12_finds_162 n r117 v0 v1 h) else (Option.bind (gi_is h v0 10) fun _ => Option.bind (f_X12_findsShort n v0 v2 h) fun q23 => Option.bind (gi_rg q23.1) fun _ => if q23.1 = 0 then (Option.bind (gi_rg v1) fun _ => if v1 = 0 then (b_X12_finds_155 n r117 r125 v0 v2 (0 : Int) q23.2) else (b_X12_finds_150 n r117 r125 v0 v2 q23.2)) else (b_X12_finds_150 n r117 r125 v0 v2 q23.2))
set_option maxRecDepth 100000 in
theorem zb_X12_finds_125 {al : Bool} {n : Nat} {r117 : Nat → Int → gi_H → Option (gi_H)} {r125 : Nat → Int → Int → gi_H → Option (gi_H)} {h1 : gi_H} (hr117 : ∀ (x0 : Nat) (x1 : Int) (hh : gi_H), r117 x0 x1 hh = some h1 → gx_Z mX12_finds al al 0 0 117 [(0, .ref x0), (1, .int (gI x1))] [] (gi_cv hh) (.inl none) (gi_cv h1)) (hr125 : ∀ (x0 : Nat) (x1 : Int) (x2 : Int) (hh : gi_H), r125 x0 x1 x2 hh = some h1 → gx_Z mX12_finds al al 0 0 125 [(0, .ref x0), (1, .int (gI x1)), (2, .int (gI x2))] [] (gi_cv hh) (.inl none) (gi_cv h1)) {v0 : Nat} {v1 : Int} {v2 : Int}  {h : gi_H} (e : b_X12_finds_125 n r117 r125 v0 v1 v2 h = some h1) : gx_Z mX12_finds al al 0 0 125 [(0, .ref v0), (1, .int (gI v1)), (2, .int (gI v2))] [] (gi_cv h) (.inl none) (gi_cv h1) := by
  refine gx_iload_n dX12_finds_125 rfl 2 rfl ?_
  refine gx_aload_n dX12_finds_126 rfl 0 rfl ?_
  refine gx_bE e (fun t16 ht16 e => ?_)
  refine gy_fR ht16 dX12_finds_127 gf_RX12_19_10_3 (by decide) gkN_10_3 gkR_10_3 ?_
  refine gx_aload_n dX12_finds_130 rfl 0 rfl ?_
  refine gx_bE e (fun t17 ht17 e => ?_)
  refine gy_fI ht17 dX12_finds_131 gf_RX12_139_10_9 (by decide) gkN_10_9 gkR_10_9 ?_
  refine gx_bE e (fun t18 ht18 e => ?_)
  refine gy_l1 ht18 dX12_finds_134 ?_
  refine gx_bE e (fun _ g19 e => ?_)
  refine gx_bE e (fun _ g20 e => ?_)
  refine gx_iE e (fun c21 e => ?_) (fun c21 e => ?_)
  · refine gy_icmp_ge (tgt := 162) (gi_rgS g19) (gi_rgS g20) dX12_finds_135 (by decide) (fun _ => ?_) (fun z => absurd c21 z)
    refine gx_sub (ls2 := [(0, .ref v0), (1, .int (gI v1))]) [0, 1] rfl ?_
    exact zb_X12_finds_162 hr117 e
  · refine gy_icmp_ge (tgt := 162) (gi_rgS g19) (gi_rgS g20) dX12_finds_135 (by decide) (fun z => absurd z c21) (fun _ => ?_)
    refine gx_aload_n dX12_finds_138 rfl 0 rfl ?_
    refine gx_iload_n dX12_finds_139 rfl 2 rfl ?_
    refine gx_bE e (fun _ hu22 e => ?_)
    refine gx_bE e (fun q23 hq23 e => ?_)
    refine gx_callV (n := 1) (st := []) (As := [.int (gI v2)]) (b := v0) dX12_finds_140 (z_X12_findsShort hq23) rfl ⟨rfl, gw_cw_X12_findsShort, gw_14, gp_X12_findsShort, ⟨Nat.le_of_ble_eq_true rfl, Nat.le_of_ble_eq_true rfl⟩⟩ (gi_isS hu22) (by decide) gw_1611 gw_1613 gs_78 rfl ⟨Nat.le_of_ble_eq_true rfl, Nat.le_of_ble_eq_true rfl⟩ (Nat.le_of_ble_eq_true rfl) (gy_k1 (x := .int (gI q23.1)) (kc2 := 0) (ks2 := 0) ⟨rfl, rfl⟩ ?_) gy_kn
    refine gx_bE e (fun _ g24 e => ?_)
    refine gx_iE e (fun c25 e => ?_) (fun c25 e => ?_)
    · refine gy_if_ne (tgt := 150) (gi_rgS g24) dX12_finds_143 (by decide) (fun z => absurd c25 z) (fun _ => ?_)
      refine gx_iload_n dX12_finds_146 rfl 1 rfl ?_
      refine gx_bE e (fun _ g26 e => ?_)
      refine gx_iE e (fun c27 e => ?_) (fun c27 e => ?_)
      · refine gy_if_eq (tgt := 154) (gi_rgS g26) dX12_finds_147 (by decide) (fun _ => ?_) (fun z => absurd c27 z)
        refine gy_iconst dX12_finds_154 ?_
        refine gx_sub (ls2 := [(0, .ref v0), (2, .int (gI v2))]) [0, 2] rfl ?_
        exact zb_X12_finds_155 hr117 hr125 e
      · refine gy_if_eq (tgt := 154) (gi_rgS g26) dX12_finds_147 (by decide) (fun z => absurd z c27) (fun _ => ?_)
        refine gx_sub (ls2 := [(0, .ref v0), (2, .int (gI v2))]) [0, 2] rfl ?_
        exact zb_X12_finds_150 hr117 hr125 e
    · refine gy_if_ne (tgt := 150) (gi_rgS g24) dX12_finds_143 (by decide) (fun _ => ?_) (fun z => absurd z c25)
      refine gx_sub (ls2 := [(0, .ref v0), (2, .int (gI v2))]) [0, 2] rfl ?_
      exact zb_X12_finds_150 hr117 hr125 e
def l_X12_finds_125 (n : Nat) (r117 : Nat → Int → gi_H → Option (gi_H)) : Nat → Nat → Int → Int → gi_H → Option (gi_H)
  | 0, _, _, _, _ => none
  | k + 1, v0, v1, v2, h => b_X12_finds_125 n r117 (l_X12_finds_125 n r117 k) v0 v1 v2 h
theorem zl_X12_finds_125 {al : Bool} {n : Nat} {r117 : Nat → Int → gi_H → Option (gi_H)} {h1 : gi_H} (hr117 : ∀ (x0 : Nat) (x1 : Int) (hh : gi_H), r117 x0 x1 hh = some h1 → gx_Z mX12_finds al al 0 0 117 [(0, .ref x0), (1, .int (gI x1))] [] (gi_cv hh) (.inl none) (gi_cv h1)) : ∀ (k : Nat) (v0 : Nat) (v1 : Int) (v2 : Int) (h : gi_H), l_X12_finds_125 n r117 k v0 v1 v2 h = some h1 → gx_Z mX12_finds al al 0 0 125 [(0, .ref v0), (1, .int (gI v1)), (2, .int (gI v2))] [] (gi_cv h) (.inl none) (gi_cv h1)
  | 0, _, _, _, _, e => gx_0E e
  | k + 1, _, _, _, _, e => zb_X12_finds_125 (n := n) hr117 (zl_X12_finds_125 hr117 k) e
set_option maxRecDepth 100000 in
def b_X12_finds_117 (n : Nat) (r117 : Nat → Int → gi_H → Option (gi_H)) (v0 : Nat) (v1 : Int)  (h : gi_H) : Option (gi_H) :=
  Option.bind (gi_rg v1) fun _ => if v1 = 0 then (b_X12_finds_165 n  v0 h) else (l_X12_finds_125 n r117 n v0 (0 : Int) (0 : Int) h)
set_option maxRecDepth 100000 in
theorem zb_X12_finds_117 {al : Bool} {n : Nat} {r117 : Nat → Int → gi_H → Option (gi_H)} {h1 : gi_H} (hr117 : ∀ (x0 : Nat) (x1 : Int) (hh : gi_H), r117 x0 x1 hh = some h1 → gx_Z mX12_finds al al 0 0 117 [(0, .ref x0), (1, .int (gI x1))] [] (gi_cv hh) (.inl none) (gi_cv h1)) {v0 : Nat} {v1 : Int}  {h : gi_H} (e : b_X12_finds_117 n r117 v0 v1 h = some h1) : gx_Z mX12_finds al al 0 0 117 [(0, .ref v0), (1, .int (gI v1))] [] (gi_cv h) (.inl none) (gi_cv h1) := by
  refine gx_iload_n dX12_finds_117 rfl 1 rfl ?_
  refine gx_bE e (fun _ g12 e => ?_)
  refine gx_iE e (fun c13 e => ?_) (fun c13 e => ?_)
  · refine gy_if_eq (tgt := 165) (gi_rgS g12) dX12_finds_118 (by decide) (fun _ => ?_) (fun z => absurd c13 z)
    refine gx_sub (ls2 := [(0, .ref v0)]) [0] rfl ?_
    exact zb_X12_finds_165  e
  · refine gy_if_eq (tgt := 165) (gi_rgS g12) dX12_finds_118 (by decide) (fun z => absurd z c13) (fun _ => ?_)
    refine gy_iconst dX12_finds_121 ?_
    refine gx_istore_n (ls2 := [(1, .int (gI (0 : Int))), (0, .ref v0)]) dX12_finds_122 rfl (Nat.le_of_ble_eq_true rfl) rfl ?_
    refine gy_iconst dX12_finds_123 ?_
    refine gx_istore_n (ls2 := [(2, .int (gI (0 : Int))), (1, .int (gI (0 : Int))), (0, .ref v0)]) dX12_finds_124 rfl (Nat.le_of_ble_eq_true rfl) rfl ?_
    refine gx_sub (ls2 := [(0, .ref v0), (1, .int (gI (0 : Int))), (2, .int (gI (0 : Int)))]) [2, 1, 0] rfl ?_
    exact zl_X12_finds_125 hr117 n _ _ _ _ e
def l_X12_finds_117 (n : Nat)  : Nat → Nat → Int → gi_H → Option (gi_H)
  | 0, _, _, _ => none
  | k + 1, v0, v1, h => b_X12_finds_117 n  (l_X12_finds_117 n  k) v0 v1 h
theorem zl_X12_finds_117 {al : Bool} {n : Nat}  {h1 : gi_H}  : ∀ (k : Nat) (v0 : Nat) (v1 : Int) (h : gi_H), l_X12_finds_117 n  k v0 v1 h = some h1 → gx_Z mX12_finds al al 0 0 117 [(0, .ref v0), (1, .int (gI v1))] [] (gi_cv h) (.inl none) (gi_cv h1)
  | 0, _, _, _, e => gx_0E e
  | k + 1, _, _, _, e => zb_X12_finds_117 (n := n)  (zl_X12_finds_117  k) e
set_option maxRecDepth 100000 in
def b_X12_finds_115 (n : Nat)  (v0 : Nat)  (h : gi_H) : Option (gi_H) :=
  l_X12_finds_117 n  n v0 (1 : Int) h
set_option maxRecDepth 100000 in
theorem zb_X12_finds_115 {al : Bool} {n : Nat}  {h1 : gi_H}  {v0 : Nat}  {h : gi_H} (e : b_X12_finds_115 n v0 h = some h1) : gx_Z mX12_finds al al 0 0 115 [(0, .ref v0)] [] (gi_cv h) (.inl none) (gi_cv h1) := by
  refine gy_iconst dX12_finds_115 ?_
  refine gx_istore_n (ls2 := [(1, .int (gI (1 : Int))), (0, .ref v0)]) dX12_finds_116 rfl (Nat.le_of_ble_eq_true rfl) rfl ?_
  refine gx_sub (ls2 := [(0, .ref v0), (1, .int (gI (1 : Int)))]) [1, 0] rfl ?_
  exact zl_X12_finds_117  n _ _ _ e
set_option maxRecDepth 100000 in
def b_X12_finds_103 (n : Nat) (r103 : Nat → Int → gi_H → Option (gi_H)) (v0 : Nat) (v1 : Int)  (h : gi_H) : Option (gi_H) :=
  Option.bind (gi_rg v1) fun _ => if v1 = 0 then (b_X12_finds_115 n  v0 h) else (Option.bind (gi_is h v0 10) fun _ => Option.bind (f_X12_findsBehind n v0 h) fun q30 => r103 v0 q30.1 q30.2)
set_option maxRecDepth 100000 in
theorem zb_X12_finds_103 {al : Bool} {n : Nat} {r103 : Nat → Int → gi_H → Option (gi_H)} {h1 : gi_H} (hr103 : ∀ (x0 : Nat) (x1 : Int) (hh : gi_H), r103 x0 x1 hh = some h1 → gx_Z mX12_finds al al 0 0 103 [(0, .ref x0), (1, .int (gI x1))] [] (gi_cv hh) (.inl none) (gi_cv h1)) {v0 : Nat} {v1 : Int}  {h : gi_H} (e : b_X12_finds_103 n r103 v0 v1 h = some h1) : gx_Z mX12_finds al al 0 0 103 [(0, .ref v0), (1, .int (gI v1))] [] (gi_cv h) (.inl none) (gi_cv h1) := by
  refine gx_iload_n dX12_finds_103 rfl 1 rfl ?_
  refine gx_bE e (fun _ g10 e => ?_)
  refine gx_iE e (fun c11 e => ?_) (fun c11 e => ?_)
  · refine gy_if_eq (tgt := 115) (gi_rgS g10) dX12_finds_104 (by decide) (fun _ => ?_) (fun z => absurd c11 z)
    refine gx_sub (ls2 := [(0, .ref v0)]) [0] rfl ?_
    exact zb_X12_finds_115  e
  · refine gy_if_eq (tgt := 115) (gi_rgS g10) dX12_finds_104 (by decide) (fun z => absurd z c11) (fun _ => ?_)
    refine gx_aload_n dX12_finds_107 rfl 0 rfl ?_
    refine gx_bE e (fun _ hu29 e => ?_)
    refine gx_bE e (fun q30 hq30 e => ?_)
    refine gx_callV (n := 0) (st := []) (As := []) (b := v0) dX12_finds_108 (z_X12_findsBehind hq30) rfl ⟨rfl, gw_cw_X12_findsBehind, gw_14, gp_X12_findsBehind, ⟨Nat.le_of_ble_eq_true rfl, Nat.le_of_ble_eq_true rfl⟩⟩ (gi_isS hu29) (by decide) gw_1607 gw_1609 gs_77 rfl ⟨Nat.le_of_ble_eq_true rfl, Nat.le_of_ble_eq_true rfl⟩ (Nat.le_of_ble_eq_true rfl) (gy_k1 (x := .int (gI q30.1)) (kc2 := 0) (ks2 := 0) ⟨rfl, rfl⟩ ?_) gy_kn
    refine gx_istore_n (ls2 := [(1, .int (gI q30.1)), (0, .ref v0)]) dX12_finds_111 rfl (Nat.le_of_ble_eq_true rfl) rfl ?_
    refine gx_goto (tgt := 103) dX12_finds_112 (by decide) ?_
    refine gx_sub (ls2 := [(0, .ref v0), (1, .int (gI q30.1))]) [1, 0] rfl ?_
    exact hr103 _ _ _ e
def l_X12_finds_103 (n : Nat)  : Nat → Nat → Int → gi_H → Option (gi_H)
  | 0, _, _, _ => none
  | k + 1, v0, v1, h => b_X12_finds_103 n  (l_X12_finds_103 n  k) v0 v1 h
theorem zl_X12_finds_103 {al : Bool} {n : Nat}  {h1 : gi_H}  : ∀ (k : Nat) (v0 : Nat) (v1 : Int) (h : gi_H), l_X12_finds_103 n  k v0 v1 h = some h1 → gx_Z mX12_finds al al 0 0 103 [(0, .ref v0), (1, .int (gI v1))] [] (gi_cv h) (.inl none) (gi_cv h1)
  | 0, _, _, _, e => gx_0E e
  | k + 1, _, _, _, e => zb_X12_finds_103 (n := n)  (zl_X12_finds_103  k) e
set_option maxRecDepth 100000 in
def b_X12_finds_101 (n : Nat)  (v0 : Nat)  (h : gi_H) : Option (gi_H) :=
  l_X12_finds_103 n  n v0 (1 : Int) h
set_option maxRecDepth 100000 in
theorem zb_X12_finds_101 {al : Bool} {n : Nat}  {h1 : gi_H}  {v0 : Nat}  {h : gi_H} (e : b_X12_finds_101 n v0 h = some h1) : gx_Z mX12_finds al al 0 0 101 [(0, .ref v0)] [] (gi_cv h) (.inl none) (gi_cv h1) := by
  refine gy_iconst dX12_finds_101 ?_
  refine gx_istore_n (ls2 := [(1, .int (gI (1 : Int))), (0, .ref v0)]) dX12_finds_102 rfl (Nat.le_of_ble_eq_true rfl) rfl ?_
  refine gx_sub (ls2 := [(0, .ref v0), (1, .int (gI (1 : Int)))]) [1, 0] rfl ?_
  exact zl_X12_finds_103  n _ _ _ e
set_option maxRecDepth 100000 in
def b_X12_finds_89 (n : Nat) (r89 : Nat → Int → gi_H → Option (gi_H)) (v0 : Nat) (v1 : Int)  (h : gi_H) : Option (gi_H) :=
  Option.bind (gi_rg v1) fun _ => if v1 = 0 then (b_X12_finds_101 n  v0 h) else (Option.bind (gi_is h v0 10) fun _ => Option.bind (f_X12_findsMore n v0 h) fun q32 => r89 v0 q32.1 q32.2)
set_option maxRecDepth 100000 in
theorem zb_X12_finds_89 {al : Bool} {n : Nat} {r89 : Nat → Int → gi_H → Option (gi_H)} {h1 : gi_H} (hr89 : ∀ (x0 : Nat) (x1 : Int) (hh : gi_H), r89 x0 x1 hh = some h1 → gx_Z mX12_finds al al 0 0 89 [(0, .ref x0), (1, .int (gI x1))] [] (gi_cv hh) (.inl none) (gi_cv h1)) {v0 : Nat} {v1 : Int}  {h : gi_H} (e : b_X12_finds_89 n r89 v0 v1 h = some h1) : gx_Z mX12_finds al al 0 0 89 [(0, .ref v0), (1, .int (gI v1))] [] (gi_cv h) (.inl none) (gi_cv h1) := by
  refine gx_iload_n dX12_finds_89 rfl 1 rfl ?_
  refine gx_bE e (fun _ g8 e => ?_)
  refine gx_iE e (fun c9 e => ?_) (fun c9 e => ?_)
  · refine gy_if_eq (tgt := 101) (gi_rgS g8) dX12_finds_90 (by decide) (fun _ => ?_) (fun z => absurd c9 z)
    refine gx_sub (ls2 := [(0, .ref v0)]) [0] rfl ?_
    exact zb_X12_finds_101  e
  · refine gy_if_eq (tgt := 101) (gi_rgS g8) dX12_finds_90 (by decide) (fun z => absurd z c9) (fun _ => ?_)
    refine gx_aload_n dX12_finds_93 rfl 0 rfl ?_
    refine gx_bE e (fun _ hu31 e => ?_)
    refine gx_bE e (fun q32 hq32 e => ?_)
    refine gx_callV (n := 0) (st := []) (As := []) (b := v0) dX12_finds_94 (z_X12_findsMore hq32) rfl ⟨rfl, gw_cw_X12_findsMore, gw_14, gp_X12_findsMore, ⟨Nat.le_of_ble_eq_true rfl, Nat.le_of_ble_eq_true rfl⟩⟩ (gi_isS hu31) (by decide) gw_1591 gw_1593 gs_73 rfl ⟨Nat.le_of_ble_eq_true rfl, Nat.le_of_ble_eq_true rfl⟩ (Nat.le_of_ble_eq_true rfl) (gy_k1 (x := .int (gI q32.1)) (kc2 := 0) (ks2 := 0) ⟨rfl, rfl⟩ ?_) gy_kn
    refine gx_istore_n (ls2 := [(1, .int (gI q32.1)), (0, .ref v0)]) dX12_finds_97 rfl (Nat.le_of_ble_eq_true rfl) rfl ?_
    refine gx_goto (tgt := 89) dX12_finds_98 (by decide) ?_
    refine gx_sub (ls2 := [(0, .ref v0), (1, .int (gI q32.1))]) [1, 0] rfl ?_
    exact hr89 _ _ _ e
def l_X12_finds_89 (n : Nat)  : Nat → Nat → Int → gi_H → Option (gi_H)
  | 0, _, _, _ => none
  | k + 1, v0, v1, h => b_X12_finds_89 n  (l_X12_finds_89 n  k) v0 v1 h
theorem zl_X12_finds_89 {al : Bool} {n : Nat}  {h1 : gi_H}  : ∀ (k : Nat) (v0 : Nat) (v1 : Int) (h : gi_H), l_X12_finds_89 n  k v0 v1 h = some h1 → gx_Z mX12_finds al al 0 0 89 [(0, .ref v0), (1, .int (gI v1))] [] (gi_cv h) (.inl none) (gi_cv h1)
  | 0, _, _, _, e => gx_0E e
  | k + 1, _, _, _, e => zb_X12_finds_89 (n := n)  (zl_X12_finds_89  k) e
set_option maxRecDepth 100000 in
def b_X12_finds_87 (n : Nat)  (v0 : Nat)  (h : gi_H) : Option (gi_H) :=
  l_X12_finds_89 n  n v0 (1 : Int) h
set_option maxRecDepth 100000 in
theorem zb_X12_finds_87 {al : Bool} {n : Nat}  {h1 : gi_H}  {v0 : Nat}  {h : gi_H} (e : b_X12_finds_87 n v0 h = some h1) : gx_Z mX12_finds al al 0 0 87 [(0, .ref v0)] [] (gi_cv h) (.inl none) (gi_cv h1) := by
  refine gy_iconst dX12_finds_87 ?_
  refine gx_istore_n (ls2 := [(1, .int (gI (1 : Int))), (0, .ref v0)]) dX12_finds_88 rfl (Nat.le_of_ble_eq_true rfl) rfl ?_
  refine gx_sub (ls2 := [(0, .ref v0), (1, .int (gI (1 : Int)))]) [1, 0] rfl ?_
  exact zl_X12_finds_89  n _ _ _ e
set_option maxRecDepth 100000 in
def b_X12_finds_58 (n : Nat) (r20 : Nat → Int → gi_H → Option (gi_H)) (v0 : Nat) (v1 : Int) (s0 : Nat) (s1 : Int) (s2 : Int) (h : gi_H) : Option (gi_H) :=
  Option.bind (gi_s1 h s0 s1 s2) fun h41 => Option.bind (gi_gR h41 v0 10 21) fun t42 => Option.bind (gi_s1 h41 t42 v1 (101 : Int)) fun h43 => Option.bind (gi_gR h43 v0 10 22) fun t44 => Option.bind (gi_s2 h43 t44 v1 (0 : Int)) fun h45 => Option.bind (gi_gR h45 v0 10 23) fun t46 => Option.bind (gi_s1 h45 t46 v1 (0 : Int)) fun h47 => gx_nm (v1 + (1 : Int)) fun t48 => r20 v0 t48 h47
set_option maxRecDepth 100000 in
theorem zb_X12_finds_58 {al : Bool} {n : Nat} {r20 : Nat → Int → gi_H → Option (gi_H)} {h1 : gi_H} (hr20 : ∀ (x0 : Nat) (x1 : Int) (hh : gi_H), r20 x0 x1 hh = some h1 → gx_Z mX12_finds al al 0 0 20 [(0, .ref x0), (1, .int (gI x1))] [] (gi_cv hh) (.inl none) (gi_cv h1)) {v0 : Nat} {v1 : Int} {s0 : Nat} {s1 : Int} {s2 : Int} {h : gi_H} (e : b_X12_finds_58 n r20 v0 v1 s0 s1 s2 h = some h1) : gx_Z mX12_finds al al 0 0 58 [(0, .ref v0), (1, .int (gI v1))] [.int (gI s2), .int (gI s1), .ref s0] (gi_cv h) (.inl none) (gi_cv h1) := by
  refine gx_bE e (fun h41 hh41 e => ?_)
  refine gy_t1 hh41 dX12_finds_58 ?_
  refine gx_aload_n dX12_finds_59 rfl 0 rfl ?_
  refine gx_bE e (fun t42 ht42 e => ?_)
  refine gy_fR ht42 dX12_finds_60 gf_RX12_58_10_21 (by decide) gkN_10_21 gkR_10_21 ?_
  refine gx_iload_n dX12_finds_63 rfl 1 rfl ?_
  refine gy_bipush dX12_finds_64 gcb_101 ?_
  refine gx_bE e (fun h43 hh43 e => ?_)
  refine gy_t1 hh43 dX12_finds_66 ?_
  refine gx_aload_n dX12_finds_67 rfl 0 rfl ?_
  refine gx_bE e (fun t44 ht44 e => ?_)
  refine gy_fR ht44 dX12_finds_68 gf_RX12_61_10_22 (by decide) gkN_10_22 gkR_10_22 ?_
  refine gx_iload_n dX12_finds_71 rfl 1 rfl ?_
  refine gy_lconst (v := 0) dX12_finds_72 (by decide +kernel) ?_
  refine gx_bE e (fun h45 hh45 e => ?_)
  refine gy_t2 hh45 dX12_finds_73 ?_
  refine gx_aload_n dX12_finds_74 rfl 0 rfl ?_
  refine gx_bE e (fun t46 ht46 e => ?_)
  refine gy_fR ht46 dX12_finds_75 gf_RX12_65_10_23 (by decide) gkN_10_23 gkR_10_23 ?_
  refine gx_iload_n dX12_finds_78 rfl 1 rfl ?_
  refine gy_iconst dX12_finds_79 ?_
  refine gx_bE e (fun h47 hh47 e => ?_)
  refine gy_t1 hh47 dX12_finds_80 ?_
  refine gx_nE e (fun t48 ht48 e => ?_)
  refine gy_iinc (v := t48) (ls2 := [(1, .int (gI t48)), (0, .ref v0)]) dX12_finds_81 1 rfl ht48 (Nat.le_of_ble_eq_true rfl) rfl ?_
  refine gx_goto (tgt := 20) dX12_finds_84 (by decide) ?_
  refine gx_sub (ls2 := [(0, .ref v0), (1, .int (gI t48))]) [1, 0] rfl ?_
  exact hr20 _ _ _ e
set_option maxRecDepth 100000 in
def b_X12_finds_20 (n : Nat) (r20 : Nat → Int → gi_H → Option (gi_H)) (v0 : Nat) (v1 : Int)  (h : gi_H) : Option (gi_H) :=
  Option.bind (gi_rg v1) fun _ => if (16 : Int) ≤ v1 then (b_X12_finds_87 n  v0 h) else (Option.bind (gi_gR h v0 10 19) fun t33 => Option.bind (gi_s1 h t33 v1 (0 : Int)) fun h34 => Option.bind (gi_gR h34 v0 10 20) fun t35 => Option.bind (gi_gR h34 v0 10 8) fun t36 => Option.bind (gi_gI h34 v0 10 9) fun t37 => Option.bind (gi_aI h34 1 t36 t37) fun t38 => Option.bind (gi_rg t38) fun _ => if v1 = t38 then (b_X12_finds_58 n r20 v0 v1 t35 v1 (256 : Int) h34) else (b_X12_finds_58 n r20 v0 v1 t35 v1 (0 : Int) h34))
set_option maxRecDepth 100000 in
theorem zb_X12_finds_20 {al : Bool} {n : Nat} {r20 : Nat → Int → gi_H → Option (gi_H)} {h1 : gi_H} (hr20 : ∀ (x0 : Nat) (x1 : Int) (hh : gi_H), r20 x0 x1 hh = some h1 → gx_Z mX12_finds al al 0 0 20 [(0, .ref x0), (1, .int (gI x1))] [] (gi_cv hh) (.inl none) (gi_cv h1)) {v0 : Nat} {v1 : Int}  {h : gi_H} (e : b_X12_finds_20 n r20 v0 v1 h = some h1) : gx_Z mX12_finds al al 0 0 20 [(0, .ref v0), (1, .int (gI v1))] [] (gi_cv h) (.inl none) (gi_cv h1) := by
  refine gx_iload_n dX12_finds_20 rfl 1 rfl ?_
  refine gy_bipush dX12_finds_21 gcb_16 ?_
  refine gx_bE e (fun _ g6 e => ?_)
  refine gx_iE e (fun c7 e => ?_) (fun c7 e => ?_)
  · refine gy_icmp_ge (tgt := 87) (gi_rgS g6) (by decide) dX12_finds_23 (by decide) (fun _ => ?_) (fun z => absurd c7 z)
    refine gx_sub (ls2 := [(0, .ref v0)]) [0] rfl ?_
    exact zb_X12_finds_87  e
  · refine gy_icmp_ge (tgt := 87) (gi_rgS g6) (by decide) dX12_finds_23 (by decide) (fun z => absurd z c7) (fun _ => ?_)
    refine gx_aload_n dX12_finds_26 rfl 0 rfl ?_
    refine gx_bE e (fun t33 ht33 e => ?_)
    refine gy_fR ht33 dX12_finds_27 gf_RX12_52_10_19 (by decide) gkN_10_19 gkR_10_19 ?_
    refine gx_iload_n dX12_finds_30 rfl 1 rfl ?_
    refine gy_iconst dX12_finds_31 ?_
    refine gx_bE e (fun h34 hh34 e => ?_)
    refine gy_t1 hh34 dX12_finds_32 ?_
    refine gx_aload_n dX12_finds_33 rfl 0 rfl ?_
    refine gx_bE e (fun t35 ht35 e => ?_)
    refine gy_fR ht35 dX12_finds_34 gf_RX12_55_10_20 (by decide) gkN_10_20 gkR_10_20 ?_
    refine gx_iload_n dX12_finds_37 rfl 1 rfl ?_
    refine gx_iload_n dX12_finds_38 rfl 1 rfl ?_
    refine gx_aload_n dX12_finds_39 rfl 0 rfl ?_
    refine gx_bE e (fun t36 ht36 e => ?_)
    refine gy_fR ht36 dX12_finds_40 gf_RX12_34_10_8 (by decide) gkN_10_8 gkR_10_8 ?_
    refine gx_aload_n dX12_finds_43 rfl 0 rfl ?_
    refine gx_bE e (fun t37 ht37 e => ?_)
    refine gy_fI ht37 dX12_finds_44 gf_RX12_139_10_9 (by decide) gkN_10_9 gkR_10_9 ?_
    refine gx_bE e (fun t38 ht38 e => ?_)
    refine gy_l1 ht38 dX12_finds_47 ?_
    refine gx_bE e (fun _ g39 e => ?_)
    refine gx_iE e (fun c40 e => ?_) (fun c40 e => ?_)
    · refine gy_icmp_ne (tgt := 57) (gi_rgS g6) (gi_rgS g39) dX12_finds_48 (by decide) (fun z => absurd c40 z) (fun _ => ?_)
      refine gy_sipush dX12_finds_51 gcs_256 ?_
      refine gx_goto (tgt := 58) dX12_finds_54 (by decide) ?_
      exact zb_X12_finds_58 hr20 e
    · refine gy_icmp_ne (tgt := 57) (gi_rgS g6) (gi_rgS g39) dX12_finds_48 (by decide) (fun _ => ?_) (fun z => absurd z c40)
      refine gy_iconst dX12_finds_57 ?_
      exact zb_X12_finds_58 hr20 e
def l_X12_finds_20 (n : Nat)  : Nat → Nat → Int → gi_H → Option (gi_H)
  | 0, _, _, _ => none
  | k + 1, v0, v1, h => b_X12_finds_20 n  (l_X12_finds_20 n  k) v0 v1 h
theorem zl_X12_finds_20 {al : Bool} {n : Nat}  {h1 : gi_H}  : ∀ (k : Nat) (v0 : Nat) (v1 : Int) (h : gi_H), l_X12_finds_20 n  k v0 v1 h = some h1 → gx_Z mX12_finds al al 0 0 20 [(0, .ref v0), (1, .int (gI v1))] [] (gi_cv h) (.inl none) (gi_cv h1)
  | 0, _, _, _, e => gx_0E e
  | k + 1, _, _, _, e => zb_X12_finds_20 (n := n)  (zl_X12_finds_20  k) e
set_option maxRecDepth 100000 in
def f_X12_finds (n : Nat) (v0 : Nat) (h : gi_H) : Option (gi_H) :=
  Option.bind (gi_gI h v0 10 33) fun t1 => Option.bind (gi_rg t1) fun _ => if t1 = 0 then (Option.bind (gi_pZ h v0 10 33 (1 : Int)) fun h4 => Option.bind (gi_pI h4 v0 10 18 (0 : Int)) fun h5 => l_X12_finds_20 n  n v0 (0 : Int) h5) else (some h)
set_option maxRecDepth 100000 in
theorem z_X12_finds {al : Bool} {n : Nat} {v0 : Nat} {h : gi_H} {h1 : gi_H} (e : f_X12_finds n v0 h = some h1) : gx_Cw mX12_finds al [.ref v0] (gi_cv h) (.inl none) (gi_cv h1) := by
  refine gx_enter (by decide +kernel) rfl (Nat.le_of_ble_eq_true rfl) ?_
  show gx_Z mX12_finds al al 0 0 0 [(0, .ref v0)] [] (gi_cv h) (.inl none) (gi_cv h1)
  refine gx_aload_n dX12_finds_0 rfl 0 rfl ?_
  refine gx_bE e (fun t1 ht1 e => ?_)
  refine gy_fI ht1 dX12_finds_1 gf_RX12_108_10_33 (by decide) gkN_10_33 gkR_10_33 ?_
  refine gx_bE e (fun _ g2 e => ?_)
  refine gx_iE e (fun c3 e => ?_) (fun c3 e => ?_)
  · refine gy_if_eq (tgt := 8) (gi_rgS g2) dX12_finds_4 (by decide) (fun _ => ?_) (fun z => absurd c3 z)
    refine gx_aload_n dX12_finds_8 rfl 0 rfl ?_
    refine gy_iconst dX12_finds_9 ?_
    refine gx_bE e (fun h4 hh4 e => ?_)
    refine gy_qZ hh4 dX12_finds_10 gf_RX12_108_10_33 (by decide) gkN_10_33 rfl (Or.inl rfl) ?_
    refine gx_aload_n dX12_finds_13 rfl 0 rfl ?_
    refine gy_iconst dX12_finds_14 ?_
    refine gx_bE e (fun h5 hh5 e => ?_)
    refine gy_qI hh5 dX12_finds_15 gf_RX12_190_10_18 (by decide) gkN_10_18 rfl (Or.inl rfl) ?_
    refine gy_iconst dX12_finds_18 ?_
    refine gx_istore_n (ls2 := [(1, .int (gI (0 : Int))), (0, .ref v0)]) dX12_finds_19 rfl (Nat.le_of_ble_eq_true rfl) rfl ?_
    refine gx_sub (ls2 := [(0, .ref v0), (1, .int (gI (0 : Int)))]) [1, 0] rfl ?_
    exact zl_X12_finds_20  n _ _ _ e
  · refine gy_if_eq (tgt := 8) (gi_rgS g2) dX12_finds_4 (by decide) (fun z => absurd z c3) (fun _ => ?_)
    cases e
    exact gx_vret dX12_finds_7 rfl ⟨Nat.le_of_ble_eq_true rfl, Nat.le_of_ble_eq_true rfl⟩ (fun z => z)
/-! X12_isNullable  -/
set_option maxRecDepth 100000 in
def b_X12_isNullable_35 (n : Nat)    (h : gi_H) : Option (Int × gi_H) :=
  some ((0 : Int), h)
set_option maxRecDepth 100000 in
theorem zb_X12_isNullable_35 {al : Bool} {n : Nat}  {res : Int} {h1 : gi_H}    {h : gi_H} (e : b_X12_isNullable_35 n  h = some (res, h1)) : gx_Z mX12_isNullable al al 0 0 35 [] [] (gi_cv h) (.inl (some (.int (gI res)))) (gi_cv h1) := by
  refine gy_iconst dX12_isNullable_35 ?_
  cases e
  exact gx_zret (by decide +kernel) dX12_isNullable_36 rfl ⟨Nat.le_of_ble_eq_true rfl, Nat.le_of_ble_eq_true rfl⟩ (fun z => z)
set_option maxRecDepth 100000 in
def f_X12_isNullable (n : Nat) (v0 : Nat) (v1 : Int) (h : gi_H) : Option (Int × gi_H) :=
  Option.bind (gi_is h v0 10) fun _ => Option.bind (f_X12_finds n v0 h) fun q2 => Option.bind (f_X12_isBelow v1 (16 : Int) q2) fun q3 => Option.bind (gi_is q2 v0 10) fun _ => Option.bind (f_X12_goes v0 q3 (1 : Int) (1 : Int) q2) fun q5 => Option.bind (gi_rg q5.1) fun _ => if q5.1 = 0 then (b_X12_isNullable_35 n   q5.2) else (Option.bind (gi_gI q5.2 v0 10 18) fun t8 => Option.bind (gi_rg (gi_and (gi_shr t8 v1) (1 : Int))) fun _ => if (gi_and (gi_shr t8 v1) (1 : Int)) = (1 : Int) then (some ((1 : Int), q5.2)) else (b_X12_isNullable_35 n   q5.2))
set_option maxRecDepth 100000 in
theorem z_X12_isNullable {al : Bool} {n : Nat} {v0 : Nat} {v1 : Int} {h : gi_H} {res : Int} {h1 : gi_H} (e : f_X12_isNullable n v0 v1 h = some (res, h1)) : gx_Cw mX12_isNullable al [.ref v0, .int (gI v1)] (gi_cv h) (.inl (some (.int (gI res)))) (gi_cv h1) := by
  refine gx_enter (by decide +kernel) rfl (Nat.le_of_ble_eq_true rfl) ?_
  show gx_Z mX12_isNullable al al 0 0 0 [(0, .ref v0), (1, .int (gI v1))] [] (gi_cv h) (.inl (some (.int (gI res)))) (gi_cv h1)
  refine gx_aload_n dX12_isNullable_0 rfl 0 rfl ?_
  refine gx_bE e (fun _ hu1 e => ?_)
  refine gx_bE e (fun q2 hq2 e => ?_)
  refine gx_callV (n := 0) (st := []) (As := []) (b := v0) dX12_isNullable_1 (z_X12_finds hq2) rfl ⟨rfl, gw_cw_X12_finds, gw_14, gp_X12_finds, ⟨Nat.le_of_ble_eq_true rfl, Nat.le_of_ble_eq_true rfl⟩⟩ (gi_isS hu1) (by decide) gw_1587 gw_1589 gs_72 rfl ⟨Nat.le_of_ble_eq_true rfl, Nat.le_of_ble_eq_true rfl⟩ (Nat.le_of_ble_eq_true rfl) (gy_k0 (kc2 := 0) (ks2 := 0) ⟨rfl, rfl⟩ ?_) gy_kn
  refine gx_aload_n dX12_isNullable_4 rfl 0 rfl ?_
  refine gx_iload_n dX12_isNullable_5 rfl 1 rfl ?_
  refine gy_bipush dX12_isNullable_6 gcb_16 ?_
  refine gx_bE e (fun q3 hq3 e => ?_)
  refine gx_callS (n := 2) (st := [.ref v0]) (As := [.int (gI v1), .int (gI (16 : Int))]) dX12_isNullable_8 (z_X12_isBelow hq3) rfl ⟨rfl, gw_cw_X12_isBelow, gw_14, gp_X12_isBelow, ⟨Nat.le_of_ble_eq_true rfl, Nat.le_of_ble_eq_true rfl⟩⟩ gw_1540 gw_1541 ⟨Nat.le_of_ble_eq_true rfl, Nat.le_of_ble_eq_true rfl⟩ (Nat.le_of_ble_eq_true rfl) (gy_k1 (x := .int (gI q3)) (kc2 := 0) (ks2 := 0) ⟨rfl, rfl⟩ ?_) gy_kn
  refine gy_iconst dX12_isNullable_11 ?_
  refine gy_iconst dX12_isNullable_12 ?_
  refine gx_bE e (fun _ hu4 e => ?_)
  refine gx_bE e (fun q5 hq5 e => ?_)
  refine gx_callV (n := 3) (st := []) (As := [.int (gI q3), .int (gI (1 : Int)), .int (gI (1 : Int))]) (b := v0) dX12_isNullable_13 (z_X12_goes hq5) rfl ⟨rfl, gw_cw_X12_goes, gw_14, gp_X12_goes, ⟨Nat.le_of_ble_eq_true rfl, Nat.le_of_ble_eq_true rfl⟩⟩ (gi_isS hu4) (by decide) gw_1480 gw_1482 gs_58 rfl ⟨Nat.le_of_ble_eq_true rfl, Nat.le_of_ble_eq_true rfl⟩ (Nat.le_of_ble_eq_true rfl) (gy_k1 (x := .int (gI q5.1)) (kc2 := 0) (ks2 := 0) ⟨rfl, rfl⟩ ?_) gy_kn
  refine gx_bE e (fun _ g6 e => ?_)
  refine gx_iE e (fun c7 e => ?_) (fun c7 e => ?_)
  · refine gy_if_eq (tgt := 35) (gi_rgS g6) dX12_isNullable_16 (by decide) (fun _ => ?_) (fun z => absurd c7 z)
    refine gx_sub (ls2 := []) [] rfl ?_
    exact zb_X12_isNullable_35  e
  · refine gy_if_eq (tgt := 35) (gi_rgS g6) dX12_isNullable_16 (by decide) (fun z => absurd z c7) (fun _ => ?_)
    refine gx_aload_n dX12_isNullable_19 rfl 0 rfl ?_
    refine gx_bE e (fun t8 ht8 e => ?_)
    refine gy_fI ht8 dX12_isNullable_20 gf_RX12_190_10_18 (by decide) gkN_10_18 gkR_10_18 ?_
    refine gx_iload_n dX12_isNullable_23 rfl 1 rfl ?_
    refine gy_ishr dX12_isNullable_24 ?_
    refine gy_iconst dX12_isNullable_25 ?_
    refine gy_iand dX12_isNullable_26 ?_
    refine gy_iconst dX12_isNullable_27 ?_
    refine gx_bE e (fun _ g9 e => ?_)
    refine gx_iE e (fun c10 e => ?_) (fun c10 e => ?_)
    · refine gy_icmp_ne (tgt := 35) (gi_rgS g9) (by decide) dX12_isNullable_28 (by decide) (fun z => absurd c10 z) (fun _ => ?_)
      refine gy_iconst dX12_isNullable_31 ?_
      refine gx_goto (tgt := 36) dX12_isNullable_32 (by decide) ?_
      cases e
      exact gx_zret (by decide +kernel) dX12_isNullable_36 rfl ⟨Nat.le_of_ble_eq_true rfl, Nat.le_of_ble_eq_true rfl⟩ (fun z => z)
    · refine gy_icmp_ne (tgt := 35) (gi_rgS g9) (by decide) dX12_isNullable_28 (by decide) (fun _ => ?_) (fun z => absurd z c10)
      refine gx_sub (ls2 := []) [] rfl ?_
      exact zb_X12_isNullable_35  e
/-! X3_firsts  -/
set_option maxRecDepth 100000 in
def f_X3_firsts (v0 : Nat) (v1 : Int) (h : gi_H) : Option (Int) :=
  Option.bind (gi_is h v0 2) fun _ => Option.bind (f_X3_beginOf v0 ((16 : Int) + v1) h) fun q2 => some (gi_and q2 (255 : Int))
set_option maxRecDepth 100000 in
theorem z_X3_firsts {al : Bool} {v0 : Nat} {v1 : Int} {h : gi_H} {res : Int} (e : f_X3_firsts v0 v1 h = some res) : gx_Cw mX3_firsts al [.ref v0, .int (gI v1)] (gi_cv h) (.inl (some (.int (gI res)))) (gi_cv h) := by
  refine gx_enter (by decide +kernel) rfl (Nat.le_of_ble_eq_true rfl) ?_
  show gx_Z mX3_firsts al al 0 0 0 [(0, .ref v0), (1, .int (gI v1))] [] (gi_cv h) (.inl (some (.int (gI res)))) (gi_cv h)
  refine gx_aload_n dX3_firsts_0 rfl 0 rfl ?_
  refine gy_bipush dX3_firsts_1 gcb_16 ?_
  refine gx_iload_n dX3_firsts_3 rfl 1 rfl ?_
  refine gy_iadd dX3_firsts_4 ?_
  refine gx_bE e (fun _ hu1 e => ?_)
  refine gx_bE e (fun q2 hq2 e => ?_)
  refine gx_callV (n := 1) (st := []) (As := [.int (gI ((16 : Int) + v1))]) (b := v0) dX3_firsts_5 (z_X3_beginOf hq2) rfl ⟨rfl, gw_cw_X3_beginOf, gw_6, gp_X3_beginOf, ⟨Nat.le_of_ble_eq_true rfl, Nat.le_of_ble_eq_true rfl⟩⟩ (gi_isS hu1) (by decide) gw_431 gw_433 gs_3 rfl ⟨Nat.le_of_ble_eq_true rfl, Nat.le_of_ble_eq_true rfl⟩ (Nat.le_of_ble_eq_true rfl) (gy_k1 (x := .int (gI q2)) (kc2 := 0) (ks2 := 0) ⟨rfl, rfl⟩ ?_) gy_kn
  refine gy_sipush dX3_firsts_8 gcs_255 ?_
  refine gy_iand dX3_firsts_11 ?_
  cases e
  exact gx_iret dX3_firsts_12 rfl ⟨Nat.le_of_ble_eq_true rfl, Nat.le_of_ble_eq_true rfl⟩ (fun z => z)
/-! X11_first  -/
set_option maxRecDepth 100000 in
def f_X11_first (n : Nat) (v0 : Nat) (v1 : Int) (h : gi_H) : Option ((Int ⊕ String) × gi_H) :=
  Option.bind (f_X11_requireNonterminal v1 h) fun q1 => gx_sm q1.1 (fun t2 => Option.bind (gi_gR q1.2 v0 9 8) fun t3 => Option.bind (gi_is q1.2 t3 2) fun _ => Option.bind (f_X3_learn n t3 q1.2) fun q5 => Option.bind (gi_gR q5 v0 9 8) fun t6 => Option.bind (gi_is q5 t6 2) fun _ => Option.bind (f_X3_firsts t6 v1 q5) fun q8 => some (.inl q8, q5)) (fun t2 => some (.inr t2, q1.2))
set_option maxRecDepth 100000 in
theorem z_X11_first {n : Nat} {v0 : Nat} {v1 : Int} {h : gi_H} {res : Int ⊕ String} {h1 : gi_H} (e : f_X11_first n v0 v1 h = some (res, h1)) : gx_Cw mX11_first false [.ref v0, .int (gI v1)] (gi_cv h) (gx_oI res) (gi_cv h1) := by
  refine gx_enter (by decide +kernel) rfl (Nat.le_of_ble_eq_true rfl) ?_
  show gx_Z mX11_first false false 0 0 0 [(0, .ref v0), (1, .int (gI v1))] [] (gi_cv h) (gx_oI res) (gi_cv h1)
  refine gx_iload_n dX11_first_0 rfl 1 rfl ?_
  refine gx_bE e (fun q1 hq1 e => ?_)
  refine gx_smE e (fun t2 ht2 e => ?_) (fun t2 ht2 e => ?_)
  · have zq1 := z_X11_requireNonterminal hq1
    rw [ht2] at zq1
    refine gx_callS (n := 1) (st := []) (As := [.int (gI v1)]) dX11_first_1 zq1 rfl ⟨rfl, gw_cw_X11_requireNonterminal, gw_1, gp_X11_requireNonterminal, ⟨Nat.le_of_ble_eq_true rfl, Nat.le_of_ble_eq_true rfl⟩⟩ gw_1114 gw_1115 ⟨Nat.le_of_ble_eq_true rfl, Nat.le_of_ble_eq_true rfl⟩ (Nat.le_of_ble_eq_true rfl) (gy_k0 (kc2 := 1) (ks2 := 6) ⟨rfl, rfl⟩ ?_) gy_kn
    refine gx_aload_n dX11_first_4 rfl 0 rfl ?_
    refine gx_bE e (fun t3 ht3 e => ?_)
    refine gy_fR ht3 dX11_first_5 gf_RX11_52_9_8 (by decide) gkN_9_8 gkR_9_8 ?_
    refine gx_bE e (fun _ hu4 e => ?_)
    refine gx_bE e (fun q5 hq5 e => ?_)
    refine gx_callV (n := 0) (st := []) (As := []) (b := t3) dX11_first_8 (z_X3_learn hq5) rfl ⟨rfl, gw_cw_X3_learn, gw_6, gp_X3_learn, ⟨Nat.le_of_ble_eq_true rfl, Nat.le_of_ble_eq_true rfl⟩⟩ (gi_isS hu4) (by decide) gw_404 gw_405 gw_406 rfl ⟨Nat.le_of_ble_eq_true rfl, Nat.le_of_ble_eq_true rfl⟩ (Nat.le_of_ble_eq_true rfl) (gy_k0 (kc2 := 1) (ks2 := 6) ⟨rfl, rfl⟩ ?_) gy_kn
    refine gx_aload_n dX11_first_11 rfl 0 rfl ?_
    refine gx_bE e (fun t6 ht6 e => ?_)
    refine gy_fR ht6 dX11_first_12 gf_RX11_52_9_8 (by decide) gkN_9_8 gkR_9_8 ?_
    refine gx_iload_n dX11_first_15 rfl 1 rfl ?_
    refine gx_bE e (fun _ hu7 e => ?_)
    refine gx_bE e (fun q8 hq8 e => ?_)
    refine gx_callV (n := 1) (st := []) (As := [.int (gI v1)]) (b := t6) dX11_first_16 (z_X3_firsts hq8) rfl ⟨rfl, gw_cw_X3_firsts, gw_6, gp_X3_firsts, ⟨Nat.le_of_ble_eq_true rfl, Nat.le_of_ble_eq_true rfl⟩⟩ (gi_isS hu7) (by decide) gw_1128 gw_1129 gw_1130 rfl ⟨Nat.le_of_ble_eq_true rfl, Nat.le_of_ble_eq_true rfl⟩ (Nat.le_of_ble_eq_true rfl) (gy_k1 (x := .int (gI q8)) (kc2 := 1) (ks2 := 6) ⟨rfl, rfl⟩ ?_) gy_kn
    cases e
    exact gx_iret dX11_first_19 rfl ⟨Nat.le_of_ble_eq_true rfl, Nat.le_of_ble_eq_true rfl⟩ (fun z => z)
  · have zq1 := z_X11_requireNonterminal hq1
    rw [ht2] at zq1
    refine gx_callS (n := 1) (st := []) (As := [.int (gI v1)]) dX11_first_1 zq1 rfl ⟨rfl, gw_cw_X11_requireNonterminal, gw_1, gp_X11_requireNonterminal, ⟨Nat.le_of_ble_eq_true rfl, Nat.le_of_ble_eq_true rfl⟩⟩ gw_1114 gw_1115 ⟨Nat.le_of_ble_eq_true rfl, Nat.le_of_ble_eq_true rfl⟩ (Nat.le_of_ble_eq_true rfl) gy_kN (gy_kE (kc2 := 1) (ks2 := 6) ⟨rfl, rfl⟩ ?_)
    cases e
    exact gx_out rfl ⟨Nat.le_of_ble_eq_true rfl, Nat.le_of_ble_eq_true rfl⟩ (fun z => z)
/-! L_first  -/
set_option maxRecDepth 100000 in
def f_L_first (n : Nat) (v0 : Nat) (v1 : Int) (v2 : Nat) (h : gi_H) : Option (Int × gi_H) :=
  Option.bind (gi_is h v0 9) fun _ => Option.bind (f_X11_first n v0 v1 h) fun q2 => gx_sm q2.1 (fun t3 => Option.bind (gi_rg t3) fun _ => Option.bind (gi_s2 q2.2 v2 (0 : Int) t3) fun h5 => some ((0 : Int), h5)) (fun t3 => if t3 = gx_IOB then (some ((1 : Int), q2.2)) else (none))
set_option maxRecDepth 100000 in
theorem z_L_first {n : Nat} {v0 : Nat} {v1 : Int} {v2 : Nat} {h : gi_H} {res : Int} {h1 : gi_H} (e : f_L_first n v0 v1 v2 h = some (res, h1)) : gx_Cw mL_first false [.ref v0, .int (gI v1), .ref v2] (gi_cv h) (.inl (some (.int (gI res)))) (gi_cv h1) := by
  refine gx_enter (by decide +kernel) rfl (Nat.le_of_ble_eq_true rfl) ?_
  show gx_Z mL_first false false 0 0 0 [(0, .ref v0), (1, .int (gI v1)), (2, .ref v2)] [] (gi_cv h) (.inl (some (.int (gI res)))) (gi_cv h1)
  refine gx_aload_n dL_first_0 rfl 2 rfl ?_
  refine gy_iconst dL_first_1 ?_
  refine gx_aload_n dL_first_2 rfl 0 rfl ?_
  refine gx_iload_n dL_first_3 rfl 1 rfl ?_
  refine gx_bE e (fun _ hu1 e => ?_)
  refine gx_bE e (fun q2 hq2 e => ?_)
  refine gx_smE e (fun t3 ht3 e => ?_) (fun t3 ht3 e => ?_)
  · have zq2 := z_X11_first hq2
    rw [ht3] at zq2
    refine gx_callV (n := 1) (st := [.int (gI (0 : Int)), .ref v2]) (As := [.int (gI v1)]) (b := v0) dL_first_4 zq2 rfl ⟨rfl, gw_cw_X11_first, gw_1, gp_X11_first, ⟨Nat.le_of_ble_eq_true rfl, Nat.le_of_ble_eq_true rfl⟩⟩ (gi_isS hu1) (by decide) gw_1124 gw_1125 gw_1126 rfl ⟨Nat.le_of_ble_eq_true rfl, Nat.le_of_ble_eq_true rfl⟩ (Nat.le_of_ble_eq_true rfl) (gy_k1 (x := .int (gI t3)) (kc2 := 1) (ks2 := 6) ⟨rfl, rfl⟩ ?_) gy_kn
    refine gx_bE e (fun _ g4 e => ?_)
    refine gy_i2l (gi_rgS g4) dL_first_7 ?_
    refine gx_bE e (fun h5 hh5 e => ?_)
    refine gy_t2 hh5 dL_first_8 ?_
    refine gx_goto (tgt := 15) dL_first_9 (by decide) ?_
    refine gy_iconst dL_first_15 ?_
    cases e
    exact gx_iret dL_first_16 rfl ⟨Nat.le_of_ble_eq_true rfl, Nat.le_of_ble_eq_true rfl⟩ (fun z => z)
  · have zq2 := z_X11_first hq2
    rw [ht3] at zq2
    refine gx_callV (n := 1) (st := [.int (gI (0 : Int)), .ref v2]) (As := [.int (gI v1)]) (b := v0) dL_first_4 zq2 rfl ⟨rfl, gw_cw_X11_first, gw_1, gp_X11_first, ⟨Nat.le_of_ble_eq_true rfl, Nat.le_of_ble_eq_true rfl⟩⟩ (gi_isS hu1) (by decide) gw_1124 gw_1125 gw_1126 rfl ⟨Nat.le_of_ble_eq_true rfl, Nat.le_of_ble_eq_true rfl⟩ (Nat.le_of_ble_eq_true rfl) gy_kN (gy_kE (kc2 := 1) (ks2 := 6) ⟨rfl, rfl⟩ ?_)
    refine gx_iE e (fun c6 e => ?_) (fun c6 e => ?_)
    · rw [c6]
      refine gx_catch (ls2 := [(0, .ref v0), (1, .int (gI v1)), (2, .ref v2)]) [] (x := (0, 9, 12, 28)) rfl (fun z hz => by cases hz) (by decide +kernel) (by decide) gw_1028 (by decide +kernel) (Nat.le_of_ble_eq_true rfl) (Or.inl ⟨3, rfl, rfl, dL_first_12⟩) rfl ?_
      refine gy_iconst dL_first_13 ?_
      cases e
      exact gx_iret dL_first_14 rfl ⟨Nat.le_of_ble_eq_true rfl, Nat.le_of_ble_eq_true rfl⟩ (fun z => z)
    cases e
/-! X12_first  -/
set_option maxRecDepth 100000 in
def f_X12_first (n : Nat) (v0 : Nat) (v1 : Int) (h : gi_H) : Option (Int × gi_H) :=
  Option.bind (gi_is h v0 10) fun _ => Option.bind (f_X12_finds n v0 h) fun q2 => Option.bind (f_X12_isBelow v1 (16 : Int) q2) fun q3 => Option.bind (gi_is q2 v0 10) fun _ => Option.bind (f_X12_goes v0 q3 (1 : Int) (1 : Int) q2) fun q5 => Option.bind (gi_rg q5.1) fun _ => if q5.1 = 0 then (some ((0 : Int), q5.2)) else (Option.bind (gi_gR q5.2 v0 10 19) fun t8 => Option.bind (gi_aI q5.2 1 t8 v1) fun t9 => some (t9, q5.2))
set_option maxRecDepth 100000 in
theorem z_X12_first {al : Bool} {n : Nat} {v0 : Nat} {v1 : Int} {h : gi_H} {res : Int} {h1 : gi_H} (e : f_X12_first n v0 v1 h = some (res, h1)) : gx_Cw mX12_first al [.ref v0, .int (gI v1)] (gi_cv h) (.inl (some (.int (gI res)))) (gi_cv h1) := by
  refine gx_enter (by decide +kernel) rfl (Nat.le_of_ble_eq_true rfl) ?_
  show gx_Z mX12_first al al 0 0 0 [(0, .ref v0), (1, .int (gI v1))] [] (gi_cv h) (.inl (some (.int (gI res)))) (gi_cv h1)
  refine gx_aload_n dX12_first_0 rfl 0 rfl ?_
  refine gx_bE e (fun _ hu1 e => ?_)
  refine gx_bE e (fun q2 hq2 e => ?_)
  refine gx_callV (n := 0) (st := []) (As := []) (b := v0) dX12_first_1 (z_X12_finds hq2) rfl ⟨rfl, gw_cw_X12_finds, gw_14, gp_X12_finds, ⟨Nat.le_of_ble_eq_true rfl, Nat.le_of_ble_eq_true rfl⟩⟩ (gi_isS hu1) (by decide) gw_1587 gw_1589 gs_72 rfl ⟨Nat.le_of_ble_eq_true rfl, Nat.le_of_ble_eq_true rfl⟩ (Nat.le_of_ble_eq_true rfl) (gy_k0 (kc2 := 0) (ks2 := 0) ⟨rfl, rfl⟩ ?_) gy_kn
  refine gx_aload_n dX12_first_4 rfl 0 rfl ?_
  refine gx_iload_n dX12_first_5 rfl 1 rfl ?_
  refine gy_bipush dX12_first_6 gcb_16 ?_
  refine gx_bE e (fun q3 hq3 e => ?_)
  refine gx_callS (n := 2) (st := [.ref v0]) (As := [.int (gI v1), .int (gI (16 : Int))]) dX12_first_8 (z_X12_isBelow hq3) rfl ⟨rfl, gw_cw_X12_isBelow, gw_14, gp_X12_isBelow, ⟨Nat.le_of_ble_eq_true rfl, Nat.le_of_ble_eq_true rfl⟩⟩ gw_1540 gw_1541 ⟨Nat.le_of_ble_eq_true rfl, Nat.le_of_ble_eq_true rfl⟩ (Nat.le_of_ble_eq_true rfl) (gy_k1 (x := .int (gI q3)) (kc2 := 0) (ks2 := 0) ⟨rfl, rfl⟩ ?_) gy_kn
  refine gy_iconst dX12_first_11 ?_
  refine gy_iconst dX12_first_12 ?_
  refine gx_bE e (fun _ hu4 e => ?_)
  refine gx_bE e (fun q5 hq5 e => ?_)
  refine gx_callV (n := 3) (st := []) (As := [.int (gI q3), .int (gI (1 : Int)), .int (gI (1 : Int))]) (b := v0) dX12_first_13 (z_X12_goes hq5) rfl ⟨rfl, gw_cw_X12_goes, gw_14, gp_X12_goes, ⟨Nat.le_of_ble_eq_true rfl, Nat.le_of_ble_eq_true rfl⟩⟩ (gi_isS hu4) (by decide) gw_1480 gw_1482 gs_58 rfl ⟨Nat.le_of_ble_eq_true rfl, Nat.le_of_ble_eq_true rfl⟩ (Nat.le_of_ble_eq_true rfl) (gy_k1 (x := .int (gI q5.1)) (kc2 := 0) (ks2 := 0) ⟨rfl, rfl⟩ ?_) gy_kn
  refine gx_bE e (fun _ g6 e => ?_)
  refine gx_iE e (fun c7 e => ?_) (fun c7 e => ?_)
  · refine gy_if_eq (tgt := 28) (gi_rgS g6) dX12_first_16 (by decide) (fun _ => ?_) (fun z => absurd c7 z)
    refine gy_iconst dX12_first_28 ?_
    cases e
    exact gx_iret dX12_first_29 rfl ⟨Nat.le_of_ble_eq_true rfl, Nat.le_of_ble_eq_true rfl⟩ (fun z => z)
  · refine gy_if_eq (tgt := 28) (gi_rgS g6) dX12_first_16 (by decide) (fun z => absurd z c7) (fun _ => ?_)
    refine gx_aload_n dX12_first_19 rfl 0 rfl ?_
    refine gx_bE e (fun t8 ht8 e => ?_)
    refine gy_fR ht8 dX12_first_20 gf_RX12_52_10_19 (by decide) gkN_10_19 gkR_10_19 ?_
    refine gx_iload_n dX12_first_23 rfl 1 rfl ?_
    refine gx_bE e (fun t9 ht9 e => ?_)
    refine gy_l1 ht9 dX12_first_24 ?_
    refine gx_goto (tgt := 29) dX12_first_25 (by decide) ?_
    cases e
    exact gx_iret dX12_first_29 rfl ⟨Nat.le_of_ble_eq_true rfl, Nat.le_of_ble_eq_true rfl⟩ (fun z => z)
/-! X11_follow  -/
set_option maxRecDepth 100000 in
def f_X11_follow (n : Nat) (v0 : Nat) (v1 : Int) (h : gi_H) : Option ((Int ⊕ String) × gi_H) :=
  Option.bind (f_X11_requireNonterminal v1 h) fun q1 => gx_sm q1.1 (fun t2 => Option.bind (gi_gR q1.2 v0 9 8) fun t3 => Option.bind (gi_is q1.2 t3 2) fun _ => Option.bind (f_X3_learn n t3 q1.2) fun q5 => Option.bind (gi_gR q5 v0 9 8) fun t6 => Option.bind (gi_is q5 t6 2) fun _ => Option.bind (f_X3_behind t6 v1 q5) fun q8 => some (.inl q8, q5)) (fun t2 => some (.inr t2, q1.2))
set_option maxRecDepth 100000 in
theorem z_X11_follow {n : Nat} {v0 : Nat} {v1 : Int} {h : gi_H} {res : Int ⊕ String} {h1 : gi_H} (e : f_X11_follow n v0 v1 h = some (res, h1)) : gx_Cw mX11_follow false [.ref v0, .int (gI v1)] (gi_cv h) (gx_oI res) (gi_cv h1) := by
  refine gx_enter (by decide +kernel) rfl (Nat.le_of_ble_eq_true rfl) ?_
  show gx_Z mX11_follow false false 0 0 0 [(0, .ref v0), (1, .int (gI v1))] [] (gi_cv h) (gx_oI res) (gi_cv h1)
  refine gx_iload_n dX11_follow_0 rfl 1 rfl ?_
  refine gx_bE e (fun q1 hq1 e => ?_)
  refine gx_smE e (fun t2 ht2 e => ?_) (fun t2 ht2 e => ?_)
  · have zq1 := z_X11_requireNonterminal hq1
    rw [ht2] at zq1
    refine gx_callS (n := 1) (st := []) (As := [.int (gI v1)]) dX11_follow_1 zq1 rfl ⟨rfl, gw_cw_X11_requireNonterminal, gw_1, gp_X11_requireNonterminal, ⟨Nat.le_of_ble_eq_true rfl, Nat.le_of_ble_eq_true rfl⟩⟩ gw_1114 gw_1115 ⟨Nat.le_of_ble_eq_true rfl, Nat.le_of_ble_eq_true rfl⟩ (Nat.le_of_ble_eq_true rfl) (gy_k0 (kc2 := 1) (ks2 := 6) ⟨rfl, rfl⟩ ?_) gy_kn
    refine gx_aload_n dX11_follow_4 rfl 0 rfl ?_
    refine gx_bE e (fun t3 ht3 e => ?_)
    refine gy_fR ht3 dX11_follow_5 gf_RX11_52_9_8 (by decide) gkN_9_8 gkR_9_8 ?_
    refine gx_bE e (fun _ hu4 e => ?_)
    refine gx_bE e (fun q5 hq5 e => ?_)
    refine gx_callV (n := 0) (st := []) (As := []) (b := t3) dX11_follow_8 (z_X3_learn hq5) rfl ⟨rfl, gw_cw_X3_learn, gw_6, gp_X3_learn, ⟨Nat.le_of_ble_eq_true rfl, Nat.le_of_ble_eq_true rfl⟩⟩ (gi_isS hu4) (by decide) gw_404 gw_405 gw_406 rfl ⟨Nat.le_of_ble_eq_true rfl, Nat.le_of_ble_eq_true rfl⟩ (Nat.le_of_ble_eq_true rfl) (gy_k0 (kc2 := 1) (ks2 := 6) ⟨rfl, rfl⟩ ?_) gy_kn
    refine gx_aload_n dX11_follow_11 rfl 0 rfl ?_
    refine gx_bE e (fun t6 ht6 e => ?_)
    refine gy_fR ht6 dX11_follow_12 gf_RX11_52_9_8 (by decide) gkN_9_8 gkR_9_8 ?_
    refine gx_iload_n dX11_follow_15 rfl 1 rfl ?_
    refine gx_bE e (fun _ hu7 e => ?_)
    refine gx_bE e (fun q8 hq8 e => ?_)
    refine gx_callV (n := 1) (st := []) (As := [.int (gI v1)]) (b := t6) dX11_follow_16 (z_X3_behind hq8) rfl ⟨rfl, gw_cw_X3_behind, gw_6, gp_X3_behind, ⟨Nat.le_of_ble_eq_true rfl, Nat.le_of_ble_eq_true rfl⟩⟩ (gi_isS hu7) (by decide) gw_1139 gw_454 gw_455 rfl ⟨Nat.le_of_ble_eq_true rfl, Nat.le_of_ble_eq_true rfl⟩ (Nat.le_of_ble_eq_true rfl) (gy_k1 (x := .int (gI q8)) (kc2 := 1) (ks2 := 6) ⟨rfl, rfl⟩ ?_) gy_kn
    cases e
    exact gx_iret dX11_follow_19 rfl ⟨Nat.le_of_ble_eq_true rfl, Nat.le_of_ble_eq_true rfl⟩ (fun z => z)
  · have zq1 := z_X11_requireNonterminal hq1
    rw [ht2] at zq1
    refine gx_callS (n := 1) (st := []) (As := [.int (gI v1)]) dX11_follow_1 zq1 rfl ⟨rfl, gw_cw_X11_requireNonterminal, gw_1, gp_X11_requireNonterminal, ⟨Nat.le_of_ble_eq_true rfl, Nat.le_of_ble_eq_true rfl⟩⟩ gw_1114 gw_1115 ⟨Nat.le_of_ble_eq_true rfl, Nat.le_of_ble_eq_true rfl⟩ (Nat.le_of_ble_eq_true rfl) gy_kN (gy_kE (kc2 := 1) (ks2 := 6) ⟨rfl, rfl⟩ ?_)
    cases e
    exact gx_out rfl ⟨Nat.le_of_ble_eq_true rfl, Nat.le_of_ble_eq_true rfl⟩ (fun z => z)
/-! L_follow  -/
set_option maxRecDepth 100000 in
def f_L_follow (n : Nat) (v0 : Nat) (v1 : Int) (v2 : Nat) (h : gi_H) : Option (Int × gi_H) :=
  Option.bind (gi_is h v0 9) fun _ => Option.bind (f_X11_follow n v0 v1 h) fun q2 => gx_sm q2.1 (fun t3 => Option.bind (gi_rg t3) fun _ => Option.bind (gi_s2 q2.2 v2 (0 : Int) t3) fun h5 => some ((0 : Int), h5)) (fun t3 => if t3 = gx_IOB then (some ((1 : Int), q2.2)) else (none))
set_option maxRecDepth 100000 in
theorem z_L_follow {n : Nat} {v0 : Nat} {v1 : Int} {v2 : Nat} {h : gi_H} {res : Int} {h1 : gi_H} (e : f_L_follow n v0 v1 v2 h = some (res, h1)) : gx_Cw mL_follow false [.ref v0, .int (gI v1), .ref v2] (gi_cv h) (.inl (some (.int (gI res)))) (gi_cv h1) := by
  refine gx_enter (by decide +kernel) rfl (Nat.le_of_ble_eq_true rfl) ?_
  show gx_Z mL_follow false false 0 0 0 [(0, .ref v0), (1, .int (gI v1)), (2, .ref v2)] [] (gi_cv h) (.inl (some (.int (gI res)))) (gi_cv h1)
  refine gx_aload_n dL_follow_0 rfl 2 rfl ?_
  refine gy_iconst dL_follow_1 ?_
  refine gx_aload_n dL_follow_2 rfl 0 rfl ?_
  refine gx_iload_n dL_follow_3 rfl 1 rfl ?_
  refine gx_bE e (fun _ hu1 e => ?_)
  refine gx_bE e (fun q2 hq2 e => ?_)
  refine gx_smE e (fun t3 ht3 e => ?_) (fun t3 ht3 e => ?_)
  · have zq2 := z_X11_follow hq2
    rw [ht3] at zq2
    refine gx_callV (n := 1) (st := [.int (gI (0 : Int)), .ref v2]) (As := [.int (gI v1)]) (b := v0) dL_follow_4 zq2 rfl ⟨rfl, gw_cw_X11_follow, gw_1, gp_X11_follow, ⟨Nat.le_of_ble_eq_true rfl, Nat.le_of_ble_eq_true rfl⟩⟩ (gi_isS hu1) (by decide) gw_1135 gw_1136 gw_1137 rfl ⟨Nat.le_of_ble_eq_true rfl, Nat.le_of_ble_eq_true rfl⟩ (Nat.le_of_ble_eq_true rfl) (gy_k1 (x := .int (gI t3)) (kc2 := 1) (ks2 := 6) ⟨rfl, rfl⟩ ?_) gy_kn
    refine gx_bE e (fun _ g4 e => ?_)
    refine gy_i2l (gi_rgS g4) dL_follow_7 ?_
    refine gx_bE e (fun h5 hh5 e => ?_)
    refine gy_t2 hh5 dL_follow_8 ?_
    refine gx_goto (tgt := 15) dL_follow_9 (by decide) ?_
    refine gy_iconst dL_follow_15 ?_
    cases e
    exact gx_iret dL_follow_16 rfl ⟨Nat.le_of_ble_eq_true rfl, Nat.le_of_ble_eq_true rfl⟩ (fun z => z)
  · have zq2 := z_X11_follow hq2
    rw [ht3] at zq2
    refine gx_callV (n := 1) (st := [.int (gI (0 : Int)), .ref v2]) (As := [.int (gI v1)]) (b := v0) dL_follow_4 zq2 rfl ⟨rfl, gw_cw_X11_follow, gw_1, gp_X11_follow, ⟨Nat.le_of_ble_eq_true rfl, Nat.le_of_ble_eq_true rfl⟩⟩ (gi_isS hu1) (by decide) gw_1135 gw_1136 gw_1137 rfl ⟨Nat.le_of_ble_eq_true rfl, Nat.le_of_ble_eq_true rfl⟩ (Nat.le_of_ble_eq_true rfl) gy_kN (gy_kE (kc2 := 1) (ks2 := 6) ⟨rfl, rfl⟩ ?_)
    refine gx_iE e (fun c6 e => ?_) (fun c6 e => ?_)
    · rw [c6]
      refine gx_catch (ls2 := [(0, .ref v0), (1, .int (gI v1)), (2, .ref v2)]) [] (x := (0, 9, 12, 28)) rfl (fun z hz => by cases hz) (by decide +kernel) (by decide) gw_1028 (by decide +kernel) (Nat.le_of_ble_eq_true rfl) (Or.inl ⟨3, rfl, rfl, dL_follow_12⟩) rfl ?_
      refine gy_iconst dL_follow_13 ?_
      cases e
      exact gx_iret dL_follow_14 rfl ⟨Nat.le_of_ble_eq_true rfl, Nat.le_of_ble_eq_true rfl⟩ (fun z => z)
    cases e
/-! X12_follow  -/
set_option maxRecDepth 100000 in
def f_X12_follow (n : Nat) (v0 : Nat) (v1 : Int) (h : gi_H) : Option (Int × gi_H) :=
  Option.bind (gi_is h v0 10) fun _ => Option.bind (f_X12_finds n v0 h) fun q2 => Option.bind (f_X12_isBelow v1 (16 : Int) q2) fun q3 => Option.bind (gi_is q2 v0 10) fun _ => Option.bind (f_X12_goes v0 q3 (1 : Int) (1 : Int) q2) fun q5 => Option.bind (gi_rg q5.1) fun _ => if q5.1 = 0 then (some ((0 : Int), q5.2)) else (Option.bind (gi_gR q5.2 v0 10 20) fun t8 => Option.bind (gi_aI q5.2 1 t8 v1) fun t9 => some (t9, q5.2))
set_option maxRecDepth 100000 in
theorem z_X12_follow {al : Bool} {n : Nat} {v0 : Nat} {v1 : Int} {h : gi_H} {res : Int} {h1 : gi_H} (e : f_X12_follow n v0 v1 h = some (res, h1)) : gx_Cw mX12_follow al [.ref v0, .int (gI v1)] (gi_cv h) (.inl (some (.int (gI res)))) (gi_cv h1) := by
  refine gx_enter (by decide +kernel) rfl (Nat.le_of_ble_eq_true rfl) ?_
  show gx_Z mX12_follow al al 0 0 0 [(0, .ref v0), (1, .int (gI v1))] [] (gi_cv h) (.inl (some (.int (gI res)))) (gi_cv h1)
  refine gx_aload_n dX12_follow_0 rfl 0 rfl ?_
  refine gx_bE e (fun _ hu1 e => ?_)
  refine gx_bE e (fun q2 hq2 e => ?_)
  refine gx_callV (n := 0) (st := []) (As := []) (b := v0) dX12_follow_1 (z_X12_finds hq2) rfl ⟨rfl, gw_cw_X12_finds, gw_14, gp_X12_finds, ⟨Nat.le_of_ble_eq_true rfl, Nat.le_of_ble_eq_true rfl⟩⟩ (gi_isS hu1) (by decide) gw_1587 gw_1589 gs_72 rfl ⟨Nat.le_of_ble_eq_true rfl, Nat.le_of_ble_eq_true rfl⟩ (Nat.le_of_ble_eq_true rfl) (gy_k0 (kc2 := 0) (ks2 := 0) ⟨rfl, rfl⟩ ?_) gy_kn
  refine gx_aload_n dX12_follow_4 rfl 0 rfl ?_
  refine gx_iload_n dX12_follow_5 rfl 1 rfl ?_
  refine gy_bipush dX12_follow_6 gcb_16 ?_
  refine gx_bE e (fun q3 hq3 e => ?_)
  refine gx_callS (n := 2) (st := [.ref v0]) (As := [.int (gI v1), .int (gI (16 : Int))]) dX12_follow_8 (z_X12_isBelow hq3) rfl ⟨rfl, gw_cw_X12_isBelow, gw_14, gp_X12_isBelow, ⟨Nat.le_of_ble_eq_true rfl, Nat.le_of_ble_eq_true rfl⟩⟩ gw_1540 gw_1541 ⟨Nat.le_of_ble_eq_true rfl, Nat.le_of_ble_eq_true rfl⟩ (Nat.le_of_ble_eq_true rfl) (gy_k1 (x := .int (gI q3)) (kc2 := 0) (ks2 := 0) ⟨rfl, rfl⟩ ?_) gy_kn
  refine gy_iconst dX12_follow_11 ?_
  refine gy_iconst dX12_follow_12 ?_
  refine gx_bE e (fun _ hu4 e => ?_)
  refine gx_bE e (fun q5 hq5 e => ?_)
  refine gx_callV (n := 3) (st := []) (As := [.int (gI q3), .int (gI (1 : Int)), .int (gI (1 : Int))]) (b := v0) dX12_follow_13 (z_X12_goes hq5) rfl ⟨rfl, gw_cw_X12_goes, gw_14, gp_X12_goes, ⟨Nat.le_of_ble_eq_true rfl, Nat.le_of_ble_eq_true rfl⟩⟩ (gi_isS hu4) (by decide) gw_1480 gw_1482 gs_58 rfl ⟨Nat.le_of_ble_eq_true rfl, Nat.le_of_ble_eq_true rfl⟩ (Nat.le_of_ble_eq_true rfl) (gy_k1 (x := .int (gI q5.1)) (kc2 := 0) (ks2 := 0) ⟨rfl, rfl⟩ ?_) gy_kn
  refine gx_bE e (fun _ g6 e => ?_)
  refine gx_iE e (fun c7 e => ?_) (fun c7 e => ?_)
  · refine gy_if_eq (tgt := 28) (gi_rgS g6) dX12_follow_16 (by decide) (fun _ => ?_) (fun z => absurd c7 z)
    refine gy_iconst dX12_follow_28 ?_
    cases e
    exact gx_iret dX12_follow_29 rfl ⟨Nat.le_of_ble_eq_true rfl, Nat.le_of_ble_eq_true rfl⟩ (fun z => z)
  · refine gy_if_eq (tgt := 28) (gi_rgS g6) dX12_follow_16 (by decide) (fun z => absurd z c7) (fun _ => ?_)
    refine gx_aload_n dX12_follow_19 rfl 0 rfl ?_
    refine gx_bE e (fun t8 ht8 e => ?_)
    refine gy_fR ht8 dX12_follow_20 gf_RX12_55_10_20 (by decide) gkN_10_20 gkR_10_20 ?_
    refine gx_iload_n dX12_follow_23 rfl 1 rfl ?_
    refine gx_bE e (fun t9 ht9 e => ?_)
    refine gy_l1 ht9 dX12_follow_24 ?_
    refine gx_goto (tgt := 29) dX12_follow_25 (by decide) ?_
    cases e
    exact gx_iret dX12_follow_29 rfl ⟨Nat.le_of_ble_eq_true rfl, Nat.le_of_ble_eq_true rfl⟩ (fun z => z)
/-! X3_least  -/
set_option maxRecDepth 100000 in
def f_X3_least (v0 : Nat) (v1 : Int) (h : gi_H) : Option (Int) :=
  Option.bind (gi_is h v0 2) fun _ => Option.bind (f_X3_leastOf v0 ((16 : Int) + v1) h) fun q2 => some q2
set_option maxRecDepth 100000 in
theorem z_X3_least {al : Bool} {v0 : Nat} {v1 : Int} {h : gi_H} {res : Int} (e : f_X3_least v0 v1 h = some res) : gx_Cw mX3_least al [.ref v0, .int (gI v1)] (gi_cv h) (.inl (some (.int (gI res)))) (gi_cv h) := by
  refine gx_enter (by decide +kernel) rfl (Nat.le_of_ble_eq_true rfl) ?_
  show gx_Z mX3_least al al 0 0 0 [(0, .ref v0), (1, .int (gI v1))] [] (gi_cv h) (.inl (some (.int (gI res)))) (gi_cv h)
  refine gx_aload_n dX3_least_0 rfl 0 rfl ?_
  refine gy_bipush dX3_least_1 gcb_16 ?_
  refine gx_iload_n dX3_least_3 rfl 1 rfl ?_
  refine gy_iadd dX3_least_4 ?_
  refine gx_bE e (fun _ hu1 e => ?_)
  refine gx_bE e (fun q2 hq2 e => ?_)
  refine gx_callV (n := 1) (st := []) (As := [.int (gI ((16 : Int) + v1))]) (b := v0) dX3_least_5 (z_X3_leastOf hq2) rfl ⟨rfl, gw_cw_X3_leastOf, gw_6, gp_X3_leastOf, ⟨Nat.le_of_ble_eq_true rfl, Nat.le_of_ble_eq_true rfl⟩⟩ (gi_isS hu1) (by decide) gw_495 gw_497 gs_14 rfl ⟨Nat.le_of_ble_eq_true rfl, Nat.le_of_ble_eq_true rfl⟩ (Nat.le_of_ble_eq_true rfl) (gy_k1 (x := .int (gI q2)) (kc2 := 0) (ks2 := 0) ⟨rfl, rfl⟩ ?_) gy_kn
  cases e
  exact gx_iret dX3_least_8 rfl ⟨Nat.le_of_ble_eq_true rfl, Nat.le_of_ble_eq_true rfl⟩ (fun z => z)
/-! X3_isProductive  -/
set_option maxRecDepth 100000 in
def f_X3_isProductive (v0 : Nat) (v1 : Int) (h : gi_H) : Option (Int) :=
  Option.bind (gi_is h v0 2) fun _ => Option.bind (f_X3_least v0 v1 h) fun q2 => Option.bind (gi_rg q2) fun _ => if q2 = (-1 : Int) then (some (0 : Int)) else (some (1 : Int))
set_option maxRecDepth 100000 in
theorem z_X3_isProductive {al : Bool} {v0 : Nat} {v1 : Int} {h : gi_H} {res : Int} (e : f_X3_isProductive v0 v1 h = some res) : gx_Cw mX3_isProductive al [.ref v0, .int (gI v1)] (gi_cv h) (.inl (some (.int (gI res)))) (gi_cv h) := by
  refine gx_enter (by decide +kernel) rfl (Nat.le_of_ble_eq_true rfl) ?_
  show gx_Z mX3_isProductive al al 0 0 0 [(0, .ref v0), (1, .int (gI v1))] [] (gi_cv h) (.inl (some (.int (gI res)))) (gi_cv h)
  refine gx_aload_n dX3_isProductive_0 rfl 0 rfl ?_
  refine gx_iload_n dX3_isProductive_1 rfl 1 rfl ?_
  refine gx_bE e (fun _ hu1 e => ?_)
  refine gx_bE e (fun q2 hq2 e => ?_)
  refine gx_callV (n := 1) (st := []) (As := [.int (gI v1)]) (b := v0) dX3_isProductive_2 (z_X3_least hq2) rfl ⟨rfl, gw_cw_X3_least, gw_6, gp_X3_least, ⟨Nat.le_of_ble_eq_true rfl, Nat.le_of_ble_eq_true rfl⟩⟩ (gi_isS hu1) (by decide) gw_829 gw_830 gw_831 rfl ⟨Nat.le_of_ble_eq_true rfl, Nat.le_of_ble_eq_true rfl⟩ (Nat.le_of_ble_eq_true rfl) (gy_k1 (x := .int (gI q2)) (kc2 := 0) (ks2 := 0) ⟨rfl, rfl⟩ ?_) gy_kn
  refine gy_iconst dX3_isProductive_5 ?_
  refine gx_bE e (fun _ g3 e => ?_)
  refine gx_iE e (fun c4 e => ?_) (fun c4 e => ?_)
  · refine gy_icmp_eq (tgt := 13) (gi_rgS g3) (by decide) dX3_isProductive_6 (by decide) (fun _ => ?_) (fun z => absurd c4 z)
    refine gy_iconst dX3_isProductive_13 ?_
    cases e
    exact gx_zret (by decide +kernel) dX3_isProductive_14 rfl ⟨Nat.le_of_ble_eq_true rfl, Nat.le_of_ble_eq_true rfl⟩ (fun z => z)
  · refine gy_icmp_eq (tgt := 13) (gi_rgS g3) (by decide) dX3_isProductive_6 (by decide) (fun z => absurd z c4) (fun _ => ?_)
    refine gy_iconst dX3_isProductive_9 ?_
    refine gx_goto (tgt := 14) dX3_isProductive_10 (by decide) ?_
    cases e
    exact gx_zret (by decide +kernel) dX3_isProductive_14 rfl ⟨Nat.le_of_ble_eq_true rfl, Nat.le_of_ble_eq_true rfl⟩ (fun z => z)
/-! X3_isReached  -/
set_option maxRecDepth 100000 in
def f_X3_isReached (v0 : Nat) (v1 : Int) (h : gi_H) : Option (Int) :=
  Option.bind (gi_gI h v0 2 2) fun t1 => Option.bind (f_X11_has t1 v1 h) fun q2 => Option.bind (gi_zo q2) fun _ => some q2
set_option maxRecDepth 100000 in
theorem z_X3_isReached {al : Bool} {v0 : Nat} {v1 : Int} {h : gi_H} {res : Int} (e : f_X3_isReached v0 v1 h = some res) : gx_Cw mX3_isReached al [.ref v0, .int (gI v1)] (gi_cv h) (.inl (some (.int (gI res)))) (gi_cv h) := by
  refine gx_enter (by decide +kernel) rfl (Nat.le_of_ble_eq_true rfl) ?_
  show gx_Z mX3_isReached al al 0 0 0 [(0, .ref v0), (1, .int (gI v1))] [] (gi_cv h) (.inl (some (.int (gI res)))) (gi_cv h)
  refine gx_aload_n dX3_isReached_0 rfl 0 rfl ?_
  refine gx_bE e (fun t1 ht1 e => ?_)
  refine gy_fI ht1 dX3_isReached_1 gf_RX3_79_2_2 (by decide) gkN_2_2 gkR_2_2 ?_
  refine gx_iload_n dX3_isReached_4 rfl 1 rfl ?_
  refine gx_bE e (fun q2 hq2 e => ?_)
  refine gx_callSN (n := 2) (st := []) (As := [.int (gI t1), .int (gI v1)]) dX3_isReached_5 (z_X11_has hq2) rfl ⟨rfl, gw_cw_X11_has, gw_1, gp_X11_has, ⟨Nat.le_of_ble_eq_true rfl, Nat.le_of_ble_eq_true rfl⟩⟩ (host := "Grammarsmith") (by decide +kernel) gw_473 ⟨Nat.le_of_ble_eq_true rfl, Nat.le_of_ble_eq_true rfl⟩ (Nat.le_of_ble_eq_true rfl) (gy_k1 (x := .int (gI q2)) (kc2 := 0) (ks2 := 0) ⟨rfl, rfl⟩ ?_) gy_kn
  refine gx_bE e (fun _ hu3 e => ?_)
  cases e
  exact gx_zret (gi_zoS hu3) dX3_isReached_8 rfl ⟨Nat.le_of_ble_eq_true rfl, Nat.le_of_ble_eq_true rfl⟩ (fun z => z)
/-! X11_uses  -/
set_option maxRecDepth 100000 in
def b_X11_uses_43 (n : Nat)   (s0 : Int) (s1 : Int) (h : gi_H) : Option ((Int ⊕ String) × gi_H) :=
  some (.inl (s0 + s1), h)
set_option maxRecDepth 100000 in
theorem zb_X11_uses_43 {n : Nat}  {res : Int ⊕ String} {h1 : gi_H}   {s0 : Int} {s1 : Int} {h : gi_H} (e : b_X11_uses_43 n s0 s1 h = some (res, h1)) : gx_Z mX11_uses false false 1 6 43 [] [.int (gI s1), .int (gI s0)] (gi_cv h) (gx_oI res) (gi_cv h1) := by
  refine gy_iadd dX11_uses_43 ?_
  cases e
  exact gx_iret dX11_uses_44 rfl ⟨Nat.le_of_ble_eq_true rfl, Nat.le_of_ble_eq_true rfl⟩ (fun z => z)
set_option maxRecDepth 100000 in
def b_X11_uses_27 (n : Nat)  (v0 : Nat) (v1 : Int) (s0 : Int) (h : gi_H) : Option ((Int ⊕ String) × gi_H) :=
  Option.bind (gi_gR h v0 9 8) fun t11 => Option.bind (gi_is h t11 2) fun _ => Option.bind (f_X3_isReached t11 v1 h) fun q13 => Option.bind (gi_rg q13) fun _ => if q13 = 0 then (b_X11_uses_43 n  s0 (0 : Int) h) else (b_X11_uses_43 n  s0 (2 : Int) h)
set_option maxRecDepth 100000 in
theorem zb_X11_uses_27 {n : Nat}  {res : Int ⊕ String} {h1 : gi_H}  {v0 : Nat} {v1 : Int} {s0 : Int} {h : gi_H} (e : b_X11_uses_27 n v0 v1 s0 h = some (res, h1)) : gx_Z mX11_uses false false 1 6 27 [(0, .ref v0), (1, .int (gI v1))] [.int (gI s0)] (gi_cv h) (gx_oI res) (gi_cv h1) := by
  refine gx_aload_n dX11_uses_27 rfl 0 rfl ?_
  refine gx_bE e (fun t11 ht11 e => ?_)
  refine gy_fR ht11 dX11_uses_28 gf_RX11_52_9_8 (by decide) gkN_9_8 gkR_9_8 ?_
  refine gx_iload_n dX11_uses_31 rfl 1 rfl ?_
  refine gx_bE e (fun _ hu12 e => ?_)
  refine gx_bE e (fun q13 hq13 e => ?_)
  refine gx_callV (n := 1) (st := [.int (gI s0)]) (As := [.int (gI v1)]) (b := t11) dX11_uses_32 (z_X3_isReached hq13) rfl ⟨rfl, gw_cw_X3_isReached, gw_6, gp_X3_isReached, ⟨Nat.le_of_ble_eq_true rfl, Nat.le_of_ble_eq_true rfl⟩⟩ (gi_isS hu12) (by decide) gw_1147 gw_1148 gw_1149 rfl ⟨Nat.le_of_ble_eq_true rfl, Nat.le_of_ble_eq_true rfl⟩ (Nat.le_of_ble_eq_true rfl) (gy_k1 (x := .int (gI q13)) (kc2 := 1) (ks2 := 6) ⟨rfl, rfl⟩ ?_) gy_kn
  refine gx_bE e (fun _ g14 e => ?_)
  refine gx_iE e (fun c15 e => ?_) (fun c15 e => ?_)
  · refine gy_if_eq (tgt := 42) (gi_rgS g14) dX11_uses_35 (by decide) (fun _ => ?_) (fun z => absurd c15 z)
    refine gy_iconst dX11_uses_42 ?_
    refine gx_sub (ls2 := []) [] rfl ?_
    exact zb_X11_uses_43  e
  · refine gy_if_eq (tgt := 42) (gi_rgS g14) dX11_uses_35 (by decide) (fun z => absurd z c15) (fun _ => ?_)
    refine gy_iconst dX11_uses_38 ?_
    refine gx_goto (tgt := 43) dX11_uses_39 (by decide) ?_
    refine gx_sub (ls2 := []) [] rfl ?_
    exact zb_X11_uses_43  e
set_option maxRecDepth 100000 in
def f_X11_uses (n : Nat) (v0 : Nat) (v1 : Int) (h : gi_H) : Option ((Int ⊕ String) × gi_H) :=
  Option.bind (f_X11_requireNonterminal v1 h) fun q1 => gx_sm q1.1 (fun t2 => Option.bind (gi_gR q1.2 v0 9 8) fun t3 => Option.bind (gi_is q1.2 t3 2) fun _ => Option.bind (f_X3_learn n t3 q1.2) fun q5 => Option.bind (gi_gR q5 v0 9 8) fun t6 => Option.bind (gi_is q5 t6 2) fun _ => Option.bind (f_X3_isProductive t6 v1 q5) fun q8 => Option.bind (gi_rg q8) fun _ => if q8 = 0 then (b_X11_uses_27 n  v0 v1 (0 : Int) q5) else (b_X11_uses_27 n  v0 v1 (1 : Int) q5)) (fun t2 => some (.inr t2, q1.2))
set_option maxRecDepth 100000 in
theorem z_X11_uses {n : Nat} {v0 : Nat} {v1 : Int} {h : gi_H} {res : Int ⊕ String} {h1 : gi_H} (e : f_X11_uses n v0 v1 h = some (res, h1)) : gx_Cw mX11_uses false [.ref v0, .int (gI v1)] (gi_cv h) (gx_oI res) (gi_cv h1) := by
  refine gx_enter (by decide +kernel) rfl (Nat.le_of_ble_eq_true rfl) ?_
  show gx_Z mX11_uses false false 0 0 0 [(0, .ref v0), (1, .int (gI v1))] [] (gi_cv h) (gx_oI res) (gi_cv h1)
  refine gx_iload_n dX11_uses_0 rfl 1 rfl ?_
  refine gx_bE e (fun q1 hq1 e => ?_)
  refine gx_smE e (fun t2 ht2 e => ?_) (fun t2 ht2 e => ?_)
  · have zq1 := z_X11_requireNonterminal hq1
    rw [ht2] at zq1
    refine gx_callS (n := 1) (st := []) (As := [.int (gI v1)]) dX11_uses_1 zq1 rfl ⟨rfl, gw_cw_X11_requireNonterminal, gw_1, gp_X11_requireNonterminal, ⟨Nat.le_of_ble_eq_true rfl, Nat.le_of_ble_eq_true rfl⟩⟩ gw_1114 gw_1115 ⟨Nat.le_of_ble_eq_true rfl, Nat.le_of_ble_eq_true rfl⟩ (Nat.le_of_ble_eq_true rfl) (gy_k0 (kc2 := 1) (ks2 := 6) ⟨rfl, rfl⟩ ?_) gy_kn
    refine gx_aload_n dX11_uses_4 rfl 0 rfl ?_
    refine gx_bE e (fun t3 ht3 e => ?_)
    refine gy_fR ht3 dX11_uses_5 gf_RX11_52_9_8 (by decide) gkN_9_8 gkR_9_8 ?_
    refine gx_bE e (fun _ hu4 e => ?_)
    refine gx_bE e (fun q5 hq5 e => ?_)
    refine gx_callV (n := 0) (st := []) (As := []) (b := t3) dX11_uses_8 (z_X3_learn hq5) rfl ⟨rfl, gw_cw_X3_learn, gw_6, gp_X3_learn, ⟨Nat.le_of_ble_eq_true rfl, Nat.le_of_ble_eq_true rfl⟩⟩ (gi_isS hu4) (by decide) gw_404 gw_405 gw_406 rfl ⟨Nat.le_of_ble_eq_true rfl, Nat.le_of_ble_eq_true rfl⟩ (Nat.le_of_ble_eq_true rfl) (gy_k0 (kc2 := 1) (ks2 := 6) ⟨rfl, rfl⟩ ?_) gy_kn
    refine gx_aload_n dX11_uses_11 rfl 0 rfl ?_
    refine gx_bE e (fun t6 ht6 e => ?_)
    refine gy_fR ht6 dX11_uses_12 gf_RX11_52_9_8 (by decide) gkN_9_8 gkR_9_8 ?_
    refine gx_iload_n dX11_uses_15 rfl 1 rfl ?_
    refine gx_bE e (fun _ hu7 e => ?_)
    refine gx_bE e (fun q8 hq8 e => ?_)
    refine gx_callV (n := 1) (st := []) (As := [.int (gI v1)]) (b := t6) dX11_uses_16 (z_X3_isProductive hq8) rfl ⟨rfl, gw_cw_X3_isProductive, gw_6, gp_X3_isProductive, ⟨Nat.le_of_ble_eq_true rfl, Nat.le_of_ble_eq_true rfl⟩⟩ (gi_isS hu7) (by decide) gw_825 gw_826 gw_827 rfl ⟨Nat.le_of_ble_eq_true rfl, Nat.le_of_ble_eq_true rfl⟩ (Nat.le_of_ble_eq_true rfl) (gy_k1 (x := .int (gI q8)) (kc2 := 1) (ks2 := 6) ⟨rfl, rfl⟩ ?_) gy_kn
    refine gx_bE e (fun _ g9 e => ?_)
    refine gx_iE e (fun c10 e => ?_) (fun c10 e => ?_)
    · refine gy_if_eq (tgt := 26) (gi_rgS g9) dX11_uses_19 (by decide) (fun _ => ?_) (fun z => absurd c10 z)
      refine gy_iconst dX11_uses_26 ?_
      exact zb_X11_uses_27  e
    · refine gy_if_eq (tgt := 26) (gi_rgS g9) dX11_uses_19 (by decide) (fun z => absurd z c10) (fun _ => ?_)
      refine gy_iconst dX11_uses_22 ?_
      refine gx_goto (tgt := 27) dX11_uses_23 (by decide) ?_
      exact zb_X11_uses_27  e
  · have zq1 := z_X11_requireNonterminal hq1
    rw [ht2] at zq1
    refine gx_callS (n := 1) (st := []) (As := [.int (gI v1)]) dX11_uses_1 zq1 rfl ⟨rfl, gw_cw_X11_requireNonterminal, gw_1, gp_X11_requireNonterminal, ⟨Nat.le_of_ble_eq_true rfl, Nat.le_of_ble_eq_true rfl⟩⟩ gw_1114 gw_1115 ⟨Nat.le_of_ble_eq_true rfl, Nat.le_of_ble_eq_true rfl⟩ (Nat.le_of_ble_eq_true rfl) gy_kN (gy_kE (kc2 := 1) (ks2 := 6) ⟨rfl, rfl⟩ ?_)
    cases e
    exact gx_out rfl ⟨Nat.le_of_ble_eq_true rfl, Nat.le_of_ble_eq_true rfl⟩ (fun z => z)
/-! L_uses  -/
set_option maxRecDepth 100000 in
def f_L_uses (n : Nat) (v0 : Nat) (v1 : Int) (v2 : Nat) (h : gi_H) : Option (Int × gi_H) :=
  Option.bind (gi_is h v0 9) fun _ => Option.bind (f_X11_uses n v0 v1 h) fun q2 => gx_sm q2.1 (fun t3 => Option.bind (gi_rg t3) fun _ => Option.bind (gi_s2 q2.2 v2 (0 : Int) t3) fun h5 => some ((0 : Int), h5)) (fun t3 => if t3 = gx_IOB then (some ((1 : Int), q2.2)) else (none))
set_option maxRecDepth 100000 in
theorem z_L_uses {n : Nat} {v0 : Nat} {v1 : Int} {v2 : Nat} {h : gi_H} {res : Int} {h1 : gi_H} (e : f_L_uses n v0 v1 v2 h = some (res, h1)) : gx_Cw mL_uses false [.ref v0, .int (gI v1), .ref v2] (gi_cv h) (.inl (some (.int (gI res)))) (gi_cv h1) := by
  refine gx_enter (by decide +kernel) rfl (Nat.le_of_ble_eq_true rfl) ?_
  show gx_Z mL_uses false false 0 0 0 [(0, .ref v0), (1, .int (gI v1)), (2, .ref v2)] [] (gi_cv h) (.inl (some (.int (gI res)))) (gi_cv h1)
  refine gx_aload_n dL_uses_0 rfl 2 rfl ?_
  refine gy_iconst dL_uses_1 ?_
  refine gx_aload_n dL_uses_2 rfl 0 rfl ?_
  refine gx_iload_n dL_uses_3 rfl 1 rfl ?_
  refine gx_bE e (fun _ hu1 e => ?_)
  refine gx_bE e (fun q2 hq2 e => ?_)
  refine gx_smE e (fun t3 ht3 e => ?_) (fun t3 ht3 e => ?_)
  · have zq2 := z_X11_uses hq2
    rw [ht3] at zq2
    refine gx_callV (n := 1) (st := [.int (gI (0 : Int)), .ref v2]) (As := [.int (gI v1)]) (b := v0) dL_uses_4 zq2 rfl ⟨rfl, gw_cw_X11_uses, gw_1, gp_X11_uses, ⟨Nat.le_of_ble_eq_true rfl, Nat.le_of_ble_eq_true rfl⟩⟩ (gi_isS hu1) (by decide) gw_1143 gw_1144 gw_1145 rfl ⟨Nat.le_of_ble_eq_true rfl, Nat.le_of_ble_eq_true rfl⟩ (Nat.le_of_ble_eq_true rfl) (gy_k1 (x := .int (gI t3)) (kc2 := 1) (ks2 := 6) ⟨rfl, rfl⟩ ?_) gy_kn
    refine gx_bE e (fun _ g4 e => ?_)
    refine gy_i2l (gi_rgS g4) dL_uses_7 ?_
    refine gx_bE e (fun h5 hh5 e => ?_)
    refine gy_t2 hh5 dL_uses_8 ?_
    refine gx_goto (tgt := 15) dL_uses_9 (by decide) ?_
    refine gy_iconst dL_uses_15 ?_
    cases e
    exact gx_iret dL_uses_16 rfl ⟨Nat.le_of_ble_eq_true rfl, Nat.le_of_ble_eq_true rfl⟩ (fun z => z)
  · have zq2 := z_X11_uses hq2
    rw [ht3] at zq2
    refine gx_callV (n := 1) (st := [.int (gI (0 : Int)), .ref v2]) (As := [.int (gI v1)]) (b := v0) dL_uses_4 zq2 rfl ⟨rfl, gw_cw_X11_uses, gw_1, gp_X11_uses, ⟨Nat.le_of_ble_eq_true rfl, Nat.le_of_ble_eq_true rfl⟩⟩ (gi_isS hu1) (by decide) gw_1143 gw_1144 gw_1145 rfl ⟨Nat.le_of_ble_eq_true rfl, Nat.le_of_ble_eq_true rfl⟩ (Nat.le_of_ble_eq_true rfl) gy_kN (gy_kE (kc2 := 1) (ks2 := 6) ⟨rfl, rfl⟩ ?_)
    refine gx_iE e (fun c6 e => ?_) (fun c6 e => ?_)
    · rw [c6]
      refine gx_catch (ls2 := [(0, .ref v0), (1, .int (gI v1)), (2, .ref v2)]) [] (x := (0, 9, 12, 28)) rfl (fun z hz => by cases hz) (by decide +kernel) (by decide) gw_1028 (by decide +kernel) (Nat.le_of_ble_eq_true rfl) (Or.inl ⟨3, rfl, rfl, dL_uses_12⟩) rfl ?_
      refine gy_iconst dL_uses_13 ?_
      cases e
      exact gx_iret dL_uses_14 rfl ⟨Nat.le_of_ble_eq_true rfl, Nat.le_of_ble_eq_true rfl⟩ (fun z => z)
    cases e
/-! X12_uses  -/
set_option maxRecDepth 100000 in
def b_X12_uses_165 (n : Nat)   (s0 : Int) (s1 : Int) (h : gi_H) : Option (Int × gi_H) :=
  some ((s0 + s1), h)
set_option maxRecDepth 100000 in
theorem zb_X12_uses_165 {al : Bool} {n : Nat}  {res : Int} {h1 : gi_H}   {s0 : Int} {s1 : Int} {h : gi_H} (e : b_X12_uses_165 n s0 s1 h = some (res, h1)) : gx_Z mX12_uses al al 0 0 165 [] [.int (gI s1), .int (gI s0)] (gi_cv h) (.inl (some (.int (gI res)))) (gi_cv h1) := by
  refine gy_iadd dX12_uses_165 ?_
  cases e
  exact gx_iret dX12_uses_166 rfl ⟨Nat.le_of_ble_eq_true rfl, Nat.le_of_ble_eq_true rfl⟩ (fun z => z)
set_option maxRecDepth 100000 in
def b_X12_uses_151 (n : Nat)  (v1 : Int) (v2 : Int) (s0 : Int) (h : gi_H) : Option (Int × gi_H) :=
  Option.bind (gi_rg (gi_and (gi_shr v2 v1) (1 : Int))) fun _ => if (gi_and (gi_shr v2 v1) (1 : Int)) = (1 : Int) then (b_X12_uses_165 n  s0 (2 : Int) h) else (b_X12_uses_165 n  s0 (0 : Int) h)
set_option maxRecDepth 100000 in
theorem zb_X12_uses_151 {al : Bool} {n : Nat}  {res : Int} {h1 : gi_H}  {v1 : Int} {v2 : Int} {s0 : Int} {h : gi_H} (e : b_X12_uses_151 n v1 v2 s0 h = some (res, h1)) : gx_Z mX12_uses al al 0 0 151 [(1, .int (gI v1)), (2, .int (gI v2))] [.int (gI s0)] (gi_cv h) (.inl (some (.int (gI res)))) (gi_cv h1) := by
  refine gx_iload_n dX12_uses_151 rfl 1 rfl ?_
  refine gx_iload_n dX12_uses_152 rfl 0 rfl ?_
  refine gy_ishr dX12_uses_153 ?_
  refine gy_iconst dX12_uses_154 ?_
  refine gy_iand dX12_uses_155 ?_
  refine gy_iconst dX12_uses_156 ?_
  refine gx_bE e (fun _ g19 e => ?_)
  refine gx_iE e (fun c20 e => ?_) (fun c20 e => ?_)
  · refine gy_icmp_ne (tgt := 164) (gi_rgS g19) (by decide) dX12_uses_157 (by decide) (fun z => absurd c20 z) (fun _ => ?_)
    refine gy_iconst dX12_uses_160 ?_
    refine gx_goto (tgt := 165) dX12_uses_161 (by decide) ?_
    refine gx_sub (ls2 := []) [] rfl ?_
    exact zb_X12_uses_165  e
  · refine gy_icmp_ne (tgt := 164) (gi_rgS g19) (by decide) dX12_uses_157 (by decide) (fun _ => ?_) (fun z => absurd z c20)
    refine gy_iconst dX12_uses_164 ?_
    refine gx_sub (ls2 := []) [] rfl ?_
    exact zb_X12_uses_165  e
set_option maxRecDepth 100000 in
def b_X12_uses_135 (n : Nat)  (v0 : Nat) (v1 : Int) (v2 : Int)  (h : gi_H) : Option (Int × gi_H) :=
  Option.bind (gi_gR h v0 10 21) fun t15 => Option.bind (gi_aI h 1 t15 v1) fun t16 => Option.bind (gi_rg t16) fun _ => if (100 : Int) < t16 then (b_X12_uses_151 n  v1 v2 (0 : Int) h) else (b_X12_uses_151 n  v1 v2 (1 : Int) h)
set_option maxRecDepth 100000 in
theorem zb_X12_uses_135 {al : Bool} {n : Nat}  {res : Int} {h1 : gi_H}  {v0 : Nat} {v1 : Int} {v2 : Int}  {h : gi_H} (e : b_X12_uses_135 n v0 v1 v2 h = some (res, h1)) : gx_Z mX12_uses al al 0 0 135 [(0, .ref v0), (1, .int (gI v1)), (2, .int (gI v2))] [] (gi_cv h) (.inl (some (.int (gI res)))) (gi_cv h1) := by
  refine gx_aload_n dX12_uses_135 rfl 0 rfl ?_
  refine gx_bE e (fun t15 ht15 e => ?_)
  refine gy_fR ht15 dX12_uses_136 gf_RX12_58_10_21 (by decide) gkN_10_21 gkR_10_21 ?_
  refine gx_iload_n dX12_uses_139 rfl 1 rfl ?_
  refine gx_bE e (fun t16 ht16 e => ?_)
  refine gy_l1 ht16 dX12_uses_140 ?_
  refine gy_bipush dX12_uses_141 gcb_100 ?_
  refine gx_bE e (fun _ g17 e => ?_)
  refine gx_iE e (fun c18 e => ?_) (fun c18 e => ?_)
  · refine gy_icmp_gt (tgt := 150) (gi_rgS g17) (by decide) dX12_uses_143 (by decide) (fun _ => ?_) (fun z => absurd c18 z)
    refine gy_iconst dX12_uses_150 ?_
    refine gx_sub (ls2 := [(1, .int (gI v1)), (2, .int (gI v2))]) [1, 2] rfl ?_
    exact zb_X12_uses_151  e
  · refine gy_icmp_gt (tgt := 150) (gi_rgS g17) (by decide) dX12_uses_143 (by decide) (fun z => absurd z c18) (fun _ => ?_)
    refine gy_iconst dX12_uses_146 ?_
    refine gx_goto (tgt := 151) dX12_uses_147 (by decide) ?_
    refine gx_sub (ls2 := [(1, .int (gI v1)), (2, .int (gI v2))]) [1, 2] rfl ?_
    exact zb_X12_uses_151  e
set_option maxRecDepth 100000 in
def b_X12_uses_132 (n : Nat) (r35 : Nat → Int → Int → Int → gi_H → Option (Int × gi_H)) (v0 : Nat) (v1 : Int) (v2 : Int) (v3 : Int)  (h : gi_H) : Option (Int × gi_H) :=
  r35 v0 v1 v2 v3 h
set_option maxRecDepth 100000 in
theorem zb_X12_uses_132 {al : Bool} {n : Nat} {r35 : Nat → Int → Int → Int → gi_H → Option (Int × gi_H)} {res : Int} {h1 : gi_H} (hr35 : ∀ (x0 : Nat) (x1 : Int) (x2 : Int) (x3 : Int) (hh : gi_H), r35 x0 x1 x2 x3 hh = some (res, h1) → gx_Z mX12_uses al al 0 0 35 [(0, .ref x0), (1, .int (gI x1)), (2, .int (gI x2)), (3, .int (gI x3))] [] (gi_cv hh) (.inl (some (.int (gI res)))) (gi_cv h1)) {v0 : Nat} {v1 : Int} {v2 : Int} {v3 : Int}  {h : gi_H} (e : b_X12_uses_132 n r35 v0 v1 v2 v3 h = some (res, h1)) : gx_Z mX12_uses al al 0 0 132 [(0, .ref v0), (1, .int (gI v1)), (2, .int (gI v2)), (3, .int (gI v3))] [] (gi_cv h) (.inl (some (.int (gI res)))) (gi_cv h1) := by
  refine gx_goto (tgt := 35) dX12_uses_132 (by decide) ?_
  exact hr35 _ _ _ _ _ e
set_option maxRecDepth 100000 in
def b_X12_uses_126 (n : Nat) (r35 : Nat → Int → Int → Int → gi_H → Option (Int × gi_H)) (r45 : Nat → Int → Int → Int → Int → gi_H → Option (Int × gi_H)) (v0 : Nat) (v1 : Int) (v2 : Int) (v3 : Int) (v4 : Int)  (h : gi_H) : Option (Int × gi_H) :=
  gx_nm (v4 + (1 : Int)) fun t32 => r45 v0 v1 v2 v3 t32 h
set_option maxRecDepth 100000 in
theorem zb_X12_uses_126 {al : Bool} {n : Nat} {r35 : Nat → Int → Int → Int → gi_H → Option (Int × gi_H)} {r45 : Nat → Int → Int → Int → Int → gi_H → Option (Int × gi_H)} {res : Int} {h1 : gi_H} (hr35 : ∀ (x0 : Nat) (x1 : Int) (x2 : Int) (x3 : Int) (hh : gi_H), r35 x0 x1 x2 x3 hh = some (res, h1) → gx_Z mX12_uses al al 0 0 35 [(0, .ref x0), (1, .int (gI x1)), (2, .int (gI x2)), (3, .int (gI x3))] [] (gi_cv hh) (.inl (some (.int (gI res)))) (gi_cv h1)) (hr45 : ∀ (x0 : Nat) (x1 : Int) (x2 : Int) (x3 : Int) (x4 : Int) (hh : gi_H), r45 x0 x1 x2 x3 x4 hh = some (res, h1) → gx_Z mX12_uses al al 0 0 45 [(0, .ref x0), (1, .int (gI x1)), (2, .int (gI x2)), (3, .int (gI x3)), (4, .int (gI x4))] [] (gi_cv hh) (.inl (some (.int (gI res)))) (gi_cv h1)) {v0 : Nat} {v1 : Int} {v2 : Int} {v3 : Int} {v4 : Int}  {h : gi_H} (e : b_X12_uses_126 n r35 r45 v0 v1 v2 v3 v4 h = some (res, h1)) : gx_Z mX12_uses al al 0 0 126 [(0, .ref v0), (1, .int (gI v1)), (2, .int (gI v2)), (3, .int (gI v3)), (4, .int (gI v4))] [] (gi_cv h) (.inl (some (.int (gI res)))) (gi_cv h1) := by
  refine gx_nE e (fun t32 ht32 e => ?_)
  refine gy_iinc (v := t32) (ls2 := [(4, .int (gI t32)), (0, .ref v0), (1, .int (gI v1)), (2, .int (gI v2)), (3, .int (gI v3))]) dX12_uses_126 4 rfl ht32 (Nat.le_of_ble_eq_true rfl) rfl ?_
  refine gx_goto (tgt := 45) dX12_uses_129 (by decide) ?_
  refine gx_sub (ls2 := [(0, .ref v0), (1, .int (gI v1)), (2, .int (gI v2)), (3, .int (gI v3)), (4, .int (gI t32))]) [1, 2, 3, 4, 0] rfl ?_
  exact hr45 _ _ _ _ _ _ e
set_option maxRecDepth 100000 in
def b_X12_uses_118 (n : Nat) (r35 : Nat → Int → Int → Int → gi_H → Option (Int × gi_H)) (r45 : Nat → Int → Int → Int → Int → gi_H → Option (Int × gi_H)) (r62 : Nat → Int → Int → Int → Int → Int → gi_H → Option (Int × gi_H)) (v0 : Nat) (v1 : Int) (v3 : Int) (v4 : Int) (v5 : Int) (s0 : Int) (s1 : Int) (h : gi_H) : Option (Int × gi_H) :=
  gx_nm (gi_or s0 s1) fun t41 => gx_nm (v5 + (1 : Int)) fun t42 => r62 v0 v1 t41 v3 v4 t42 h
set_option maxRecDepth 100000 in
theorem zb_X12_uses_118 {al : Bool} {n : Nat} {r35 : Nat → Int → Int → Int → gi_H → Option (Int × gi_H)} {r45 : Nat → Int → Int → Int → Int → gi_H → Option (Int × gi_H)} {r62 : Nat → Int → Int → Int → Int → Int → gi_H → Option (Int × gi_H)} {res : Int} {h1 : gi_H} (hr35 : ∀ (x0 : Nat) (x1 : Int) (x2 : Int) (x3 : Int) (hh : gi_H), r35 x0 x1 x2 x3 hh = some (res, h1) → gx_Z mX12_uses al al 0 0 35 [(0, .ref x0), (1, .int (gI x1)), (2, .int (gI x2)), (3, .int (gI x3))] [] (gi_cv hh) (.inl (some (.int (gI res)))) (gi_cv h1)) (hr45 : ∀ (x0 : Nat) (x1 : Int) (x2 : Int) (x3 : Int) (x4 : Int) (hh : gi_H), r45 x0 x1 x2 x3 x4 hh = some (res, h1) → gx_Z mX12_uses al al 0 0 45 [(0, .ref x0), (1, .int (gI x1)), (2, .int (gI x2)), (3, .int (gI x3)), (4, .int (gI x4))] [] (gi_cv hh) (.inl (some (.int (gI res)))) (gi_cv h1)) (hr62 : ∀ (x0 : Nat) (x1 : Int) (x2 : Int) (x3 : Int) (x4 : Int) (x5 : Int) (hh : gi_H), r62 x0 x1 x2 x3 x4 x5 hh = some (res, h1) → gx_Z mX12_uses al al 0 0 62 [(0, .ref x0), (1, .int (gI x1)), (2, .int (gI x2)), (3, .int (gI x3)), (4, .int (gI x4)), (5, .int (gI x5))] [] (gi_cv hh) (.inl (some (.int (gI res)))) (gi_cv h1)) {v0 : Nat} {v1 : Int} {v3 : Int} {v4 : Int} {v5 : Int} {s0 : Int} {s1 : Int} {h : gi_H} (e : b_X12_uses_118 n r35 r45 r62 v0 v1 v3 v4 v5 s0 s1 h = some (res, h1)) : gx_Z mX12_uses al al 0 0 118 [(0, .ref v0), (1, .int (gI v1)), (3, .int (gI v3)), (4, .int (gI v4)), (5, .int (gI v5))] [.int (gI s1), .int (gI s0)] (gi_cv h) (.inl (some (.int (gI res)))) (gi_cv h1) := by
  refine gy_ior dX12_uses_118 ?_
  refine gx_nE e (fun t41 ht41 e => ?_)
  rw [ht41]
  refine gx_istore_n (ls2 := [(2, .int (gI t41)), (0, .ref v0), (1, .int (gI v1)), (3, .int (gI v3)), (4, .int (gI v4)), (5, .int (gI v5))]) dX12_uses_119 rfl (Nat.le_of_ble_eq_true rfl) rfl ?_
  refine gx_nE e (fun t42 ht42 e => ?_)
  refine gy_iinc (v := t42) (ls2 := [(5, .int (gI t42)), (2, .int (gI t41)), (0, .ref v0), (1, .int (gI v1)), (3, .int (gI v3)), (4, .int (gI v4))]) dX12_uses_120 5 rfl ht42 (Nat.le_of_ble_eq_true rfl) rfl ?_
  refine gx_goto (tgt := 62) dX12_uses_123 (by decide) ?_
  refine gx_sub (ls2 := [(0, .ref v0), (1, .int (gI v1)), (2, .int (gI t41)), (3, .int (gI v3)), (4, .int (gI v4)), (5, .int (gI t42))]) [2, 3, 1, 4, 5, 0] rfl ?_
  exact hr62 _ _ _ _ _ _ _ e
set_option maxRecDepth 100000 in
def b_X12_uses_117 (n : Nat) (r35 : Nat → Int → Int → Int → gi_H → Option (Int × gi_H)) (r45 : Nat → Int → Int → Int → Int → gi_H → Option (Int × gi_H)) (r62 : Nat → Int → Int → Int → Int → Int → gi_H → Option (Int × gi_H)) (v0 : Nat) (v1 : Int) (v3 : Int) (v4 : Int) (v5 : Int) (s0 : Int) (h : gi_H) : Option (Int × gi_H) :=
  b_X12_uses_118 n r35 r45 r62 v0 v1 v3 v4 v5 s0 (0 : Int) h
set_option maxRecDepth 100000 in
theorem zb_X12_uses_117 {al : Bool} {n : Nat} {r35 : Nat → Int → Int → Int → gi_H → Option (Int × gi_H)} {r45 : Nat → Int → Int → Int → Int → gi_H → Option (Int × gi_H)} {r62 : Nat → Int → Int → Int → Int → Int → gi_H → Option (Int × gi_H)} {res : Int} {h1 : gi_H} (hr35 : ∀ (x0 : Nat) (x1 : Int) (x2 : Int) (x3 : Int) (hh : gi_H), r35 x0 x1 x2 x3 hh = some (res, h1) → gx_Z mX12_uses al al 0 0 35 [(0, .ref x0), (1, .int (gI x1)), (2, .int (gI x2)), (3, .int (gI x3))] [] (gi_cv hh) (.inl (some (.int (gI res)))) (gi_cv h1)) (hr45 : ∀ (x0 : Nat) (x1 : Int) (x2 : Int) (x3 : Int) (x4 : Int) (hh : gi_H), r45 x0 x1 x2 x3 x4 hh = some (res, h1) → gx_Z mX12_uses al al 0 0 45 [(0, .ref x0), (1, .int (gI x1)), (2, .int (gI x2)), (3, .int (gI x3)), (4, .int (gI x4))] [] (gi_cv hh) (.inl (some (.int (gI res)))) (gi_cv h1)) (hr62 : ∀ (x0 : Nat) (x1 : Int) (x2 : Int) (x3 : Int) (x4 : Int) (x5 : Int) (hh : gi_H), r62 x0 x1 x2 x3 x4 x5 hh = some (res, h1) → gx_Z mX12_uses al al 0 0 62 [(0, .ref x0), (1, .int (gI x1)), (2, .int (gI x2)), (3, .int (gI x3)), (4, .int (gI x4)), (5, .int (gI x5))] [] (gi_cv hh) (.inl (some (.int (gI res)))) (gi_cv h1)) {v0 : Nat} {v1 : Int} {v3 : Int} {v4 : Int} {v5 : Int} {s0 : Int} {h : gi_H} (e : b_X12_uses_117 n r35 r45 r62 v0 v1 v3 v4 v5 s0 h = some (res, h1)) : gx_Z mX12_uses al al 0 0 117 [(0, .ref v0), (1, .int (gI v1)), (3, .int (gI v3)), (4, .int (gI v4)), (5, .int (gI v5))] [.int (gI s0)] (gi_cv h) (.inl (some (.int (gI res)))) (gi_cv h1) := by
  refine gy_iconst dX12_uses_117 ?_
  exact zb_X12_uses_118 hr35 hr45 hr62 e
set_option maxRecDepth 100000 in
def b_X12_uses_62 (n : Nat) (r35 : Nat → Int → Int → Int → gi_H → Option (Int × gi_H)) (r45 : Nat → Int → Int → Int → Int → gi_H → Option (Int × gi_H)) (r62 : Nat → Int → Int → Int → Int → Int → gi_H → Option (Int × gi_H)) (v0 : Nat) (v1 : Int) (v2 : Int) (v3 : Int) (v4 : Int) (v5 : Int)  (h : gi_H) : Option (Int × gi_H) :=
  Option.bind (gi_is h v0 10) fun _ => Option.bind (f_X12_sizeOf v0 v4 h) fun q28 => Option.bind (gi_rg v5) fun _ => Option.bind (gi_rg q28) fun _ => if q28 ≤ v5 then (b_X12_uses_126 n r35 r45 v0 v1 v2 v3 v4 h) else (Option.bind (gi_is h v0 10) fun _ => Option.bind (f_X12_lead v0 v4 h) fun q34 => Option.bind (gi_rg (gi_and (gi_shr v2 q34) (1 : Int))) fun _ => if (gi_and (gi_shr v2 q34) (1 : Int)) = (1 : Int) then (Option.bind (gi_is h v0 10) fun _ => Option.bind (f_X12_symbol v0 v4 v5 h) fun q38 => Option.bind (gi_rg q38) fun _ => if q38 < (16 : Int) then (b_X12_uses_117 n r35 r45 r62 v0 v1 v3 v4 v5 v2 h) else (Option.bind (gi_is h v0 10) fun _ => Option.bind (f_X12_symbol v0 v4 v5 h) fun q44 => b_X12_uses_118 n r35 r45 r62 v0 v1 v3 v4 v5 v2 (gi_shl (1 : Int) (q44 - (16 : Int))) h)) else (b_X12_uses_117 n r35 r45 r62 v0 v1 v3 v4 v5 v2 h))
set_option maxRecDepth 100000 in
theorem zb_X12_uses_62 {al : Bool} {n : Nat} {r35 : Nat → Int → Int → Int → gi_H → Option (Int × gi_H)} {r45 : Nat → Int → Int → Int → Int → gi_H → Option (Int × gi_H)} {r62 : Nat → Int → Int → Int → Int → Int → gi_H → Option (Int × gi_H)} {res : Int} {h1 : gi_H} (hr35 : ∀ (x0 : Nat) (x1 : Int) (x2 : Int) (x3 : Int) (hh : gi_H), r35 x0 x1 x2 x3 hh = some (res, h1) → gx_Z mX12_uses al al 0 0 35 [(0, .ref x0), (1, .int (gI x1)), (2, .int (gI x2)), (3, .int (gI x3))] [] (gi_cv hh) (.inl (some (.int (gI res)))) (gi_cv h1)) (hr45 : ∀ (x0 : Nat) (x1 : Int) (x2 : Int) (x3 : Int) (x4 : Int) (hh : gi_H), r45 x0 x1 x2 x3 x4 hh = some (res, h1) → gx_Z mX12_uses al al 0 0 45 [(0, .ref x0), (1, .int (gI x1)), (2, .int (gI x2)), (3, .int (gI x3)), (4, .int (gI x4))] [] (gi_cv hh) (.inl (some (.int (gI res)))) (gi_cv h1)) (hr62 : ∀ (x0 : Nat) (x1 : Int) (x2 : Int) (x3 : Int) (x4 : Int) (x5 : Int) (hh : gi_H), r62 x0 x1 x2 x3 x4 x5 hh = some (res, h1) → gx_Z mX12_uses al al 0 0 62 [(0, .ref x0), (1, .int (gI x1)), (2, .int (gI x2)), (3, .int (gI x3)), (4, .int (gI x4)), (5, .int (gI x5))] [] (gi_cv hh) (.inl (some (.int (gI res)))) (gi_cv h1)) {v0 : Nat} {v1 : Int} {v2 : Int} {v3 : Int} {v4 : Int} {v5 : Int}  {h : gi_H} (e : b_X12_uses_62 n r35 r45 r62 v0 v1 v2 v3 v4 v5 h = some (res, h1)) : gx_Z mX12_uses al al 0 0 62 [(0, .ref v0), (1, .int (gI v1)), (2, .int (gI v2)), (3, .int (gI v3)), (4, .int (gI v4)), (5, .int (gI v5))] [] (gi_cv h) (.inl (some (.int (gI res)))) (gi_cv h1) := by
  refine gx_iload dX12_uses_62 5 rfl ?_
  refine gx_aload_n dX12_uses_64 rfl 0 rfl ?_
  refine gx_iload dX12_uses_65 4 rfl ?_
  refine gx_bE e (fun _ hu27 e => ?_)
  refine gx_bE e (fun q28 hq28 e => ?_)
  refine gx_callV (n := 1) (st := [.int (gI v5)]) (As := [.int (gI v4)]) (b := v0) dX12_uses_67 (z_X12_sizeOf hq28) rfl ⟨rfl, gw_cw_X12_sizeOf, gw_14, gp_X12_sizeOf, ⟨Nat.le_of_ble_eq_true rfl, Nat.le_of_ble_eq_true rfl⟩⟩ (gi_isS hu27) (by decide) gw_1579 gw_1581 gs_71 rfl ⟨Nat.le_of_ble_eq_true rfl, Nat.le_of_ble_eq_true rfl⟩ (Nat.le_of_ble_eq_true rfl) (gy_k1 (x := .int (gI q28)) (kc2 := 0) (ks2 := 0) ⟨rfl, rfl⟩ ?_) gy_kn
  refine gx_bE e (fun _ g29 e => ?_)
  refine gx_bE e (fun _ g30 e => ?_)
  refine gx_iE e (fun c31 e => ?_) (fun c31 e => ?_)
  · refine gy_icmp_ge (tgt := 126) (gi_rgS g29) (gi_rgS g30) dX12_uses_70 (by decide) (fun _ => ?_) (fun z => absurd c31 z)
    refine gx_sub (ls2 := [(0, .ref v0), (1, .int (gI v1)), (2, .int (gI v2)), (3, .int (gI v3)), (4, .int (gI v4))]) [0, 1, 2, 3, 4] rfl ?_
    exact zb_X12_uses_126 hr35 hr45 e
  · refine gy_icmp_ge (tgt := 126) (gi_rgS g29) (gi_rgS g30) dX12_uses_70 (by decide) (fun z => absurd z c31) (fun _ => ?_)
    refine gx_iload_n dX12_uses_73 rfl 2 rfl ?_
    refine gx_iload_n dX12_uses_74 rfl 2 rfl ?_
    refine gx_aload_n dX12_uses_75 rfl 0 rfl ?_
    refine gx_iload dX12_uses_76 4 rfl ?_
    refine gx_bE e (fun _ hu33 e => ?_)
    refine gx_bE e (fun q34 hq34 e => ?_)
    refine gx_callV (n := 1) (st := [.int (gI v2), .int (gI v2)]) (As := [.int (gI v4)]) (b := v0) dX12_uses_78 (z_X12_lead hq34) rfl ⟨rfl, gw_cw_X12_lead, gw_14, gp_X12_lead, ⟨Nat.le_of_ble_eq_true rfl, Nat.le_of_ble_eq_true rfl⟩⟩ (gi_isS hu33) (by decide) gw_1595 gw_1597 gs_74 rfl ⟨Nat.le_of_ble_eq_true rfl, Nat.le_of_ble_eq_true rfl⟩ (Nat.le_of_ble_eq_true rfl) (gy_k1 (x := .int (gI q34)) (kc2 := 0) (ks2 := 0) ⟨rfl, rfl⟩ ?_) gy_kn
    refine gy_ishr dX12_uses_81 ?_
    refine gy_iconst dX12_uses_82 ?_
    refine gy_iand dX12_uses_83 ?_
    refine gy_iconst dX12_uses_84 ?_
    refine gx_bE e (fun _ g35 e => ?_)
    refine gx_iE e (fun c36 e => ?_) (fun c36 e => ?_)
    · refine gy_icmp_ne (tgt := 117) (gi_rgS g35) (by decide) dX12_uses_85 (by decide) (fun z => absurd c36 z) (fun _ => ?_)
      refine gx_aload_n dX12_uses_88 rfl 0 rfl ?_
      refine gx_iload dX12_uses_89 4 rfl ?_
      refine gx_iload dX12_uses_91 5 rfl ?_
      refine gx_bE e (fun _ hu37 e => ?_)
      refine gx_bE e (fun q38 hq38 e => ?_)
      refine gx_callV (n := 2) (st := [.int (gI v2)]) (As := [.int (gI v4), .int (gI v5)]) (b := v0) dX12_uses_93 (z_X12_symbol hq38) rfl ⟨rfl, gw_cw_X12_symbol, gw_14, gp_X12_symbol, ⟨Nat.le_of_ble_eq_true rfl, Nat.le_of_ble_eq_true rfl⟩⟩ (gi_isS hu37) (by decide) gw_1575 gw_1577 gs_70 rfl ⟨Nat.le_of_ble_eq_true rfl, Nat.le_of_ble_eq_true rfl⟩ (Nat.le_of_ble_eq_true rfl) (gy_k1 (x := .int (gI q38)) (kc2 := 0) (ks2 := 0) ⟨rfl, rfl⟩ ?_) gy_kn
      refine gy_bipush dX12_uses_96 gcb_16 ?_
      refine gx_bE e (fun _ g39 e => ?_)
      refine gx_iE e (fun c40 e => ?_) (fun c40 e => ?_)
      · refine gy_icmp_lt (tgt := 117) (gi_rgS g39) (by decide) dX12_uses_98 (by decide) (fun _ => ?_) (fun z => absurd c40 z)
        refine gx_sub (ls2 := [(0, .ref v0), (1, .int (gI v1)), (3, .int (gI v3)), (4, .int (gI v4)), (5, .int (gI v5))]) [0, 1, 3, 4, 5] rfl ?_
        exact zb_X12_uses_117 hr35 hr45 hr62 e
      · refine gy_icmp_lt (tgt := 117) (gi_rgS g39) (by decide) dX12_uses_98 (by decide) (fun z => absurd z c40) (fun _ => ?_)
        refine gy_iconst dX12_uses_101 ?_
        refine gx_aload_n dX12_uses_102 rfl 0 rfl ?_
        refine gx_iload dX12_uses_103 4 rfl ?_
        refine gx_iload dX12_uses_105 5 rfl ?_
        refine gx_bE e (fun _ hu43 e => ?_)
        refine gx_bE e (fun q44 hq44 e => ?_)
        refine gx_callV (n := 2) (st := [.int (gI (1 : Int)), .int (gI v2)]) (As := [.int (gI v4), .int (gI v5)]) (b := v0) dX12_uses_107 (z_X12_symbol hq44) rfl ⟨rfl, gw_cw_X12_symbol, gw_14, gp_X12_symbol, ⟨Nat.le_of_ble_eq_true rfl, Nat.le_of_ble_eq_true rfl⟩⟩ (gi_isS hu43) (by decide) gw_1575 gw_1577 gs_70 rfl ⟨Nat.le_of_ble_eq_true rfl, Nat.le_of_ble_eq_true rfl⟩ (Nat.le_of_ble_eq_true rfl) (gy_k1 (x := .int (gI q44)) (kc2 := 0) (ks2 := 0) ⟨rfl, rfl⟩ ?_) gy_kn
        refine gy_bipush dX12_uses_110 gcb_16 ?_
        refine gy_isub dX12_uses_112 ?_
        refine gy_ishl dX12_uses_113 ?_
        refine gx_goto (tgt := 118) dX12_uses_114 (by decide) ?_
        refine gx_sub (ls2 := [(0, .ref v0), (1, .int (gI v1)), (3, .int (gI v3)), (4, .int (gI v4)), (5, .int (gI v5))]) [0, 1, 3, 4, 5] rfl ?_
        exact zb_X12_uses_118 hr35 hr45 hr62 e
    · refine gy_icmp_ne (tgt := 117) (gi_rgS g35) (by decide) dX12_uses_85 (by decide) (fun _ => ?_) (fun z => absurd z c36)
      refine gx_sub (ls2 := [(0, .ref v0), (1, .int (gI v1)), (3, .int (gI v3)), (4, .int (gI v4)), (5, .int (gI v5))]) [0, 1, 3, 4, 5] rfl ?_
      exact zb_X12_uses_117 hr35 hr45 hr62 e
def l_X12_uses_62 (n : Nat) (r35 : Nat → Int → Int → Int → gi_H → Option (Int × gi_H)) (r45 : Nat → Int → Int → Int → Int → gi_H → Option (Int × gi_H)) : Nat → Nat → Int → Int → Int → Int → Int → gi_H → Option (Int × gi_H)
  | 0, _, _, _, _, _, _, _ => none
  | k + 1, v0, v1, v2, v3, v4, v5, h => b_X12_uses_62 n r35 r45 (l_X12_uses_62 n r35 r45 k) v0 v1 v2 v3 v4 v5 h
theorem zl_X12_uses_62 {al : Bool} {n : Nat} {r35 : Nat → Int → Int → Int → gi_H → Option (Int × gi_H)} {r45 : Nat → Int → Int → Int → Int → gi_H → Option (Int × gi_H)} {res : Int} {h1 : gi_H} (hr35 : ∀ (x0 : Nat) (x1 : Int) (x2 : Int) (x3 : Int) (hh : gi_H), r35 x0 x1 x2 x3 hh = some (res, h1) → gx_Z mX12_uses al al 0 0 35 [(0, .ref x0), (1, .int (gI x1)), (2, .int (gI x2)), (3, .int (gI x3))] [] (gi_cv hh) (.inl (some (.int (gI res)))) (gi_cv h1)) (hr45 : ∀ (x0 : Nat) (x1 : Int) (x2 : Int) (x3 : Int) (x4 : Int) (hh : gi_H), r45 x0 x1 x2 x3 x4 hh = some (res, h1) → gx_Z mX12_uses al al 0 0 45 [(0, .ref x0), (1, .int (gI x1)), (2, .int (gI x2)), (3, .int (gI x3)), (4, .int (gI x4))] [] (gi_cv hh) (.inl (some (.int (gI res)))) (gi_cv h1)) : ∀ (k : Nat) (v0 : Nat) (v1 : Int) (v2 : Int) (v3 : Int) (v4 : Int) (v5 : Int) (h : gi_H), l_X12_uses_62 n r35 r45 k v0 v1 v2 v3 v4 v5 h = some (res, h1) → gx_Z mX12_uses al al 0 0 62 [(0, .ref v0), (1, .int (gI v1)), (2, .int (gI v2)), (3, .int (gI v3)), (4, .int (gI v4)), (5, .int (gI v5))] [] (gi_cv h) (.inl (some (.int (gI res)))) (gi_cv h1)
  | 0, _, _, _, _, _, _, _, e => gx_0E e
  | k + 1, _, _, _, _, _, _, _, e => zb_X12_uses_62 (n := n) hr35 hr45 (zl_X12_uses_62 hr35 hr45 k) e
set_option maxRecDepth 100000 in
def b_X12_uses_45 (n : Nat) (r35 : Nat → Int → Int → Int → gi_H → Option (Int × gi_H)) (r45 : Nat → Int → Int → Int → Int → gi_H → Option (Int × gi_H)) (v0 : Nat) (v1 : Int) (v2 : Int) (v3 : Int) (v4 : Int)  (h : gi_H) : Option (Int × gi_H) :=
  Option.bind (gi_gR h v0 10 3) fun t21 => Option.bind (gi_gI h v0 10 9) fun t22 => Option.bind (gi_aI h 1 t21 t22) fun t23 => Option.bind (gi_rg v4) fun _ => Option.bind (gi_rg t23) fun _ => if t23 ≤ v4 then (b_X12_uses_132 n r35 v0 v1 v2 v3 h) else (l_X12_uses_62 n r35 r45 n v0 v1 v2 v3 v4 (0 : Int) h)
set_option maxRecDepth 100000 in
theorem zb_X12_uses_45 {al : Bool} {n : Nat} {r35 : Nat → Int → Int → Int → gi_H → Option (Int × gi_H)} {r45 : Nat → Int → Int → Int → Int → gi_H → Option (Int × gi_H)} {res : Int} {h1 : gi_H} (hr35 : ∀ (x0 : Nat) (x1 : Int) (x2 : Int) (x3 : Int) (hh : gi_H), r35 x0 x1 x2 x3 hh = some (res, h1) → gx_Z mX12_uses al al 0 0 35 [(0, .ref x0), (1, .int (gI x1)), (2, .int (gI x2)), (3, .int (gI x3))] [] (gi_cv hh) (.inl (some (.int (gI res)))) (gi_cv h1)) (hr45 : ∀ (x0 : Nat) (x1 : Int) (x2 : Int) (x3 : Int) (x4 : Int) (hh : gi_H), r45 x0 x1 x2 x3 x4 hh = some (res, h1) → gx_Z mX12_uses al al 0 0 45 [(0, .ref x0), (1, .int (gI x1)), (2, .int (gI x2)), (3, .int (gI x3)), (4, .int (gI x4))] [] (gi_cv hh) (.inl (some (.int (gI res)))) (gi_cv h1)) {v0 : Nat} {v1 : Int} {v2 : Int} {v3 : Int} {v4 : Int}  {h : gi_H} (e : b_X12_uses_45 n r35 r45 v0 v1 v2 v3 v4 h = some (res, h1)) : gx_Z mX12_uses al al 0 0 45 [(0, .ref v0), (1, .int (gI v1)), (2, .int (gI v2)), (3, .int (gI v3)), (4, .int (gI v4))] [] (gi_cv h) (.inl (some (.int (gI res)))) (gi_cv h1) := by
  refine gx_iload dX12_uses_45 4 rfl ?_
  refine gx_aload_n dX12_uses_47 rfl 0 rfl ?_
  refine gx_bE e (fun t21 ht21 e => ?_)
  refine gy_fR ht21 dX12_uses_48 gf_RX12_19_10_3 (by decide) gkN_10_3 gkR_10_3 ?_
  refine gx_aload_n dX12_uses_51 rfl 0 rfl ?_
  refine gx_bE e (fun t22 ht22 e => ?_)
  refine gy_fI ht22 dX12_uses_52 gf_RX12_139_10_9 (by decide) gkN_10_9 gkR_10_9 ?_
  refine gx_bE e (fun t23 ht23 e => ?_)
  refine gy_l1 ht23 dX12_uses_55 ?_
  refine gx_bE e (fun _ g24 e => ?_)
  refine gx_bE e (fun _ g25 e => ?_)
  refine gx_iE e (fun c26 e => ?_) (fun c26 e => ?_)
  · refine gy_icmp_ge (tgt := 132) (gi_rgS g24) (gi_rgS g25) dX12_uses_56 (by decide) (fun _ => ?_) (fun z => absurd c26 z)
    refine gx_sub (ls2 := [(0, .ref v0), (1, .int (gI v1)), (2, .int (gI v2)), (3, .int (gI v3))]) [0, 1, 2, 3] rfl ?_
    exact zb_X12_uses_132 hr35 e
  · refine gy_icmp_ge (tgt := 132) (gi_rgS g24) (gi_rgS g25) dX12_uses_56 (by decide) (fun z => absurd z c26) (fun _ => ?_)
    refine gy_iconst dX12_uses_59 ?_
    refine gx_istore (ls2 := [(5, .int (gI (0 : Int))), (0, .ref v0), (1, .int (gI v1)), (2, .int (gI v2)), (3, .int (gI v3)), (4, .int (gI v4))]) dX12_uses_60 (Nat.le_of_ble_eq_true rfl) rfl ?_
    refine gx_sub (ls2 := [(0, .ref v0), (1, .int (gI v1)), (2, .int (gI v2)), (3, .int (gI v3)), (4, .int (gI v4)), (5, .int (gI (0 : Int)))]) [1, 2, 3, 4, 5, 0] rfl ?_
    exact zl_X12_uses_62 hr35 hr45 n _ _ _ _ _ _ _ e
def l_X12_uses_45 (n : Nat) (r35 : Nat → Int → Int → Int → gi_H → Option (Int × gi_H)) : Nat → Nat → Int → Int → Int → Int → gi_H → Option (Int × gi_H)
  | 0, _, _, _, _, _, _ => none
  | k + 1, v0, v1, v2, v3, v4, h => b_X12_uses_45 n r35 (l_X12_uses_45 n r35 k) v0 v1 v2 v3 v4 h
theorem zl_X12_uses_45 {al : Bool} {n : Nat} {r35 : Nat → Int → Int → Int → gi_H → Option (Int × gi_H)} {res : Int} {h1 : gi_H} (hr35 : ∀ (x0 : Nat) (x1 : Int) (x2 : Int) (x3 : Int) (hh : gi_H), r35 x0 x1 x2 x3 hh = some (res, h1) → gx_Z mX12_uses al al 0 0 35 [(0, .ref x0), (1, .int (gI x1)), (2, .int (gI x2)), (3, .int (gI x3))] [] (gi_cv hh) (.inl (some (.int (gI res)))) (gi_cv h1)) : ∀ (k : Nat) (v0 : Nat) (v1 : Int) (v2 : Int) (v3 : Int) (v4 : Int) (h : gi_H), l_X12_uses_45 n r35 k v0 v1 v2 v3 v4 h = some (res, h1) → gx_Z mX12_uses al al 0 0 45 [(0, .ref v0), (1, .int (gI v1)), (2, .int (gI v2)), (3, .int (gI v3)), (4, .int (gI v4))] [] (gi_cv h) (.inl (some (.int (gI res)))) (gi_cv h1)
  | 0, _, _, _, _, _, _, e => gx_0E e
  | k + 1, _, _, _, _, _, _, e => zb_X12_uses_45 (n := n) hr35 (zl_X12_uses_45 hr35 k) e
set_option maxRecDepth 100000 in
def b_X12_uses_35 (n : Nat) (r35 : Nat → Int → Int → Int → gi_H → Option (Int × gi_H)) (v0 : Nat) (v1 : Int) (v2 : Int) (v3 : Int)  (h : gi_H) : Option (Int × gi_H) :=
  Option.bind (gi_rg v2) fun _ => Option.bind (gi_rg v3) fun _ => if v2 = v3 then (b_X12_uses_135 n  v0 v1 v2 h) else (l_X12_uses_45 n r35 n v0 v1 v2 v2 (0 : Int) h)
set_option maxRecDepth 100000 in
theorem zb_X12_uses_35 {al : Bool} {n : Nat} {r35 : Nat → Int → Int → Int → gi_H → Option (Int × gi_H)} {res : Int} {h1 : gi_H} (hr35 : ∀ (x0 : Nat) (x1 : Int) (x2 : Int) (x3 : Int) (hh : gi_H), r35 x0 x1 x2 x3 hh = some (res, h1) → gx_Z mX12_uses al al 0 0 35 [(0, .ref x0), (1, .int (gI x1)), (2, .int (gI x2)), (3, .int (gI x3))] [] (gi_cv hh) (.inl (some (.int (gI res)))) (gi_cv h1)) {v0 : Nat} {v1 : Int} {v2 : Int} {v3 : Int}  {h : gi_H} (e : b_X12_uses_35 n r35 v0 v1 v2 v3 h = some (res, h1)) : gx_Z mX12_uses al al 0 0 35 [(0, .ref v0), (1, .int (gI v1)), (2, .int (gI v2)), (3, .int (gI v3))] [] (gi_cv h) (.inl (some (.int (gI res)))) (gi_cv h1) := by
  refine gx_iload_n dX12_uses_35 rfl 2 rfl ?_
  refine gx_iload_n dX12_uses_36 rfl 3 rfl ?_
  refine gx_bE e (fun _ g12 e => ?_)
  refine gx_bE e (fun _ g13 e => ?_)
  refine gx_iE e (fun c14 e => ?_) (fun c14 e => ?_)
  · refine gy_icmp_eq (tgt := 135) (gi_rgS g12) (gi_rgS g13) dX12_uses_37 (by decide) (fun _ => ?_) (fun z => absurd c14 z)
    refine gx_sub (ls2 := [(0, .ref v0), (1, .int (gI v1)), (2, .int (gI v2))]) [0, 1, 2] rfl ?_
    exact zb_X12_uses_135  e
  · refine gy_icmp_eq (tgt := 135) (gi_rgS g12) (gi_rgS g13) dX12_uses_37 (by decide) (fun z => absurd z c14) (fun _ => ?_)
    refine gx_iload_n dX12_uses_40 rfl 2 rfl ?_
    refine gx_istore_n (ls2 := [(3, .int (gI v2)), (0, .ref v0), (1, .int (gI v1)), (2, .int (gI v2))]) dX12_uses_41 rfl (Nat.le_of_ble_eq_true rfl) rfl ?_
    refine gy_iconst dX12_uses_42 ?_
    refine gx_istore (ls2 := [(4, .int (gI (0 : Int))), (3, .int (gI v2)), (0, .ref v0), (1, .int (gI v1)), (2, .int (gI v2))]) dX12_uses_43 (Nat.le_of_ble_eq_true rfl) rfl ?_
    refine gx_sub (ls2 := [(0, .ref v0), (1, .int (gI v1)), (2, .int (gI v2)), (3, .int (gI v2)), (4, .int (gI (0 : Int)))]) [2, 3, 4, 1, 0] rfl ?_
    exact zl_X12_uses_45 hr35 n _ _ _ _ _ _ e
def l_X12_uses_35 (n : Nat)  : Nat → Nat → Int → Int → Int → gi_H → Option (Int × gi_H)
  | 0, _, _, _, _, _ => none
  | k + 1, v0, v1, v2, v3, h => b_X12_uses_35 n  (l_X12_uses_35 n  k) v0 v1 v2 v3 h
theorem zl_X12_uses_35 {al : Bool} {n : Nat}  {res : Int} {h1 : gi_H}  : ∀ (k : Nat) (v0 : Nat) (v1 : Int) (v2 : Int) (v3 : Int) (h : gi_H), l_X12_uses_35 n  k v0 v1 v2 v3 h = some (res, h1) → gx_Z mX12_uses al al 0 0 35 [(0, .ref v0), (1, .int (gI v1)), (2, .int (gI v2)), (3, .int (gI v3))] [] (gi_cv h) (.inl (some (.int (gI res)))) (gi_cv h1)
  | 0, _, _, _, _, _, e => gx_0E e
  | k + 1, _, _, _, _, _, e => zb_X12_uses_35 (n := n)  (zl_X12_uses_35  k) e
set_option maxRecDepth 100000 in
def f_X12_uses (n : Nat) (v0 : Nat) (v1 : Int) (h : gi_H) : Option (Int × gi_H) :=
  Option.bind (gi_is h v0 10) fun _ => Option.bind (f_X12_finds n v0 h) fun q2 => Option.bind (f_X12_isBelow v1 (16 : Int) q2) fun q3 => Option.bind (gi_is q2 v0 10) fun _ => Option.bind (f_X12_goes v0 q3 (1 : Int) (1 : Int) q2) fun q5 => Option.bind (gi_rg q5.1) fun _ => if q5.1 = 0 then (some ((0 : Int), q5.2)) else (Option.bind (gi_gR q5.2 v0 10 8) fun t8 => Option.bind (gi_gI q5.2 v0 10 9) fun t9 => Option.bind (gi_aI q5.2 1 t8 t9) fun t10 => gx_nm (gi_shl (1 : Int) t10) fun t11 => l_X12_uses_35 n  n v0 v1 t11 (0 : Int) q5.2)
set_option maxRecDepth 100000 in
theorem z_X12_uses {al : Bool} {n : Nat} {v0 : Nat} {v1 : Int} {h : gi_H} {res : Int} {h1 : gi_H} (e : f_X12_uses n v0 v1 h = some (res, h1)) : gx_Cw mX12_uses al [.ref v0, .int (gI v1)] (gi_cv h) (.inl (some (.int (gI res)))) (gi_cv h1) := by
  refine gx_enter (by decide +kernel) rfl (Nat.le_of_ble_eq_true rfl) ?_
  show gx_Z mX12_uses al al 0 0 0 [(0, .ref v0), (1, .int (gI v1))] [] (gi_cv h) (.inl (some (.int (gI res)))) (gi_cv h1)
  refine gx_aload_n dX12_uses_0 rfl 0 rfl ?_
  refine gx_bE e (fun _ hu1 e => ?_)
  refine gx_bE e (fun q2 hq2 e => ?_)
  refine gx_callV (n := 0) (st := []) (As := []) (b := v0) dX12_uses_1 (z_X12_finds hq2) rfl ⟨rfl, gw_cw_X12_finds, gw_14, gp_X12_finds, ⟨Nat.le_of_ble_eq_true rfl, Nat.le_of_ble_eq_true rfl⟩⟩ (gi_isS hu1) (by decide) gw_1587 gw_1589 gs_72 rfl ⟨Nat.le_of_ble_eq_true rfl, Nat.le_of_ble_eq_true rfl⟩ (Nat.le_of_ble_eq_true rfl) (gy_k0 (kc2 := 0) (ks2 := 0) ⟨rfl, rfl⟩ ?_) gy_kn
  refine gx_aload_n dX12_uses_4 rfl 0 rfl ?_
  refine gx_iload_n dX12_uses_5 rfl 1 rfl ?_
  refine gy_bipush dX12_uses_6 gcb_16 ?_
  refine gx_bE e (fun q3 hq3 e => ?_)
  refine gx_callS (n := 2) (st := [.ref v0]) (As := [.int (gI v1), .int (gI (16 : Int))]) dX12_uses_8 (z_X12_isBelow hq3) rfl ⟨rfl, gw_cw_X12_isBelow, gw_14, gp_X12_isBelow, ⟨Nat.le_of_ble_eq_true rfl, Nat.le_of_ble_eq_true rfl⟩⟩ gw_1540 gw_1541 ⟨Nat.le_of_ble_eq_true rfl, Nat.le_of_ble_eq_true rfl⟩ (Nat.le_of_ble_eq_true rfl) (gy_k1 (x := .int (gI q3)) (kc2 := 0) (ks2 := 0) ⟨rfl, rfl⟩ ?_) gy_kn
  refine gy_iconst dX12_uses_11 ?_
  refine gy_iconst dX12_uses_12 ?_
  refine gx_bE e (fun _ hu4 e => ?_)
  refine gx_bE e (fun q5 hq5 e => ?_)
  refine gx_callV (n := 3) (st := []) (As := [.int (gI q3), .int (gI (1 : Int)), .int (gI (1 : Int))]) (b := v0) dX12_uses_13 (z_X12_goes hq5) rfl ⟨rfl, gw_cw_X12_goes, gw_14, gp_X12_goes, ⟨Nat.le_of_ble_eq_true rfl, Nat.le_of_ble_eq_true rfl⟩⟩ (gi_isS hu4) (by decide) gw_1480 gw_1482 gs_58 rfl ⟨Nat.le_of_ble_eq_true rfl, Nat.le_of_ble_eq_true rfl⟩ (Nat.le_of_ble_eq_true rfl) (gy_k1 (x := .int (gI q5.1)) (kc2 := 0) (ks2 := 0) ⟨rfl, rfl⟩ ?_) gy_kn
  refine gx_bE e (fun _ g6 e => ?_)
  refine gx_iE e (fun c7 e => ?_) (fun c7 e => ?_)
  · refine gy_if_ne (tgt := 21) (gi_rgS g6) dX12_uses_16 (by decide) (fun z => absurd c7 z) (fun _ => ?_)
    refine gy_iconst dX12_uses_19 ?_
    cases e
    exact gx_iret dX12_uses_20 rfl ⟨Nat.le_of_ble_eq_true rfl, Nat.le_of_ble_eq_true rfl⟩ (fun z => z)
  · refine gy_if_ne (tgt := 21) (gi_rgS g6) dX12_uses_16 (by decide) (fun _ => ?_) (fun z => absurd z c7)
    refine gy_iconst dX12_uses_21 ?_
    refine gx_aload_n dX12_uses_22 rfl 0 rfl ?_
    refine gx_bE e (fun t8 ht8 e => ?_)
    refine gy_fR ht8 dX12_uses_23 gf_RX12_34_10_8 (by decide) gkN_10_8 gkR_10_8 ?_
    refine gx_aload_n dX12_uses_26 rfl 0 rfl ?_
    refine gx_bE e (fun t9 ht9 e => ?_)
    refine gy_fI ht9 dX12_uses_27 gf_RX12_139_10_9 (by decide) gkN_10_9 gkR_10_9 ?_
    refine gx_bE e (fun t10 ht10 e => ?_)
    refine gy_l1 ht10 dX12_uses_30 ?_
    refine gy_ishl dX12_uses_31 ?_
    refine gx_nE e (fun t11 ht11 e => ?_)
    rw [ht11]
    refine gx_istore_n (ls2 := [(2, .int (gI t11)), (0, .ref v0), (1, .int (gI v1))]) dX12_uses_32 rfl (Nat.le_of_ble_eq_true rfl) rfl ?_
    refine gy_iconst dX12_uses_33 ?_
    refine gx_istore_n (ls2 := [(3, .int (gI (0 : Int))), (2, .int (gI t11)), (0, .ref v0), (1, .int (gI v1))]) dX12_uses_34 rfl (Nat.le_of_ble_eq_true rfl) rfl ?_
    refine gx_sub (ls2 := [(0, .ref v0), (1, .int (gI v1)), (2, .int (gI t11)), (3, .int (gI (0 : Int)))]) [2, 3, 1, 0] rfl ?_
    exact zl_X12_uses_35  n _ _ _ _ _ e
/-! X3_beginsItself  -/
set_option maxRecDepth 100000 in
def f_X3_beginsItself (v0 : Nat) (v1 : Int) (h : gi_H) : Option (Int) :=
  Option.bind (gi_gI h v0 2 3) fun t1 => Option.bind (f_X11_has t1 v1 h) fun q2 => Option.bind (gi_zo q2) fun _ => some q2
set_option maxRecDepth 100000 in
theorem z_X3_beginsItself {al : Bool} {v0 : Nat} {v1 : Int} {h : gi_H} {res : Int} (e : f_X3_beginsItself v0 v1 h = some res) : gx_Cw mX3_beginsItself al [.ref v0, .int (gI v1)] (gi_cv h) (.inl (some (.int (gI res)))) (gi_cv h) := by
  refine gx_enter (by decide +kernel) rfl (Nat.le_of_ble_eq_true rfl) ?_
  show gx_Z mX3_beginsItself al al 0 0 0 [(0, .ref v0), (1, .int (gI v1))] [] (gi_cv h) (.inl (some (.int (gI res)))) (gi_cv h)
  refine gx_aload_n dX3_beginsItself_0 rfl 0 rfl ?_
  refine gx_bE e (fun t1 ht1 e => ?_)
  refine gy_fI ht1 dX3_beginsItself_1 gf_RX3_87_2_3 (by decide) gkN_2_3 gkR_2_3 ?_
  refine gx_iload_n dX3_beginsItself_4 rfl 1 rfl ?_
  refine gx_bE e (fun q2 hq2 e => ?_)
  refine gx_callSN (n := 2) (st := []) (As := [.int (gI t1), .int (gI v1)]) dX3_beginsItself_5 (z_X11_has hq2) rfl ⟨rfl, gw_cw_X11_has, gw_1, gp_X11_has, ⟨Nat.le_of_ble_eq_true rfl, Nat.le_of_ble_eq_true rfl⟩⟩ (host := "Grammarsmith") (by decide +kernel) gw_473 ⟨Nat.le_of_ble_eq_true rfl, Nat.le_of_ble_eq_true rfl⟩ (Nat.le_of_ble_eq_true rfl) (gy_k1 (x := .int (gI q2)) (kc2 := 0) (ks2 := 0) ⟨rfl, rfl⟩ ?_) gy_kn
  refine gx_bE e (fun _ hu3 e => ?_)
  cases e
  exact gx_zret (gi_zoS hu3) dX3_beginsItself_8 rfl ⟨Nat.le_of_ble_eq_true rfl, Nat.le_of_ble_eq_true rfl⟩ (fun z => z)
