/-! X7_read  -/
set_option maxRecDepth 100000 in
def b_X7_read_218 (n : Nat)    (h : gi_H) : Option (Int × gi_H) :=
  some ((0 : Int), h)
set_option maxRecDepth 100000 in
theorem zb_X7_read_218 {al : Bool} {n : Nat}  {res : Int} {h1 : gi_H}    {h : gi_H} (e : b_X7_read_218 n  h = some (res, h1)) : gx_Z mX7_read al al 0 0 218 [] [] (gi_cv h) (.inl (some (.int (gI res)))) (gi_cv h1) := by
  refine gy_iconst dX7_read_218 ?_
  cases e
  exact gx_zret (by decide +kernel) dX7_read_219 rfl ⟨Nat.le_of_ble_eq_true rfl, Nat.le_of_ble_eq_true rfl⟩ (fun z => z)
set_option maxRecDepth 100000 in
def b_X7_read_192 (n : Nat)  (v0 : Nat) (v1 : Nat) (v2 : Nat) (v4 : Int)  (h : gi_H) : Option (Int × gi_H) :=
  Option.bind (gi_rg v4) fun _ => if v4 = 0 then (b_X7_read_218 n   h) else (Option.bind (gi_is h v1 7) fun _ => Option.bind (f_X8_letter v1 (0 : Int) h) fun q10 => Option.bind (gi_is h v0 6) fun _ => Option.bind (f_X7_release n v0 v2 (q10 - (65 : Int)) (0 : Int) h) fun q12 => Option.bind (gi_rg q12.1) fun _ => if q12.1 = 0 then (b_X7_read_218 n   q12.2) else (some ((1 : Int), q12.2)))
set_option maxRecDepth 100000 in
theorem zb_X7_read_192 {al : Bool} {n : Nat}  {res : Int} {h1 : gi_H}  {v0 : Nat} {v1 : Nat} {v2 : Nat} {v4 : Int}  {h : gi_H} (e : b_X7_read_192 n v0 v1 v2 v4 h = some (res, h1)) : gx_Z mX7_read al al 0 0 192 [(0, .ref v0), (1, .ref v1), (2, .ref v2), (4, .int (gI v4))] [] (gi_cv h) (.inl (some (.int (gI res)))) (gi_cv h1) := by
  refine gx_iload dX7_read_192 3 rfl ?_
  refine gx_bE e (fun _ g7 e => ?_)
  refine gx_iE e (fun c8 e => ?_) (fun c8 e => ?_)
  · refine gy_if_eq (tgt := 218) (gi_rgS g7) dX7_read_194 (by decide) (fun _ => ?_) (fun z => absurd c8 z)
    refine gx_sub (ls2 := []) [] rfl ?_
    exact zb_X7_read_218  e
  · refine gy_if_eq (tgt := 218) (gi_rgS g7) dX7_read_194 (by decide) (fun z => absurd z c8) (fun _ => ?_)
    refine gx_aload_n dX7_read_197 rfl 0 rfl ?_
    refine gx_aload_n dX7_read_198 rfl 2 rfl ?_
    refine gx_aload_n dX7_read_199 rfl 1 rfl ?_
    refine gy_iconst dX7_read_200 ?_
    refine gx_bE e (fun _ hu9 e => ?_)
    refine gx_bE e (fun q10 hq10 e => ?_)
    refine gx_callV (n := 1) (st := [.ref v2, .ref v0]) (As := [.int (gI (0 : Int))]) (b := v1) dX7_read_201 (z_X8_letter hq10) rfl ⟨rfl, gw_cw_X8_letter, gw_2, gp_X8_letter, ⟨Nat.le_of_ble_eq_true rfl, Nat.le_of_ble_eq_true rfl⟩⟩ (gi_isS hu9) (by decide) gw_960 gw_370 gw_371 rfl ⟨Nat.le_of_ble_eq_true rfl, Nat.le_of_ble_eq_true rfl⟩ (Nat.le_of_ble_eq_true rfl) (gy_k1 (x := .int (gI q10)) (kc2 := 0) (ks2 := 0) ⟨rfl, rfl⟩ ?_) gy_kn
    refine gy_bipush dX7_read_204 gcb_65 ?_
    refine gy_isub dX7_read_206 ?_
    refine gy_iconst dX7_read_207 ?_
    refine gx_bE e (fun _ hu11 e => ?_)
    refine gx_bE e (fun q12 hq12 e => ?_)
    refine gx_callV (n := 3) (st := []) (As := [.ref v2, .int (gI (q10 - (65 : Int))), .int (gI (0 : Int))]) (b := v0) dX7_read_208 (z_X7_release hq12) rfl ⟨rfl, gw_cw_X7_release, gw_4, gp_X7_release, ⟨Nat.le_of_ble_eq_true rfl, Nat.le_of_ble_eq_true rfl⟩⟩ (gi_isS hu11) (by decide) gw_990 gw_992 gs_44 rfl ⟨Nat.le_of_ble_eq_true rfl, Nat.le_of_ble_eq_true rfl⟩ (Nat.le_of_ble_eq_true rfl) (gy_k1 (x := .int (gI q12.1)) (kc2 := 0) (ks2 := 0) ⟨rfl, rfl⟩ ?_) gy_kn
    refine gx_bE e (fun _ g13 e => ?_)
    refine gx_iE e (fun c14 e => ?_) (fun c14 e => ?_)
    · refine gy_if_eq (tgt := 218) (gi_rgS g13) dX7_read_211 (by decide) (fun _ => ?_) (fun z => absurd c14 z)
      refine gx_sub (ls2 := []) [] rfl ?_
      exact zb_X7_read_218  e
    · refine gy_if_eq (tgt := 218) (gi_rgS g13) dX7_read_211 (by decide) (fun z => absurd z c14) (fun _ => ?_)
      refine gy_iconst dX7_read_214 ?_
      refine gx_goto (tgt := 219) dX7_read_215 (by decide) ?_
      cases e
      exact gx_zret (by decide +kernel) dX7_read_219 rfl ⟨Nat.le_of_ble_eq_true rfl, Nat.le_of_ble_eq_true rfl⟩ (fun z => z)
set_option maxRecDepth 100000 in
def b_X7_read_185 (n : Nat) (r13 : Nat → Nat → Nat → Int → Int → Int → gi_H → Option (Int × gi_H)) (v0 : Nat) (v1 : Nat) (v2 : Nat) (v4 : Int) (v5 : Int) (s0 : Int) (h : gi_H) : Option (Int × gi_H) :=
  gx_nm (v5 + (1 : Int)) fun t33 => r13 v0 v1 v2 s0 v4 t33 h
set_option maxRecDepth 100000 in
theorem zb_X7_read_185 {al : Bool} {n : Nat} {r13 : Nat → Nat → Nat → Int → Int → Int → gi_H → Option (Int × gi_H)} {res : Int} {h1 : gi_H} (hr13 : ∀ (x0 : Nat) (x1 : Nat) (x2 : Nat) (x3 : Int) (x4 : Int) (x5 : Int) (hh : gi_H), r13 x0 x1 x2 x3 x4 x5 hh = some (res, h1) → gx_Z mX7_read al al 0 0 13 [(0, .ref x0), (1, .ref x1), (2, .ref x2), (3, .int (gI x3)), (4, .int (gI x4)), (5, .int (gI x5))] [] (gi_cv hh) (.inl (some (.int (gI res)))) (gi_cv h1)) {v0 : Nat} {v1 : Nat} {v2 : Nat} {v4 : Int} {v5 : Int} {s0 : Int} {h : gi_H} (e : b_X7_read_185 n r13 v0 v1 v2 v4 v5 s0 h = some (res, h1)) : gx_Z mX7_read al al 0 0 185 [(0, .ref v0), (1, .ref v1), (2, .ref v2), (4, .int (gI v4)), (5, .int (gI v5))] [.int (gI s0)] (gi_cv h) (.inl (some (.int (gI res)))) (gi_cv h1) := by
  refine gx_istore_n (ls2 := [(3, .int (gI s0)), (0, .ref v0), (1, .ref v1), (2, .ref v2), (4, .int (gI v4)), (5, .int (gI v5))]) dX7_read_185 rfl (Nat.le_of_ble_eq_true rfl) rfl ?_
  refine gx_nE e (fun t33 ht33 e => ?_)
  refine gy_iinc (v := t33) (ls2 := [(5, .int (gI t33)), (3, .int (gI s0)), (0, .ref v0), (1, .ref v1), (2, .ref v2), (4, .int (gI v4))]) dX7_read_186 5 rfl ht33 (Nat.le_of_ble_eq_true rfl) rfl ?_
  refine gx_goto (tgt := 13) dX7_read_189 (by decide) ?_
  refine gx_sub (ls2 := [(0, .ref v0), (1, .ref v1), (2, .ref v2), (3, .int (gI s0)), (4, .int (gI v4)), (5, .int (gI t33))]) [2, 3, 4, 1, 5, 0] rfl ?_
  exact hr13 _ _ _ _ _ _ _ e
set_option maxRecDepth 100000 in
def b_X7_read_173 (n : Nat) (r13 : Nat → Nat → Nat → Int → Int → Int → gi_H → Option (Int × gi_H)) (v0 : Nat) (v1 : Nat) (v2 : Nat) (v4 : Int) (v5 : Int) (v6 : Int)  (h : gi_H) : Option (Int × gi_H) :=
  Option.bind (gi_rg v6) fun _ => if v6 = (37 : Int) then (b_X7_read_185 n r13 v0 v1 v2 v4 v5 (1 : Int) h) else (b_X7_read_185 n r13 v0 v1 v2 v4 v5 (0 : Int) h)
set_option maxRecDepth 100000 in
theorem zb_X7_read_173 {al : Bool} {n : Nat} {r13 : Nat → Nat → Nat → Int → Int → Int → gi_H → Option (Int × gi_H)} {res : Int} {h1 : gi_H} (hr13 : ∀ (x0 : Nat) (x1 : Nat) (x2 : Nat) (x3 : Int) (x4 : Int) (x5 : Int) (hh : gi_H), r13 x0 x1 x2 x3 x4 x5 hh = some (res, h1) → gx_Z mX7_read al al 0 0 13 [(0, .ref x0), (1, .ref x1), (2, .ref x2), (3, .int (gI x3)), (4, .int (gI x4)), (5, .int (gI x5))] [] (gi_cv hh) (.inl (some (.int (gI res)))) (gi_cv h1)) {v0 : Nat} {v1 : Nat} {v2 : Nat} {v4 : Int} {v5 : Int} {v6 : Int}  {h : gi_H} (e : b_X7_read_173 n r13 v0 v1 v2 v4 v5 v6 h = some (res, h1)) : gx_Z mX7_read al al 0 0 173 [(0, .ref v0), (1, .ref v1), (2, .ref v2), (4, .int (gI v4)), (5, .int (gI v5)), (6, .int (gI v6))] [] (gi_cv h) (.inl (some (.int (gI res)))) (gi_cv h1) := by
  refine gx_iload dX7_read_173 5 rfl ?_
  refine gy_bipush dX7_read_175 gcb_37 ?_
  refine gx_bE e (fun _ g31 e => ?_)
  refine gx_iE e (fun c32 e => ?_) (fun c32 e => ?_)
  · refine gy_icmp_ne (tgt := 184) (gi_rgS g31) (by decide) dX7_read_177 (by decide) (fun z => absurd c32 z) (fun _ => ?_)
    refine gy_iconst dX7_read_180 ?_
    refine gx_goto (tgt := 185) dX7_read_181 (by decide) ?_
    refine gx_sub (ls2 := [(0, .ref v0), (1, .ref v1), (2, .ref v2), (4, .int (gI v4)), (5, .int (gI v5))]) [0, 1, 2, 3, 4] rfl ?_
    exact zb_X7_read_185 hr13 e
  · refine gy_icmp_ne (tgt := 184) (gi_rgS g31) (by decide) dX7_read_177 (by decide) (fun _ => ?_) (fun z => absurd z c32)
    refine gy_iconst dX7_read_184 ?_
    refine gx_sub (ls2 := [(0, .ref v0), (1, .ref v1), (2, .ref v2), (4, .int (gI v4)), (5, .int (gI v5))]) [0, 1, 2, 3, 4] rfl ?_
    exact zb_X7_read_185 hr13 e
set_option maxRecDepth 100000 in
def b_X7_read_13 (n : Nat) (r13 : Nat → Nat → Nat → Int → Int → Int → gi_H → Option (Int × gi_H)) (v0 : Nat) (v1 : Nat) (v2 : Nat) (v3 : Int) (v4 : Int) (v5 : Int)  (h : gi_H) : Option (Int × gi_H) :=
  Option.bind (gi_is h v1 7) fun _ => Option.bind (f_X8_length v1 h) fun q3 => Option.bind (gi_rg v5) fun _ => Option.bind (gi_rg q3) fun _ => if q3 ≤ v5 then (b_X7_read_192 n  v0 v1 v2 v4 h) else (Option.bind (gi_rg v4) fun _ => if v4 = 0 then (b_X7_read_192 n  v0 v1 v2 v4 h) else (Option.bind (gi_is h v1 7) fun _ => Option.bind (f_X8_letter v1 v5 h) fun q18 => Option.bind (gi_rg v3) fun _ => if v3 = 0 then (Option.bind (f_X11_isTerminalLetter q18 h) fun q21 => Option.bind (gi_rg q21) fun _ => if q21 = 0 then (Option.bind (f_X11_isNonterminalLetter q18 h) fun q24 => Option.bind (gi_rg q24) fun _ => if q24 = 0 then (Option.bind (gi_rg q18) fun _ => if q18 = (124 : Int) then (Option.bind (gi_is h v0 6) fun _ => Option.bind (f_X7_push v0 (-1 : Int) h) fun q30 => b_X7_read_173 n r13 v0 v1 v2 q30.1 v5 q18 q30.2) else (if q18 = (40 : Int) then (Option.bind (gi_is h v0 6) fun _ => Option.bind (f_X7_push v0 (-2 : Int) h) fun q36 => b_X7_read_173 n r13 v0 v1 v2 q36.1 v5 q18 q36.2) else (if q18 = (41 : Int) then (Option.bind (gi_is h v0 6) fun _ => Option.bind (f_X7_closeBracket n v0 v2 h) fun q39 => b_X7_read_173 n r13 v0 v1 v2 q39.1 v5 q18 q39.2) else (Option.bind (f_X11_isRepeat q18 h) fun q40 => Option.bind (gi_rg q40) fun _ => if q40 = 0 then (b_X7_read_173 n r13 v0 v1 v2 v4 v5 q18 h) else (Option.bind (gi_is h v0 6) fun _ => Option.bind (f_X7_wrap n v0 v2 q18 (-1 : Int) h) fun q44 => b_X7_read_173 n r13 v0 v1 v2 q44.1 v5 q18 q44.2))))) else (Option.bind (gi_is h v0 6) fun _ => Option.bind (f_X7_push v0 (((16 : Int) + q18) - (65 : Int)) h) fun q46 => b_X7_read_173 n r13 v0 v1 v2 q46.1 v5 q18 q46.2)) else (Option.bind (gi_is h v0 6) fun _ => Option.bind (f_X7_push v0 (q18 - (97 : Int)) h) fun q48 => b_X7_read_173 n r13 v0 v1 v2 q48.1 v5 q18 q48.2)) else (Option.bind (gi_is h v0 6) fun _ => Option.bind (f_X7_wrap n v0 v2 (37 : Int) (q18 - (97 : Int)) h) fun q50 => b_X7_read_173 n r13 v0 v1 v2 q50.1 v5 q18 q50.2)))
set_option maxRecDepth 100000 in
theorem zb_X7_read_13 {al : Bool} {n : Nat} {r13 : Nat → Nat → Nat → Int → Int → Int → gi_H → Option (Int × gi_H)} {res : Int} {h1 : gi_H} (hr13 : ∀ (x0 : Nat) (x1 : Nat) (x2 : Nat) (x3 : Int) (x4 : Int) (x5 : Int) (hh : gi_H), r13 x0 x1 x2 x3 x4 x5 hh = some (res, h1) → gx_Z mX7_read al al 0 0 13 [(0, .ref x0), (1, .ref x1), (2, .ref x2), (3, .int (gI x3)), (4, .int (gI x4)), (5, .int (gI x5))] [] (gi_cv hh) (.inl (some (.int (gI res)))) (gi_cv h1)) {v0 : Nat} {v1 : Nat} {v2 : Nat} {v3 : Int} {v4 : Int} {v5 : Int}  {h : gi_H} (e : b_X7_read_13 n r13 v0 v1 v2 v3 v4 v5 h = some (res, h1)) : gx_Z mX7_read al al 0 0 13 [(0, .ref v0), (1, .ref v1), (2, .ref v2), (3, .int (gI v3)), (4, .int (gI v4)), (5, .int (gI v5))] [] (gi_cv h) (.inl (some (.int (gI res)))) (gi_cv h1) := by
  refine gx_iload dX7_read_13 5 rfl ?_
  refine gx_aload_n dX7_read_15 rfl 1 rfl ?_
  refine gx_bE e (fun _ hu2 e => ?_)
  refine gx_bE e (fun q3 hq3 e => ?_)
  refine gx_callV (n := 0) (st := [.int (gI v5)]) (As := []) (b := v1) dX7_read_16 (z_X8_length hq3) rfl ⟨rfl, gw_cw_X8_length, gw_2, gp_X8_length, ⟨Nat.le_of_ble_eq_true rfl, Nat.le_of_ble_eq_true rfl⟩⟩ (gi_isS hu2) (by decide) gw_956 gw_957 gw_958 rfl ⟨Nat.le_of_ble_eq_true rfl, Nat.le_of_ble_eq_true rfl⟩ (Nat.le_of_ble_eq_true rfl) (gy_k1 (x := .int (gI q3)) (kc2 := 0) (ks2 := 0) ⟨rfl, rfl⟩ ?_) gy_kn
  refine gx_bE e (fun _ g4 e => ?_)
  refine gx_bE e (fun _ g5 e => ?_)
  refine gx_iE e (fun c6 e => ?_) (fun c6 e => ?_)
  · refine gy_icmp_ge (tgt := 192) (gi_rgS g4) (gi_rgS g5) dX7_read_19 (by decide) (fun _ => ?_) (fun z => absurd c6 z)
    refine gx_sub (ls2 := [(0, .ref v0), (1, .ref v1), (2, .ref v2), (4, .int (gI v4))]) [0, 1, 2, 4] rfl ?_
    exact zb_X7_read_192  e
  · refine gy_icmp_ge (tgt := 192) (gi_rgS g4) (gi_rgS g5) dX7_read_19 (by decide) (fun z => absurd z c6) (fun _ => ?_)
    refine gx_iload dX7_read_22 4 rfl ?_
    refine gx_bE e (fun _ g15 e => ?_)
    refine gx_iE e (fun c16 e => ?_) (fun c16 e => ?_)
    · refine gy_if_eq (tgt := 192) (gi_rgS g15) dX7_read_24 (by decide) (fun _ => ?_) (fun z => absurd c16 z)
      refine gx_sub (ls2 := [(0, .ref v0), (1, .ref v1), (2, .ref v2), (4, .int (gI v4))]) [0, 1, 2, 4] rfl ?_
      exact zb_X7_read_192  e
    · refine gy_if_eq (tgt := 192) (gi_rgS g15) dX7_read_24 (by decide) (fun z => absurd z c16) (fun _ => ?_)
      refine gx_aload_n dX7_read_27 rfl 1 rfl ?_
      refine gx_iload dX7_read_28 5 rfl ?_
      refine gx_bE e (fun _ hu17 e => ?_)
      refine gx_bE e (fun q18 hq18 e => ?_)
      refine gx_callV (n := 1) (st := []) (As := [.int (gI v5)]) (b := v1) dX7_read_30 (z_X8_letter hq18) rfl ⟨rfl, gw_cw_X8_letter, gw_2, gp_X8_letter, ⟨Nat.le_of_ble_eq_true rfl, Nat.le_of_ble_eq_true rfl⟩⟩ (gi_isS hu17) (by decide) gw_960 gw_370 gw_371 rfl ⟨Nat.le_of_ble_eq_true rfl, Nat.le_of_ble_eq_true rfl⟩ (Nat.le_of_ble_eq_true rfl) (gy_k1 (x := .int (gI q18)) (kc2 := 0) (ks2 := 0) ⟨rfl, rfl⟩ ?_) gy_kn
      refine gx_istore (ls2 := [(6, .int (gI q18)), (0, .ref v0), (1, .ref v1), (2, .ref v2), (3, .int (gI v3)), (4, .int (gI v4)), (5, .int (gI v5))]) dX7_read_33 (Nat.le_of_ble_eq_true rfl) rfl ?_
      refine gx_iload_n dX7_read_35 rfl 4 rfl ?_
      refine gx_bE e (fun _ g19 e => ?_)
      refine gx_iE e (fun c20 e => ?_) (fun c20 e => ?_)
      · refine gy_if_eq (tgt := 56) (gi_rgS g19) dX7_read_36 (by decide) (fun _ => ?_) (fun z => absurd c20 z)
        refine gx_iload dX7_read_56 0 rfl ?_
        refine gx_bE e (fun q21 hq21 e => ?_)
        refine gx_callSN (n := 1) (st := []) (As := [.int (gI q18)]) dX7_read_58 (z_X11_isTerminalLetter hq21) rfl ⟨rfl, gw_cw_X11_isTerminalLetter, gw_1, gp_X11_isTerminalLetter, ⟨Nat.le_of_ble_eq_true rfl, Nat.le_of_ble_eq_true rfl⟩⟩ (host := "Grammarsmith") (by decide +kernel) gw_380 ⟨Nat.le_of_ble_eq_true rfl, Nat.le_of_ble_eq_true rfl⟩ (Nat.le_of_ble_eq_true rfl) (gy_k1 (x := .int (gI q21)) (kc2 := 0) (ks2 := 0) ⟨rfl, rfl⟩ ?_) gy_kn
        refine gx_bE e (fun _ g22 e => ?_)
        refine gx_iE e (fun c23 e => ?_) (fun c23 e => ?_)
        · refine gy_if_eq (tgt := 78) (gi_rgS g22) dX7_read_61 (by decide) (fun _ => ?_) (fun z => absurd c23 z)
          refine gx_iload dX7_read_78 0 rfl ?_
          refine gx_bE e (fun q24 hq24 e => ?_)
          refine gx_callSN (n := 1) (st := []) (As := [.int (gI q18)]) dX7_read_80 (z_X11_isNonterminalLetter hq24) rfl ⟨rfl, gw_cw_X11_isNonterminalLetter, gw_1, gp_X11_isNonterminalLetter, ⟨Nat.le_of_ble_eq_true rfl, Nat.le_of_ble_eq_true rfl⟩⟩ (host := "Grammarsmith") (by decide +kernel) gw_377 ⟨Nat.le_of_ble_eq_true rfl, Nat.le_of_ble_eq_true rfl⟩ (Nat.le_of_ble_eq_true rfl) (gy_k1 (x := .int (gI q24)) (kc2 := 0) (ks2 := 0) ⟨rfl, rfl⟩ ?_) gy_kn
          refine gx_bE e (fun _ g25 e => ?_)
          refine gx_iE e (fun c26 e => ?_) (fun c26 e => ?_)
          · refine gy_if_eq (tgt := 103) (gi_rgS g25) dX7_read_83 (by decide) (fun _ => ?_) (fun z => absurd c26 z)
            refine gx_iload dX7_read_103 0 rfl ?_
            refine gy_bipush dX7_read_105 gcb_124 ?_
            refine gx_bE e (fun _ g27 e => ?_)
            refine gx_iE e (fun c28 e => ?_) (fun c28 e => ?_)
            · refine gy_icmp_ne (tgt := 120) (gi_rgS g27) (by decide) dX7_read_107 (by decide) (fun z => absurd c28 z) (fun _ => ?_)
              refine gx_aload_n dX7_read_110 rfl 1 rfl ?_
              refine gy_iconst dX7_read_111 ?_
              refine gx_bE e (fun _ hu29 e => ?_)
              refine gx_bE e (fun q30 hq30 e => ?_)
              refine gx_callV (n := 1) (st := []) (As := [.int (gI (-1 : Int))]) (b := v0) dX7_read_112 (z_X7_push hq30) rfl ⟨rfl, gw_cw_X7_push, gw_4, gp_X7_push, ⟨Nat.le_of_ble_eq_true rfl, Nat.le_of_ble_eq_true rfl⟩⟩ (gi_isS hu29) (by decide) gw_981 gw_983 gs_42 rfl ⟨Nat.le_of_ble_eq_true rfl, Nat.le_of_ble_eq_true rfl⟩ (Nat.le_of_ble_eq_true rfl) (gy_k1 (x := .int (gI q30.1)) (kc2 := 0) (ks2 := 0) ⟨rfl, rfl⟩ ?_) gy_kn
              refine gx_istore (ls2 := [(4, .int (gI q30.1)), (6, .int (gI q18)), (0, .ref v0), (1, .ref v1), (2, .ref v2), (3, .int (gI v3)), (5, .int (gI v5))]) dX7_read_115 (Nat.le_of_ble_eq_true rfl) rfl ?_
              refine gx_goto (tgt := 173) dX7_read_117 (by decide) ?_
              refine gx_sub (ls2 := [(0, .ref v0), (1, .ref v1), (2, .ref v2), (4, .int (gI q30.1)), (5, .int (gI v5)), (6, .int (gI q18))]) [2, 3, 4, 0, 6, 1] rfl ?_
              exact zb_X7_read_173 hr13 e
            · refine gy_icmp_ne (tgt := 120) (gi_rgS g27) (by decide) dX7_read_107 (by decide) (fun _ => ?_) (fun z => absurd z c28)
              refine gx_iload dX7_read_120 0 rfl ?_
              refine gy_bipush dX7_read_122 gcb_40 ?_
              refine gx_iE e (fun c34 e => ?_) (fun c34 e => ?_)
              · refine gy_icmp_ne (tgt := 138) (gi_rgS g27) (by decide) dX7_read_124 (by decide) (fun z => absurd c34 z) (fun _ => ?_)
                refine gx_aload_n dX7_read_127 rfl 1 rfl ?_
                refine gy_bipush dX7_read_128 gcb_m2 ?_
                refine gx_bE e (fun _ hu35 e => ?_)
                refine gx_bE e (fun q36 hq36 e => ?_)
                refine gx_callV (n := 1) (st := []) (As := [.int (gI (-2 : Int))]) (b := v0) dX7_read_130 (z_X7_push hq36) rfl ⟨rfl, gw_cw_X7_push, gw_4, gp_X7_push, ⟨Nat.le_of_ble_eq_true rfl, Nat.le_of_ble_eq_true rfl⟩⟩ (gi_isS hu35) (by decide) gw_981 gw_983 gs_42 rfl ⟨Nat.le_of_ble_eq_true rfl, Nat.le_of_ble_eq_true rfl⟩ (Nat.le_of_ble_eq_true rfl) (gy_k1 (x := .int (gI q36.1)) (kc2 := 0) (ks2 := 0) ⟨rfl, rfl⟩ ?_) gy_kn
                refine gx_istore (ls2 := [(4, .int (gI q36.1)), (6, .int (gI q18)), (0, .ref v0), (1, .ref v1), (2, .ref v2), (3, .int (gI v3)), (5, .int (gI v5))]) dX7_read_133 (Nat.le_of_ble_eq_true rfl) rfl ?_
                refine gx_goto (tgt := 173) dX7_read_135 (by decide) ?_
                refine gx_sub (ls2 := [(0, .ref v0), (1, .ref v1), (2, .ref v2), (4, .int (gI q36.1)), (5, .int (gI v5)), (6, .int (gI q18))]) [2, 3, 4, 0, 6, 1] rfl ?_
                exact zb_X7_read_173 hr13 e
              · refine gy_icmp_ne (tgt := 138) (gi_rgS g27) (by decide) dX7_read_124 (by decide) (fun _ => ?_) (fun z => absurd z c34)
                refine gx_iload dX7_read_138 0 rfl ?_
                refine gy_bipush dX7_read_140 gcb_41 ?_
                refine gx_iE e (fun c37 e => ?_) (fun c37 e => ?_)
                · refine gy_icmp_ne (tgt := 155) (gi_rgS g27) (by decide) dX7_read_142 (by decide) (fun z => absurd c37 z) (fun _ => ?_)
                  refine gx_aload_n dX7_read_145 rfl 1 rfl ?_
                  refine gx_aload_n dX7_read_146 rfl 3 rfl ?_
                  refine gx_bE e (fun _ hu38 e => ?_)
                  refine gx_bE e (fun q39 hq39 e => ?_)
                  refine gx_callV (n := 1) (st := []) (As := [.ref v2]) (b := v0) dX7_read_147 (z_X7_closeBracket hq39) rfl ⟨rfl, gw_cw_X7_closeBracket, gw_4, gp_X7_closeBracket, ⟨Nat.le_of_ble_eq_true rfl, Nat.le_of_ble_eq_true rfl⟩⟩ (gi_isS hu38) (by decide) gw_986 gw_988 gs_43 rfl ⟨Nat.le_of_ble_eq_true rfl, Nat.le_of_ble_eq_true rfl⟩ (Nat.le_of_ble_eq_true rfl) (gy_k1 (x := .int (gI q39.1)) (kc2 := 0) (ks2 := 0) ⟨rfl, rfl⟩ ?_) gy_kn
                  refine gx_istore (ls2 := [(4, .int (gI q39.1)), (6, .int (gI q18)), (0, .ref v0), (1, .ref v1), (2, .ref v2), (3, .int (gI v3)), (5, .int (gI v5))]) dX7_read_150 (Nat.le_of_ble_eq_true rfl) rfl ?_
                  refine gx_goto (tgt := 173) dX7_read_152 (by decide) ?_
                  refine gx_sub (ls2 := [(0, .ref v0), (1, .ref v1), (2, .ref v2), (4, .int (gI q39.1)), (5, .int (gI v5)), (6, .int (gI q18))]) [2, 3, 4, 0, 6, 1] rfl ?_
                  exact zb_X7_read_173 hr13 e
                · refine gy_icmp_ne (tgt := 155) (gi_rgS g27) (by decide) dX7_read_142 (by decide) (fun _ => ?_) (fun z => absurd z c37)
                  refine gx_iload dX7_read_155 0 rfl ?_
                  refine gx_bE e (fun q40 hq40 e => ?_)
                  refine gx_callSN (n := 1) (st := []) (As := [.int (gI q18)]) dX7_read_157 (z_X11_isRepeat hq40) rfl ⟨rfl, gw_cw_X11_isRepeat, gw_1, gp_X11_isRepeat, ⟨Nat.le_of_ble_eq_true rfl, Nat.le_of_ble_eq_true rfl⟩⟩ (host := "Grammarsmith") (by decide +kernel) gw_386 ⟨Nat.le_of_ble_eq_true rfl, Nat.le_of_ble_eq_true rfl⟩ (Nat.le_of_ble_eq_true rfl) (gy_k1 (x := .int (gI q40)) (kc2 := 0) (ks2 := 0) ⟨rfl, rfl⟩ ?_) gy_kn
                  refine gx_bE e (fun _ g41 e => ?_)
                  refine gx_iE e (fun c42 e => ?_) (fun c42 e => ?_)
                  · refine gy_if_eq (tgt := 173) (gi_rgS g41) dX7_read_160 (by decide) (fun _ => ?_) (fun z => absurd c42 z)
                    refine gx_sub (ls2 := [(0, .ref v0), (1, .ref v1), (2, .ref v2), (4, .int (gI v4)), (5, .int (gI v5)), (6, .int (gI q18))]) [1, 2, 3, 5, 6, 0] rfl ?_
                    exact zb_X7_read_173 hr13 e
                  · refine gy_if_eq (tgt := 173) (gi_rgS g41) dX7_read_160 (by decide) (fun z => absurd z c42) (fun _ => ?_)
                    refine gx_aload_n dX7_read_163 rfl 1 rfl ?_
                    refine gx_aload_n dX7_read_164 rfl 3 rfl ?_
                    refine gx_iload dX7_read_165 0 rfl ?_
                    refine gy_iconst dX7_read_167 ?_
                    refine gx_bE e (fun _ hu43 e => ?_)
                    refine gx_bE e (fun q44 hq44 e => ?_)
                    refine gx_callV (n := 3) (st := []) (As := [.ref v2, .int (gI q18), .int (gI (-1 : Int))]) (b := v0) dX7_read_168 (z_X7_wrap hq44) rfl ⟨rfl, gw_cw_X7_wrap, gw_4, gp_X7_wrap, ⟨Nat.le_of_ble_eq_true rfl, Nat.le_of_ble_eq_true rfl⟩⟩ (gi_isS hu43) (by decide) gw_961 gw_963 gs_41 rfl ⟨Nat.le_of_ble_eq_true rfl, Nat.le_of_ble_eq_true rfl⟩ (Nat.le_of_ble_eq_true rfl) (gy_k1 (x := .int (gI q44.1)) (kc2 := 0) (ks2 := 0) ⟨rfl, rfl⟩ ?_) gy_kn
                    refine gx_istore (ls2 := [(4, .int (gI q44.1)), (6, .int (gI q18)), (0, .ref v0), (1, .ref v1), (2, .ref v2), (3, .int (gI v3)), (5, .int (gI v5))]) dX7_read_171 (Nat.le_of_ble_eq_true rfl) rfl ?_
                    refine gx_sub (ls2 := [(0, .ref v0), (1, .ref v1), (2, .ref v2), (4, .int (gI q44.1)), (5, .int (gI v5)), (6, .int (gI q18))]) [2, 3, 4, 0, 6, 1] rfl ?_
                    exact zb_X7_read_173 hr13 e
          · refine gy_if_eq (tgt := 103) (gi_rgS g25) dX7_read_83 (by decide) (fun z => absurd z c26) (fun _ => ?_)
            refine gx_aload_n dX7_read_86 rfl 1 rfl ?_
            refine gy_bipush dX7_read_87 gcb_16 ?_
            refine gx_iload dX7_read_89 0 rfl ?_
            refine gy_iadd dX7_read_91 ?_
            refine gy_bipush dX7_read_92 gcb_65 ?_
            refine gy_isub dX7_read_94 ?_
            refine gx_bE e (fun _ hu45 e => ?_)
            refine gx_bE e (fun q46 hq46 e => ?_)
            refine gx_callV (n := 1) (st := []) (As := [.int (gI (((16 : Int) + q18) - (65 : Int)))]) (b := v0) dX7_read_95 (z_X7_push hq46) rfl ⟨rfl, gw_cw_X7_push, gw_4, gp_X7_push, ⟨Nat.le_of_ble_eq_true rfl, Nat.le_of_ble_eq_true rfl⟩⟩ (gi_isS hu45) (by decide) gw_981 gw_983 gs_42 rfl ⟨Nat.le_of_ble_eq_true rfl, Nat.le_of_ble_eq_true rfl⟩ (Nat.le_of_ble_eq_true rfl) (gy_k1 (x := .int (gI q46.1)) (kc2 := 0) (ks2 := 0) ⟨rfl, rfl⟩ ?_) gy_kn
            refine gx_istore (ls2 := [(4, .int (gI q46.1)), (6, .int (gI q18)), (0, .ref v0), (1, .ref v1), (2, .ref v2), (3, .int (gI v3)), (5, .int (gI v5))]) dX7_read_98 (Nat.le_of_ble_eq_true rfl) rfl ?_
            refine gx_goto (tgt := 173) dX7_read_100 (by decide) ?_
            refine gx_sub (ls2 := [(0, .ref v0), (1, .ref v1), (2, .ref v2), (4, .int (gI q46.1)), (5, .int (gI v5)), (6, .int (gI q18))]) [2, 3, 4, 0, 6, 1] rfl ?_
            exact zb_X7_read_173 hr13 e
        · refine gy_if_eq (tgt := 78) (gi_rgS g22) dX7_read_61 (by decide) (fun z => absurd z c23) (fun _ => ?_)
          refine gx_aload_n dX7_read_64 rfl 1 rfl ?_
          refine gx_iload dX7_read_65 0 rfl ?_
          refine gy_bipush dX7_read_67 gcb_97 ?_
          refine gy_isub dX7_read_69 ?_
          refine gx_bE e (fun _ hu47 e => ?_)
          refine gx_bE e (fun q48 hq48 e => ?_)
          refine gx_callV (n := 1) (st := []) (As := [.int (gI (q18 - (97 : Int)))]) (b := v0) dX7_read_70 (z_X7_push hq48) rfl ⟨rfl, gw_cw_X7_push, gw_4, gp_X7_push, ⟨Nat.le_of_ble_eq_true rfl, Nat.le_of_ble_eq_true rfl⟩⟩ (gi_isS hu47) (by decide) gw_981 gw_983 gs_42 rfl ⟨Nat.le_of_ble_eq_true rfl, Nat.le_of_ble_eq_true rfl⟩ (Nat.le_of_ble_eq_true rfl) (gy_k1 (x := .int (gI q48.1)) (kc2 := 0) (ks2 := 0) ⟨rfl, rfl⟩ ?_) gy_kn
          refine gx_istore (ls2 := [(4, .int (gI q48.1)), (6, .int (gI q18)), (0, .ref v0), (1, .ref v1), (2, .ref v2), (3, .int (gI v3)), (5, .int (gI v5))]) dX7_read_73 (Nat.le_of_ble_eq_true rfl) rfl ?_
          refine gx_goto (tgt := 173) dX7_read_75 (by decide) ?_
          refine gx_sub (ls2 := [(0, .ref v0), (1, .ref v1), (2, .ref v2), (4, .int (gI q48.1)), (5, .int (gI v5)), (6, .int (gI q18))]) [2, 3, 4, 0, 6, 1] rfl ?_
          exact zb_X7_read_173 hr13 e
      · refine gy_if_eq (tgt := 56) (gi_rgS g19) dX7_read_36 (by decide) (fun z => absurd z c20) (fun _ => ?_)
        refine gx_aload_n dX7_read_39 rfl 1 rfl ?_
        refine gx_aload_n dX7_read_40 rfl 3 rfl ?_
        refine gy_bipush dX7_read_41 gcb_37 ?_
        refine gx_iload dX7_read_43 0 rfl ?_
        refine gy_bipush dX7_read_45 gcb_97 ?_
        refine gy_isub dX7_read_47 ?_
        refine gx_bE e (fun _ hu49 e => ?_)
        refine gx_bE e (fun q50 hq50 e => ?_)
        refine gx_callV (n := 3) (st := []) (As := [.ref v2, .int (gI (37 : Int)), .int (gI (q18 - (97 : Int)))]) (b := v0) dX7_read_48 (z_X7_wrap hq50) rfl ⟨rfl, gw_cw_X7_wrap, gw_4, gp_X7_wrap, ⟨Nat.le_of_ble_eq_true rfl, Nat.le_of_ble_eq_true rfl⟩⟩ (gi_isS hu49) (by decide) gw_961 gw_963 gs_41 rfl ⟨Nat.le_of_ble_eq_true rfl, Nat.le_of_ble_eq_true rfl⟩ (Nat.le_of_ble_eq_true rfl) (gy_k1 (x := .int (gI q50.1)) (kc2 := 0) (ks2 := 0) ⟨rfl, rfl⟩ ?_) gy_kn
        refine gx_istore (ls2 := [(4, .int (gI q50.1)), (6, .int (gI q18)), (0, .ref v0), (1, .ref v1), (2, .ref v2), (3, .int (gI v3)), (5, .int (gI v5))]) dX7_read_51 (Nat.le_of_ble_eq_true rfl) rfl ?_
        refine gx_goto (tgt := 173) dX7_read_53 (by decide) ?_
        refine gx_sub (ls2 := [(0, .ref v0), (1, .ref v1), (2, .ref v2), (4, .int (gI q50.1)), (5, .int (gI v5)), (6, .int (gI q18))]) [2, 3, 4, 0, 6, 1] rfl ?_
        exact zb_X7_read_173 hr13 e
def l_X7_read_13 (n : Nat)  : Nat → Nat → Nat → Nat → Int → Int → Int → gi_H → Option (Int × gi_H)
  | 0, _, _, _, _, _, _, _ => none
  | k + 1, v0, v1, v2, v3, v4, v5, h => b_X7_read_13 n  (l_X7_read_13 n  k) v0 v1 v2 v3 v4 v5 h
theorem zl_X7_read_13 {al : Bool} {n : Nat}  {res : Int} {h1 : gi_H}  : ∀ (k : Nat) (v0 : Nat) (v1 : Nat) (v2 : Nat) (v3 : Int) (v4 : Int) (v5 : Int) (h : gi_H), l_X7_read_13 n  k v0 v1 v2 v3 v4 v5 h = some (res, h1) → gx_Z mX7_read al al 0 0 13 [(0, .ref v0), (1, .ref v1), (2, .ref v2), (3, .int (gI v3)), (4, .int (gI v4)), (5, .int (gI v5))] [] (gi_cv h) (.inl (some (.int (gI res)))) (gi_cv h1)
  | 0, _, _, _, _, _, _, _, e => gx_0E e
  | k + 1, _, _, _, _, _, _, _, e => zb_X7_read_13 (n := n)  (zl_X7_read_13  k) e
set_option maxRecDepth 100000 in
def f_X7_read (n : Nat) (v0 : Nat) (v1 : Nat) (v2 : Nat) (h : gi_H) : Option (Int × gi_H) :=
  Option.bind (gi_pI h v0 6 1 (0 : Int)) fun h1 => l_X7_read_13 n  n v0 v1 v2 (0 : Int) (1 : Int) (2 : Int) h1
set_option maxRecDepth 100000 in
theorem z_X7_read {al : Bool} {n : Nat} {v0 : Nat} {v1 : Nat} {v2 : Nat} {h : gi_H} {res : Int} {h1 : gi_H} (e : f_X7_read n v0 v1 v2 h = some (res, h1)) : gx_Cw mX7_read al [.ref v0, .ref v1, .ref v2] (gi_cv h) (.inl (some (.int (gI res)))) (gi_cv h1) := by
  refine gx_enter (by decide +kernel) rfl (Nat.le_of_ble_eq_true rfl) ?_
  show gx_Z mX7_read al al 0 0 0 [(0, .ref v0), (1, .ref v1), (2, .ref v2)] [] (gi_cv h) (.inl (some (.int (gI res)))) (gi_cv h1)
  refine gx_aload_n dX7_read_0 rfl 0 rfl ?_
  refine gy_iconst dX7_read_1 ?_
  refine gx_bE e (fun h1 hh1 e => ?_)
  refine gy_qI hh1 dX7_read_2 gf_RX7_15_6_1 (by decide) gkN_6_1 rfl (Or.inl rfl) ?_
  refine gy_iconst dX7_read_5 ?_
  refine gx_istore_n (ls2 := [(3, .int (gI (0 : Int))), (0, .ref v0), (1, .ref v1), (2, .ref v2)]) dX7_read_6 rfl (Nat.le_of_ble_eq_true rfl) rfl ?_
  refine gy_iconst dX7_read_7 ?_
  refine gx_istore (ls2 := [(4, .int (gI (1 : Int))), (3, .int (gI (0 : Int))), (0, .ref v0), (1, .ref v1), (2, .ref v2)]) dX7_read_8 (Nat.le_of_ble_eq_true rfl) rfl ?_
  refine gy_iconst dX7_read_10 ?_
  refine gx_istore (ls2 := [(5, .int (gI (2 : Int))), (4, .int (gI (1 : Int))), (3, .int (gI (0 : Int))), (0, .ref v0), (1, .ref v1), (2, .ref v2)]) dX7_read_11 (Nat.le_of_ble_eq_true rfl) rfl ?_
  refine gx_sub (ls2 := [(0, .ref v0), (1, .ref v1), (2, .ref v2), (3, .int (gI (0 : Int))), (4, .int (gI (1 : Int))), (5, .int (gI (2 : Int)))]) [3, 4, 5, 2, 1, 0] rfl ?_
  exact zl_X7_read_13  n _ _ _ _ _ _ _ e
/-! X8_copyRenamed  -/
set_option maxRecDepth 100000 in
def b_X8_copyRenamed_59 (n : Nat) (r7 : Nat → Nat → Int → Int → gi_H → Option (gi_H)) (v0 : Nat) (v1 : Nat) (v2 : Int) (v3 : Int)  (h : gi_H) : Option (gi_H) :=
  gx_nm (v3 + (1 : Int)) fun t13 => r7 v0 v1 v2 t13 h
set_option maxRecDepth 100000 in
theorem zb_X8_copyRenamed_59 {al : Bool} {n : Nat} {r7 : Nat → Nat → Int → Int → gi_H → Option (gi_H)} {h1 : gi_H} (hr7 : ∀ (x0 : Nat) (x1 : Nat) (x2 : Int) (x3 : Int) (hh : gi_H), r7 x0 x1 x2 x3 hh = some h1 → gx_Z mX8_copyRenamed al al 0 0 7 [(0, .ref x0), (1, .ref x1), (2, .int (gI x2)), (3, .int (gI x3))] [] (gi_cv hh) (.inl none) (gi_cv h1)) {v0 : Nat} {v1 : Nat} {v2 : Int} {v3 : Int}  {h : gi_H} (e : b_X8_copyRenamed_59 n r7 v0 v1 v2 v3 h = some h1) : gx_Z mX8_copyRenamed al al 0 0 59 [(0, .ref v0), (1, .ref v1), (2, .int (gI v2)), (3, .int (gI v3))] [] (gi_cv h) (.inl none) (gi_cv h1) := by
  refine gx_nE e (fun t13 ht13 e => ?_)
  refine gy_iinc (v := t13) (ls2 := [(3, .int (gI t13)), (0, .ref v0), (1, .ref v1), (2, .int (gI v2))]) dX8_copyRenamed_59 3 rfl ht13 (Nat.le_of_ble_eq_true rfl) rfl ?_
  refine gx_goto (tgt := 7) dX8_copyRenamed_62 (by decide) ?_
  refine gx_sub (ls2 := [(0, .ref v0), (1, .ref v1), (2, .int (gI v2)), (3, .int (gI t13))]) [1, 2, 3, 0] rfl ?_
  exact hr7 _ _ _ _ _ e
set_option maxRecDepth 100000 in
def b_X8_copyRenamed_7 (n : Nat) (r7 : Nat → Nat → Int → Int → gi_H → Option (gi_H)) (v0 : Nat) (v1 : Nat) (v2 : Int) (v3 : Int)  (h : gi_H) : Option (gi_H) :=
  Option.bind (gi_gI h v1 7 1) fun t2 => Option.bind (gi_rg v3) fun _ => Option.bind (gi_rg t2) fun _ => if t2 ≤ v3 then (some h) else (Option.bind (gi_is h v1 7) fun _ => Option.bind (f_X8_letter v1 v3 h) fun q7 => Option.bind (f_X11_isNonterminalLetter q7 h) fun q8 => Option.bind (gi_rg q8) fun _ => if q8 = 0 then (Option.bind (gi_is h v0 7) fun _ => Option.bind (f_X8_append v0 q7 h) fun q12 => b_X8_copyRenamed_59 n r7 v0 v1 v2 v3 q12.2) else (Option.bind (gi_dg ((q7 - (65 : Int)) + v2) (8 : Int)) fun _ => Option.bind (gi_is h v0 7) fun _ => Option.bind (f_X8_append v0 (((65 : Int) + (((q7 - (65 : Int)) + v2) % (8 : Int))) % 65536) h) fun q16 => b_X8_copyRenamed_59 n r7 v0 v1 v2 v3 q16.2))
set_option maxRecDepth 100000 in
theorem zb_X8_copyRenamed_7 {al : Bool} {n : Nat} {r7 : Nat → Nat → Int → Int → gi_H → Option (gi_H)} {h1 : gi_H} (hr7 : ∀ (x0 : Nat) (x1 : Nat) (x2 : Int) (x3 : Int) (hh : gi_H), r7 x0 x1 x2 x3 hh = some h1 → gx_Z mX8_copyRenamed al al 0 0 7 [(0, .ref x0), (1, .ref x1), (2, .int (gI x2)), (3, .int (gI x3))] [] (gi_cv hh) (.inl none) (gi_cv h1)) {v0 : Nat} {v1 : Nat} {v2 : Int} {v3 : Int}  {h : gi_H} (e : b_X8_copyRenamed_7 n r7 v0 v1 v2 v3 h = some h1) : gx_Z mX8_copyRenamed al al 0 0 7 [(0, .ref v0), (1, .ref v1), (2, .int (gI v2)), (3, .int (gI v3))] [] (gi_cv h) (.inl none) (gi_cv h1) := by
  refine gx_iload_n dX8_copyRenamed_7 rfl 3 rfl ?_
  refine gx_aload_n dX8_copyRenamed_8 rfl 1 rfl ?_
  refine gx_bE e (fun t2 ht2 e => ?_)
  refine gy_fI ht2 dX8_copyRenamed_9 gf_RX8_15_7_1 (by decide) gkN_7_1 gkR_7_1 ?_
  refine gx_bE e (fun _ g3 e => ?_)
  refine gx_bE e (fun _ g4 e => ?_)
  refine gx_iE e (fun c5 e => ?_) (fun c5 e => ?_)
  · refine gy_icmp_ge (tgt := 65) (gi_rgS g3) (gi_rgS g4) dX8_copyRenamed_12 (by decide) (fun _ => ?_) (fun z => absurd c5 z)
    cases e
    exact gx_vret dX8_copyRenamed_65 rfl ⟨Nat.le_of_ble_eq_true rfl, Nat.le_of_ble_eq_true rfl⟩ (fun z => z)
  · refine gy_icmp_ge (tgt := 65) (gi_rgS g3) (gi_rgS g4) dX8_copyRenamed_12 (by decide) (fun z => absurd z c5) (fun _ => ?_)
    refine gx_aload_n dX8_copyRenamed_15 rfl 1 rfl ?_
    refine gx_iload_n dX8_copyRenamed_16 rfl 3 rfl ?_
    refine gx_bE e (fun _ hu6 e => ?_)
    refine gx_bE e (fun q7 hq7 e => ?_)
    refine gx_callV (n := 1) (st := []) (As := [.int (gI v3)]) (b := v1) dX8_copyRenamed_17 (z_X8_letter hq7) rfl ⟨rfl, gw_cw_X8_letter, gw_2, gp_X8_letter, ⟨Nat.le_of_ble_eq_true rfl, Nat.le_of_ble_eq_true rfl⟩⟩ (gi_isS hu6) (by decide) gw_369 gw_370 gw_371 rfl ⟨Nat.le_of_ble_eq_true rfl, Nat.le_of_ble_eq_true rfl⟩ (Nat.le_of_ble_eq_true rfl) (gy_k1 (x := .int (gI q7)) (kc2 := 0) (ks2 := 0) ⟨rfl, rfl⟩ ?_) gy_kn
    refine gx_istore (ls2 := [(4, .int (gI q7)), (0, .ref v0), (1, .ref v1), (2, .int (gI v2)), (3, .int (gI v3))]) dX8_copyRenamed_20 (Nat.le_of_ble_eq_true rfl) rfl ?_
    refine gx_iload dX8_copyRenamed_22 0 rfl ?_
    refine gx_bE e (fun q8 hq8 e => ?_)
    refine gx_callSN (n := 1) (st := []) (As := [.int (gI q7)]) dX8_copyRenamed_24 (z_X11_isNonterminalLetter hq8) rfl ⟨rfl, gw_cw_X11_isNonterminalLetter, gw_1, gp_X11_isNonterminalLetter, ⟨Nat.le_of_ble_eq_true rfl, Nat.le_of_ble_eq_true rfl⟩⟩ (host := "Grammarsmith") (by decide +kernel) gw_377 ⟨Nat.le_of_ble_eq_true rfl, Nat.le_of_ble_eq_true rfl⟩ (Nat.le_of_ble_eq_true rfl) (gy_k1 (x := .int (gI q8)) (kc2 := 0) (ks2 := 0) ⟨rfl, rfl⟩ ?_) gy_kn
    refine gx_bE e (fun _ g9 e => ?_)
    refine gx_iE e (fun c10 e => ?_) (fun c10 e => ?_)
    · refine gy_if_eq (tgt := 52) (gi_rgS g9) dX8_copyRenamed_27 (by decide) (fun _ => ?_) (fun z => absurd c10 z)
      refine gx_aload_n dX8_copyRenamed_52 rfl 1 rfl ?_
      refine gx_iload dX8_copyRenamed_53 0 rfl ?_
      refine gx_bE e (fun _ hu11 e => ?_)
      refine gx_bE e (fun q12 hq12 e => ?_)
      refine gx_callV (n := 1) (st := []) (As := [.int (gI q7)]) (b := v0) dX8_copyRenamed_55 (z_X8_append hq12) rfl ⟨rfl, gw_cw_X8_append, gw_2, gp_X8_append, ⟨Nat.le_of_ble_eq_true rfl, Nat.le_of_ble_eq_true rfl⟩⟩ (gi_isS hu11) (by decide) gw_999 gw_937 gw_938 rfl ⟨Nat.le_of_ble_eq_true rfl, Nat.le_of_ble_eq_true rfl⟩ (Nat.le_of_ble_eq_true rfl) (gy_k1 (x := .int (gI q12.1)) (kc2 := 0) (ks2 := 0) ⟨rfl, rfl⟩ ?_) gy_kn
      refine gx_pop dX8_copyRenamed_58 rfl ?_
      refine gx_sub (ls2 := [(0, .ref v0), (1, .ref v1), (2, .int (gI v2)), (3, .int (gI v3))]) [1, 2, 3, 4] rfl ?_
      exact zb_X8_copyRenamed_59 hr7 e
    · refine gy_if_eq (tgt := 52) (gi_rgS g9) dX8_copyRenamed_27 (by decide) (fun z => absurd z c10) (fun _ => ?_)
      refine gx_aload_n dX8_copyRenamed_30 rfl 1 rfl ?_
      refine gy_bipush dX8_copyRenamed_31 gcb_65 ?_
      refine gx_iload dX8_copyRenamed_33 0 rfl ?_
      refine gy_bipush dX8_copyRenamed_35 gcb_65 ?_
      refine gy_isub dX8_copyRenamed_37 ?_
      refine gx_iload_n dX8_copyRenamed_38 rfl 3 rfl ?_
      refine gy_iadd dX8_copyRenamed_39 ?_
      refine gy_bipush dX8_copyRenamed_40 gcb_8 ?_
      refine gx_bE e (fun _ hu14 e => ?_)
      refine gy_irem hu14 dX8_copyRenamed_42 ?_
      refine gy_iadd dX8_copyRenamed_43 ?_
      refine gy_i2c dX8_copyRenamed_44 ?_
      refine gx_bE e (fun _ hu15 e => ?_)
      refine gx_bE e (fun q16 hq16 e => ?_)
      refine gx_callV (n := 1) (st := []) (As := [.int (gI (((65 : Int) + (((q7 - (65 : Int)) + v2) % (8 : Int))) % 65536))]) (b := v0) dX8_copyRenamed_45 (z_X8_append hq16) rfl ⟨rfl, gw_cw_X8_append, gw_2, gp_X8_append, ⟨Nat.le_of_ble_eq_true rfl, Nat.le_of_ble_eq_true rfl⟩⟩ (gi_isS hu15) (by decide) gw_999 gw_937 gw_938 rfl ⟨Nat.le_of_ble_eq_true rfl, Nat.le_of_ble_eq_true rfl⟩ (Nat.le_of_ble_eq_true rfl) (gy_k1 (x := .int (gI q16.1)) (kc2 := 0) (ks2 := 0) ⟨rfl, rfl⟩ ?_) gy_kn
      refine gx_pop dX8_copyRenamed_48 rfl ?_
      refine gx_goto (tgt := 59) dX8_copyRenamed_49 (by decide) ?_
      refine gx_sub (ls2 := [(0, .ref v0), (1, .ref v1), (2, .int (gI v2)), (3, .int (gI v3))]) [1, 2, 3, 4] rfl ?_
      exact zb_X8_copyRenamed_59 hr7 e
def l_X8_copyRenamed_7 (n : Nat)  : Nat → Nat → Nat → Int → Int → gi_H → Option (gi_H)
  | 0, _, _, _, _, _ => none
  | k + 1, v0, v1, v2, v3, h => b_X8_copyRenamed_7 n  (l_X8_copyRenamed_7 n  k) v0 v1 v2 v3 h
theorem zl_X8_copyRenamed_7 {al : Bool} {n : Nat}  {h1 : gi_H}  : ∀ (k : Nat) (v0 : Nat) (v1 : Nat) (v2 : Int) (v3 : Int) (h : gi_H), l_X8_copyRenamed_7 n  k v0 v1 v2 v3 h = some h1 → gx_Z mX8_copyRenamed al al 0 0 7 [(0, .ref v0), (1, .ref v1), (2, .int (gI v2)), (3, .int (gI v3))] [] (gi_cv h) (.inl none) (gi_cv h1)
  | 0, _, _, _, _, _, e => gx_0E e
  | k + 1, _, _, _, _, _, e => zb_X8_copyRenamed_7 (n := n)  (zl_X8_copyRenamed_7  k) e
set_option maxRecDepth 100000 in
def f_X8_copyRenamed (n : Nat) (v0 : Nat) (v1 : Nat) (v2 : Int) (h : gi_H) : Option (gi_H) :=
  Option.bind (gi_pI h v0 7 1 (0 : Int)) fun h1 => l_X8_copyRenamed_7 n  n v0 v1 v2 (0 : Int) h1
set_option maxRecDepth 100000 in
theorem z_X8_copyRenamed {al : Bool} {n : Nat} {v0 : Nat} {v1 : Nat} {v2 : Int} {h : gi_H} {h1 : gi_H} (e : f_X8_copyRenamed n v0 v1 v2 h = some h1) : gx_Cw mX8_copyRenamed al [.ref v0, .ref v1, .int (gI v2)] (gi_cv h) (.inl none) (gi_cv h1) := by
  refine gx_enter (by decide +kernel) rfl (Nat.le_of_ble_eq_true rfl) ?_
  show gx_Z mX8_copyRenamed al al 0 0 0 [(0, .ref v0), (1, .ref v1), (2, .int (gI v2))] [] (gi_cv h) (.inl none) (gi_cv h1)
  refine gx_aload_n dX8_copyRenamed_0 rfl 0 rfl ?_
  refine gy_iconst dX8_copyRenamed_1 ?_
  refine gx_bE e (fun h1 hh1 e => ?_)
  refine gy_qI hh1 dX8_copyRenamed_2 gf_RX8_15_7_1 (by decide) gkN_7_1 rfl (Or.inl rfl) ?_
  refine gy_iconst dX8_copyRenamed_5 ?_
  refine gx_istore_n (ls2 := [(3, .int (gI (0 : Int))), (0, .ref v0), (1, .ref v1), (2, .int (gI v2))]) dX8_copyRenamed_6 rfl (Nat.le_of_ble_eq_true rfl) rfl ?_
  refine gx_sub (ls2 := [(0, .ref v0), (1, .ref v1), (2, .int (gI v2)), (3, .int (gI (0 : Int)))]) [1, 2, 3, 0] rfl ?_
  exact zl_X8_copyRenamed_7  n _ _ _ _ _ e
/-! X4_admit  -/
set_option maxRecDepth 100000 in
def b_X4_admit_51 (n : Nat)  (v0 : Nat) (v2 : Int)  (h : gi_H) : Option (Int × gi_H) :=
  Option.bind (gi_pI h v0 3 3 v2) fun h6 => some ((0 : Int), h6)
set_option maxRecDepth 100000 in
theorem zb_X4_admit_51 {al : Bool} {n : Nat}  {res : Int} {h1 : gi_H}  {v0 : Nat} {v2 : Int}  {h : gi_H} (e : b_X4_admit_51 n v0 v2 h = some (res, h1)) : gx_Z mX4_admit al al 0 0 51 [(0, .ref v0), (2, .int (gI v2))] [] (gi_cv h) (.inl (some (.int (gI res)))) (gi_cv h1) := by
  refine gx_aload_n dX4_admit_51 rfl 0 rfl ?_
  refine gx_iload_n dX4_admit_52 rfl 1 rfl ?_
  refine gx_bE e (fun h6 hh6 e => ?_)
  refine gy_qI hh6 dX4_admit_53 gf_RX4_42_3_3 (by decide) gkN_3_3 rfl (Or.inl rfl) ?_
  refine gy_iconst dX4_admit_56 ?_
  cases e
  exact gx_zret (by decide +kernel) dX4_admit_57 rfl ⟨Nat.le_of_ble_eq_true rfl, Nat.le_of_ble_eq_true rfl⟩ (fun z => z)
set_option maxRecDepth 100000 in
def b_X4_admit_34 (n : Nat)  (v0 : Nat) (v1 : Nat) (v2 : Int) (s0 : Option Nat) (h : gi_H) : Option (Int × gi_H) :=
  if s0 = none then (b_X4_admit_51 n  v0 v2 h) else (Option.bind (gi_gR h v0 3 9) fun t7 => Option.bind (gi_is h t7 6) fun _ => Option.bind (f_X7_read n t7 v1 v0 h) fun q9 => Option.bind (gi_rg q9.1) fun _ => if q9.1 = 0 then (b_X4_admit_51 n  v0 v2 q9.2) else (Option.bind s0 fun t12 => Option.bind (gi_is q9.2 t12 7) fun _ => Option.bind (f_X8_copyRenamed n t12 v1 (0 : Int) q9.2) fun q14 => Option.bind (gi_gR q14 v0 3 5) fun t15 => Option.bind (gi_gI q14 v0 3 6) fun t16 => Option.bind (gi_s1 q14 t15 t16 v2) fun h17 => Option.bind (gi_gI h17 v0 3 6) fun t18 => Option.bind (gi_pI h17 v0 3 6 (t18 + (1 : Int))) fun h19 => some ((1 : Int), h19)))
set_option maxRecDepth 100000 in
theorem zb_X4_admit_34 {al : Bool} {n : Nat}  {res : Int} {h1 : gi_H}  {v0 : Nat} {v1 : Nat} {v2 : Int} {s0 : Option Nat} {h : gi_H} (e : b_X4_admit_34 n v0 v1 v2 s0 h = some (res, h1)) : gx_Z mX4_admit al al 0 0 34 [(0, .ref v0), (1, .ref v1), (2, .int (gI v2))] [va_rf s0] (gi_cv h) (.inl (some (.int (gI res)))) (gi_cv h1) := by
  refine gx_astore_nq (ls2 := [(3, va_rf s0), (0, .ref v0), (1, .ref v1), (2, .int (gI v2))]) dX4_admit_34 rfl (Nat.le_of_ble_eq_true rfl) rfl ?_
  refine gx_aload_nq dX4_admit_35 rfl 0 rfl ?_
  refine gx_iE e (fun c5 e => ?_) (fun c5 e => ?_)
  · refine gx_ifnull (tgt := 51) dX4_admit_36 (by decide) (fun _ => ?_) (fun z => absurd c5 z)
    refine gx_sub (ls2 := [(0, .ref v0), (2, .int (gI v2))]) [1, 3] rfl ?_
    exact zb_X4_admit_51  e
  · refine gx_ifnull (tgt := 51) dX4_admit_36 (by decide) (fun z => absurd z c5) (fun _ => ?_)
    refine gx_aload_n dX4_admit_39 rfl 1 rfl ?_
    refine gx_bE e (fun t7 ht7 e => ?_)
    refine gy_fR ht7 dX4_admit_40 gf_RX4_38_3_9 (by decide) gkN_3_9 gkR_3_9 ?_
    refine gx_aload_n dX4_admit_43 rfl 2 rfl ?_
    refine gx_aload_n dX4_admit_44 rfl 1 rfl ?_
    refine gx_bE e (fun _ hu8 e => ?_)
    refine gx_bE e (fun q9 hq9 e => ?_)
    refine gx_callV (n := 2) (st := []) (As := [.ref v1, .ref v0]) (b := t7) dX4_admit_45 (z_X7_read hq9) rfl ⟨rfl, gw_cw_X7_read, gw_4, gp_X7_read, ⟨Nat.le_of_ble_eq_true rfl, Nat.le_of_ble_eq_true rfl⟩⟩ (gi_isS hu8) (by decide) gw_952 gw_953 gw_954 rfl ⟨Nat.le_of_ble_eq_true rfl, Nat.le_of_ble_eq_true rfl⟩ (Nat.le_of_ble_eq_true rfl) (gy_k1 (x := .int (gI q9.1)) (kc2 := 0) (ks2 := 0) ⟨rfl, rfl⟩ ?_) gy_kn
    refine gx_bE e (fun _ g10 e => ?_)
    refine gx_iE e (fun c11 e => ?_) (fun c11 e => ?_)
    · refine gy_if_ne (tgt := 58) (gi_rgS g10) dX4_admit_48 (by decide) (fun z => absurd c11 z) (fun _ => ?_)
      refine gx_sub (ls2 := [(0, .ref v0), (2, .int (gI v2))]) [1, 3] rfl ?_
      exact zb_X4_admit_51  e
    · refine gy_if_ne (tgt := 58) (gi_rgS g10) dX4_admit_48 (by decide) (fun _ => ?_) (fun z => absurd z c11)
      refine gx_aload_nq dX4_admit_58 rfl 0 rfl ?_
      refine gx_aload_n dX4_admit_59 rfl 2 rfl ?_
      refine gy_iconst dX4_admit_60 ?_
      refine gx_bE e (fun t12 ht12 e => ?_)
      rw [ht12]
      refine gx_bE e (fun _ hu13 e => ?_)
      refine gx_bE e (fun q14 hq14 e => ?_)
      refine gx_callV (n := 2) (st := []) (As := [.ref v1, .int (gI (0 : Int))]) (b := t12) dX4_admit_61 (z_X8_copyRenamed hq14) rfl ⟨rfl, gw_cw_X8_copyRenamed, gw_2, gp_X8_copyRenamed, ⟨Nat.le_of_ble_eq_true rfl, Nat.le_of_ble_eq_true rfl⟩⟩ (gi_isS hu13) (by decide) gw_995 gw_996 gw_997 rfl ⟨Nat.le_of_ble_eq_true rfl, Nat.le_of_ble_eq_true rfl⟩ (Nat.le_of_ble_eq_true rfl) (gy_k0 (kc2 := 0) (ks2 := 0) ⟨rfl, rfl⟩ ?_) gy_kn
      refine gx_aload_n dX4_admit_64 rfl 1 rfl ?_
      refine gx_bE e (fun t15 ht15 e => ?_)
      refine gy_fR ht15 dX4_admit_65 gf_RX4_27_3_5 (by decide) gkN_3_5 gkR_3_5 ?_
      refine gx_aload_n dX4_admit_68 rfl 1 rfl ?_
      refine gx_bE e (fun t16 ht16 e => ?_)
      refine gy_fI ht16 dX4_admit_69 gf_RX4_46_3_6 (by decide) gkN_3_6 gkR_3_6 ?_
      refine gx_iload_n dX4_admit_72 rfl 3 rfl ?_
      refine gx_bE e (fun h17 hh17 e => ?_)
      refine gy_t1 hh17 dX4_admit_73 ?_
      refine gx_aload_n dX4_admit_74 rfl 1 rfl ?_
      refine gx_dup dX4_admit_75 rfl ?_
      refine gx_bE e (fun t18 ht18 e => ?_)
      refine gy_fI ht18 dX4_admit_76 gf_RX4_46_3_6 (by decide) gkN_3_6 gkR_3_6 ?_
      refine gy_iconst dX4_admit_79 ?_
      refine gy_iadd dX4_admit_80 ?_
      refine gx_bE e (fun h19 hh19 e => ?_)
      refine gy_qI hh19 dX4_admit_81 gf_RX4_46_3_6 (by decide) gkN_3_6 rfl (Or.inl rfl) ?_
      refine gy_iconst dX4_admit_84 ?_
      cases e
      exact gx_zret (by decide +kernel) dX4_admit_85 rfl ⟨Nat.le_of_ble_eq_true rfl, Nat.le_of_ble_eq_true rfl⟩ (fun z => z)
set_option maxRecDepth 100000 in
def b_X4_admit_33 (n : Nat)  (v0 : Nat) (v1 : Nat) (v2 : Int)  (h : gi_H) : Option (Int × gi_H) :=
  b_X4_admit_34 n  v0 v1 v2 none h
set_option maxRecDepth 100000 in
theorem zb_X4_admit_33 {al : Bool} {n : Nat}  {res : Int} {h1 : gi_H}  {v0 : Nat} {v1 : Nat} {v2 : Int}  {h : gi_H} (e : b_X4_admit_33 n v0 v1 v2 h = some (res, h1)) : gx_Z mX4_admit al al 0 0 33 [(0, .ref v0), (1, .ref v1), (2, .int (gI v2))] [] (gi_cv h) (.inl (some (.int (gI res)))) (gi_cv h1) := by
  refine gx_null dX4_admit_33 ?_
  exact zb_X4_admit_34  e
set_option maxRecDepth 100000 in
def f_X4_admit (n : Nat) (v0 : Nat) (v1 : Nat) (h : gi_H) : Option (Int × gi_H) :=
  Option.bind (gi_gI h v0 3 3) fun t1 => Option.bind (gi_gI h v0 3 6) fun t2 => Option.bind (gi_rg t2) fun _ => if t2 < 0 then (b_X4_admit_33 n  v0 v1 t1 h) else (Option.bind (gi_gI h v0 3 6) fun t20 => Option.bind (gi_rg t20) fun _ => if (24 : Int) ≤ t20 then (b_X4_admit_33 n  v0 v1 t1 h) else (Option.bind (gi_gR h v0 3 4) fun t23 => Option.bind (gi_gI h v0 3 6) fun t24 => Option.bind (gi_aR h t23 t24) fun t25 => b_X4_admit_34 n  v0 v1 t1 t25 h))
set_option maxRecDepth 100000 in
theorem z_X4_admit {al : Bool} {n : Nat} {v0 : Nat} {v1 : Nat} {h : gi_H} {res : Int} {h1 : gi_H} (e : f_X4_admit n v0 v1 h = some (res, h1)) : gx_Cw mX4_admit al [.ref v0, .ref v1] (gi_cv h) (.inl (some (.int (gI res)))) (gi_cv h1) := by
  refine gx_enter (by decide +kernel) rfl (Nat.le_of_ble_eq_true rfl) ?_
  show gx_Z mX4_admit al al 0 0 0 [(0, .ref v0), (1, .ref v1)] [] (gi_cv h) (.inl (some (.int (gI res)))) (gi_cv h1)
  refine gx_aload_n dX4_admit_0 rfl 0 rfl ?_
  refine gx_bE e (fun t1 ht1 e => ?_)
  refine gy_fI ht1 dX4_admit_1 gf_RX4_42_3_3 (by decide) gkN_3_3 gkR_3_3 ?_
  refine gx_istore_n (ls2 := [(2, .int (gI t1)), (0, .ref v0), (1, .ref v1)]) dX4_admit_4 rfl (Nat.le_of_ble_eq_true rfl) rfl ?_
  refine gx_aload_n dX4_admit_5 rfl 1 rfl ?_
  refine gx_bE e (fun t2 ht2 e => ?_)
  refine gy_fI ht2 dX4_admit_6 gf_RX4_46_3_6 (by decide) gkN_3_6 gkR_3_6 ?_
  refine gx_bE e (fun _ g3 e => ?_)
  refine gx_iE e (fun c4 e => ?_) (fun c4 e => ?_)
  · refine gy_if_lt (tgt := 33) (gi_rgS g3) dX4_admit_9 (by decide) (fun _ => ?_) (fun z => absurd c4 z)
    refine gx_sub (ls2 := [(0, .ref v0), (1, .ref v1), (2, .int (gI t1))]) [1, 2, 0] rfl ?_
    exact zb_X4_admit_33  e
  · refine gy_if_lt (tgt := 33) (gi_rgS g3) dX4_admit_9 (by decide) (fun z => absurd z c4) (fun _ => ?_)
    refine gx_aload_n dX4_admit_12 rfl 1 rfl ?_
    refine gx_bE e (fun t20 ht20 e => ?_)
    refine gy_fI ht20 dX4_admit_13 gf_RX4_46_3_6 (by decide) gkN_3_6 gkR_3_6 ?_
    refine gy_bipush dX4_admit_16 gcb_24 ?_
    refine gx_bE e (fun _ g21 e => ?_)
    refine gx_iE e (fun c22 e => ?_) (fun c22 e => ?_)
    · refine gy_icmp_ge (tgt := 33) (gi_rgS g21) (by decide) dX4_admit_18 (by decide) (fun _ => ?_) (fun z => absurd c22 z)
      refine gx_sub (ls2 := [(0, .ref v0), (1, .ref v1), (2, .int (gI t1))]) [1, 2, 0] rfl ?_
      exact zb_X4_admit_33  e
    · refine gy_icmp_ge (tgt := 33) (gi_rgS g21) (by decide) dX4_admit_18 (by decide) (fun z => absurd z c22) (fun _ => ?_)
      refine gx_aload_n dX4_admit_21 rfl 1 rfl ?_
      refine gx_bE e (fun t23 ht23 e => ?_)
      refine gy_fR ht23 dX4_admit_22 gf_RX4_23_3_4 (by decide) gkN_3_4 gkR_3_4 ?_
      refine gx_aload_n dX4_admit_25 rfl 1 rfl ?_
      refine gx_bE e (fun t24 ht24 e => ?_)
      refine gy_fI ht24 dX4_admit_26 gf_RX4_46_3_6 (by decide) gkN_3_6 gkR_3_6 ?_
      refine gx_bE e (fun t25 ht25 e => ?_)
      refine gy_l5 ht25 dX4_admit_29 ?_
      refine gx_goto (tgt := 34) dX4_admit_30 (by decide) ?_
      refine gx_sub (ls2 := [(0, .ref v0), (1, .ref v1), (2, .int (gI t1))]) [1, 2, 0] rfl ?_
      exact zb_X4_admit_34  e
/-! X3_forget  -/
set_option maxRecDepth 100000 in
def f_X3_forget (v0 : Nat) (v1 : Nat) (h : gi_H) : Option (gi_H) :=
  Option.bind (gi_pR h v0 2 0 v1) fun h1 => Option.bind (gi_pZ h1 v0 2 1 (0 : Int)) fun h2 => some h2
set_option maxRecDepth 100000 in
theorem z_X3_forget {al : Bool} {v0 : Nat} {v1 : Nat} {h : gi_H} {h1 : gi_H} (e : f_X3_forget v0 v1 h = some h1) : gx_Cw mX3_forget al [.ref v0, .ref v1] (gi_cv h) (.inl none) (gi_cv h1) := by
  refine gx_enter (by decide +kernel) rfl (Nat.le_of_ble_eq_true rfl) ?_
  show gx_Z mX3_forget al al 0 0 0 [(0, .ref v0), (1, .ref v1)] [] (gi_cv h) (.inl none) (gi_cv h1)
  refine gx_aload_n dX3_forget_0 rfl 0 rfl ?_
  refine gx_aload_n dX3_forget_1 rfl 1 rfl ?_
  refine gx_bE e (fun h1 hh1 e => ?_)
  refine gy_qR hh1 dX3_forget_2 gf_RX3_37_2_0 (by decide) gkN_2_0 gkR_2_0 (Or.inl rfl) ?_
  refine gx_aload_n dX3_forget_5 rfl 0 rfl ?_
  refine gy_iconst dX3_forget_6 ?_
  refine gx_bE e (fun h2 hh2 e => ?_)
  refine gy_qZ hh2 dX3_forget_7 gf_RX3_41_2_1 (by decide) gkN_2_1 rfl (Or.inl rfl) ?_
  cases e
  exact gx_vret dX3_forget_10 rfl ⟨Nat.le_of_ble_eq_true rfl, Nat.le_of_ble_eq_true rfl⟩ (fun z => z)
/-! X0_forget  -/
set_option maxRecDepth 100000 in
def f_X0_forget (v0 : Nat) (h : gi_H) : Option (gi_H) :=
  Option.bind (gi_pZ h v0 0 2 (0 : Int)) fun h1 => some h1
set_option maxRecDepth 100000 in
theorem z_X0_forget {al : Bool} {v0 : Nat} {h : gi_H} {h1 : gi_H} (e : f_X0_forget v0 h = some h1) : gx_Cw mX0_forget al [.ref v0] (gi_cv h) (.inl none) (gi_cv h1) := by
  refine gx_enter (by decide +kernel) rfl (Nat.le_of_ble_eq_true rfl) ?_
  show gx_Z mX0_forget al al 0 0 0 [(0, .ref v0)] [] (gi_cv h) (.inl none) (gi_cv h1)
  refine gx_aload_n dX0_forget_0 rfl 0 rfl ?_
  refine gy_iconst dX0_forget_1 ?_
  refine gx_bE e (fun h1 hh1 e => ?_)
  refine gy_qZ hh1 dX0_forget_2 gf_RX0_36_0_2 (by decide) gkN_0_2 rfl (Or.inl rfl) ?_
  cases e
  exact gx_vret dX0_forget_5 rfl ⟨Nat.le_of_ble_eq_true rfl, Nat.le_of_ble_eq_true rfl⟩ (fun z => z)
/-! X11_forget  -/
set_option maxRecDepth 100000 in
def f_X11_forget (v0 : Nat) (h : gi_H) : Option (gi_H) :=
  Option.bind (gi_gR h v0 9 8) fun t1 => Option.bind (gi_gR h v0 9 1) fun t2 => Option.bind (gi_is h t1 2) fun _ => Option.bind (f_X3_forget t1 t2 h) fun q4 => Option.bind (gi_gR q4 v0 9 9) fun t5 => Option.bind (gi_is q4 t5 0) fun _ => Option.bind (f_X0_forget t5 q4) fun q7 => Option.bind (gi_gR q7 v0 9 10) fun t8 => Option.bind (gi_is q7 t8 0) fun _ => Option.bind (f_X0_forget t8 q7) fun q10 => some q10
set_option maxRecDepth 100000 in
theorem z_X11_forget {al : Bool} {v0 : Nat} {h : gi_H} {h1 : gi_H} (e : f_X11_forget v0 h = some h1) : gx_Cw mX11_forget al [.ref v0] (gi_cv h) (.inl none) (gi_cv h1) := by
  refine gx_enter (by decide +kernel) rfl (Nat.le_of_ble_eq_true rfl) ?_
  show gx_Z mX11_forget al al 0 0 0 [(0, .ref v0)] [] (gi_cv h) (.inl none) (gi_cv h1)
  refine gx_aload_n dX11_forget_0 rfl 0 rfl ?_
  refine gx_bE e (fun t1 ht1 e => ?_)
  refine gy_fR ht1 dX11_forget_1 gf_RX11_52_9_8 (by decide) gkN_9_8 gkR_9_8 ?_
  refine gx_aload_n dX11_forget_4 rfl 0 rfl ?_
  refine gx_bE e (fun t2 ht2 e => ?_)
  refine gy_fR ht2 dX11_forget_5 gf_RX11_35_9_1 (by decide) gkN_9_1 gkR_9_1 ?_
  refine gx_bE e (fun _ hu3 e => ?_)
  refine gx_bE e (fun q4 hq4 e => ?_)
  refine gx_callV (n := 1) (st := []) (As := [.ref t2]) (b := t1) dX11_forget_8 (z_X3_forget hq4) rfl ⟨rfl, gw_cw_X3_forget, gw_6, gp_X3_forget, ⟨Nat.le_of_ble_eq_true rfl, Nat.le_of_ble_eq_true rfl⟩⟩ (gi_isS hu3) (by decide) gw_1005 gw_1006 gw_1007 rfl ⟨Nat.le_of_ble_eq_true rfl, Nat.le_of_ble_eq_true rfl⟩ (Nat.le_of_ble_eq_true rfl) (gy_k0 (kc2 := 0) (ks2 := 0) ⟨rfl, rfl⟩ ?_) gy_kn
  refine gx_aload_n dX11_forget_11 rfl 0 rfl ?_
  refine gx_bE e (fun t5 ht5 e => ?_)
  refine gy_fR ht5 dX11_forget_12 gf_RX11_56_9_9 (by decide) gkN_9_9 gkR_9_9 ?_
  refine gx_bE e (fun _ hu6 e => ?_)
  refine gx_bE e (fun q7 hq7 e => ?_)
  refine gx_callV (n := 0) (st := []) (As := []) (b := t5) dX11_forget_15 (z_X0_forget hq7) rfl ⟨rfl, gw_cw_X0_forget, gw_7, gp_X0_forget, ⟨Nat.le_of_ble_eq_true rfl, Nat.le_of_ble_eq_true rfl⟩⟩ (gi_isS hu6) (by decide) gw_1009 gw_1010 gw_1011 rfl ⟨Nat.le_of_ble_eq_true rfl, Nat.le_of_ble_eq_true rfl⟩ (Nat.le_of_ble_eq_true rfl) (gy_k0 (kc2 := 0) (ks2 := 0) ⟨rfl, rfl⟩ ?_) gy_kn
  refine gx_aload_n dX11_forget_18 rfl 0 rfl ?_
  refine gx_bE e (fun t8 ht8 e => ?_)
  refine gy_fR ht8 dX11_forget_19 gf_RX11_60_9_10 (by decide) gkN_9_10 gkR_9_10 ?_
  refine gx_bE e (fun _ hu9 e => ?_)
  refine gx_bE e (fun q10 hq10 e => ?_)
  refine gx_callV (n := 0) (st := []) (As := []) (b := t8) dX11_forget_22 (z_X0_forget hq10) rfl ⟨rfl, gw_cw_X0_forget, gw_7, gp_X0_forget, ⟨Nat.le_of_ble_eq_true rfl, Nat.le_of_ble_eq_true rfl⟩⟩ (gi_isS hu9) (by decide) gw_1009 gw_1010 gw_1011 rfl ⟨Nat.le_of_ble_eq_true rfl, Nat.le_of_ble_eq_true rfl⟩ (Nat.le_of_ble_eq_true rfl) (gy_k0 (kc2 := 0) (ks2 := 0) ⟨rfl, rfl⟩ ?_) gy_kn
  cases e
  exact gx_vret dX11_forget_25 rfl ⟨Nat.le_of_ble_eq_true rfl, Nat.le_of_ble_eq_true rfl⟩ (fun z => z)
/-! X4_count  -/
set_option maxRecDepth 100000 in
def f_X4_count (v0 : Nat) (h : gi_H) : Option (Int) :=
  Option.bind (gi_gI h v0 3 3) fun t1 => some t1
set_option maxRecDepth 100000 in
theorem z_X4_count {al : Bool} {v0 : Nat} {h : gi_H} {res : Int} (e : f_X4_count v0 h = some res) : gx_Cw mX4_count al [.ref v0] (gi_cv h) (.inl (some (.int (gI res)))) (gi_cv h) := by
  refine gx_enter (by decide +kernel) rfl (Nat.le_of_ble_eq_true rfl) ?_
  show gx_Z mX4_count al al 0 0 0 [(0, .ref v0)] [] (gi_cv h) (.inl (some (.int (gI res)))) (gi_cv h)
  refine gx_aload_n dX4_count_0 rfl 0 rfl ?_
  refine gx_bE e (fun t1 ht1 e => ?_)
  refine gy_fI ht1 dX4_count_1 gf_RX4_42_3_3 (by decide) gkN_3_3 gkR_3_3 ?_
  cases e
  exact gx_iret dX4_count_4 rfl ⟨Nat.le_of_ble_eq_true rfl, Nat.le_of_ble_eq_true rfl⟩ (fun z => z)
/-! X11_enter  -/
set_option maxRecDepth 100000 in
def f_X11_enter (n : Nat) (v0 : Nat) (h : gi_H) : Option ((Int ⊕ String) × gi_H) :=
  Option.bind (gi_gR h v0 9 0) fun t1 => Option.bind (gi_is h t1 7) fun _ => Option.bind (f_X8_firstFault n t1 h) fun q3 => Option.bind (gi_rg q3) fun _ => if q3 = (-1 : Int) then (Option.bind (gi_gR h v0 9 1) fun t6 => Option.bind (gi_gR h v0 9 0) fun t7 => Option.bind (gi_is h t6 3) fun _ => Option.bind (f_X4_admit n t6 t7 h) fun q9 => Option.bind (gi_rg q9.1) fun _ => if q9.1 = 0 then (some (.inr gx_ISE, q9.2)) else (Option.bind (gi_is q9.2 v0 9) fun _ => Option.bind (f_X11_forget v0 q9.2) fun q13 => Option.bind (gi_gR q13 v0 9 1) fun t14 => Option.bind (gi_is q13 t14 3) fun _ => Option.bind (f_X4_count t14 q13) fun q16 => some (.inl q16, q13))) else (some (.inr gx_IAE, h))
set_option maxRecDepth 100000 in
theorem z_X11_enter {n : Nat} {v0 : Nat} {h : gi_H} {res : Int ⊕ String} {h1 : gi_H} (e : f_X11_enter n v0 h = some (res, h1)) : gx_Cw mX11_enter false [.ref v0] (gi_cv h) (gx_oI res) (gi_cv h1) := by
  refine gx_enter (by decide +kernel) rfl (Nat.le_of_ble_eq_true rfl) ?_
  show gx_Z mX11_enter false false 0 0 0 [(0, .ref v0)] [] (gi_cv h) (gx_oI res) (gi_cv h1)
  refine gx_aload_n dX11_enter_0 rfl 0 rfl ?_
  refine gx_bE e (fun t1 ht1 e => ?_)
  refine gy_fR ht1 dX11_enter_1 gf_RX11_12_9_0 (by decide) gkN_9_0 gkR_9_0 ?_
  refine gx_bE e (fun _ hu2 e => ?_)
  refine gx_bE e (fun q3 hq3 e => ?_)
  refine gx_callV (n := 0) (st := []) (As := []) (b := t1) dX11_enter_4 (z_X8_firstFault hq3) rfl ⟨rfl, gw_cw_X8_firstFault, gw_2, gp_X8_firstFault, ⟨Nat.le_of_ble_eq_true rfl, Nat.le_of_ble_eq_true rfl⟩⟩ (gi_isS hu2) (by decide) gw_365 gw_366 gw_367 rfl ⟨Nat.le_of_ble_eq_true rfl, Nat.le_of_ble_eq_true rfl⟩ (Nat.le_of_ble_eq_true rfl) (gy_k1 (x := .int (gI q3)) (kc2 := 0) (ks2 := 0) ⟨rfl, rfl⟩ ?_) gy_kn
  refine gy_iconst dX11_enter_7 ?_
  refine gx_bE e (fun _ g4 e => ?_)
  refine gx_iE e (fun c5 e => ?_) (fun c5 e => ?_)
  · refine gy_icmp_eq (tgt := 21) (gi_rgS g4) (by decide) dX11_enter_8 (by decide) (fun _ => ?_) (fun z => absurd c5 z)
    refine gx_aload_n dX11_enter_21 rfl 0 rfl ?_
    refine gx_bE e (fun t6 ht6 e => ?_)
    refine gy_fR ht6 dX11_enter_22 gf_RX11_35_9_1 (by decide) gkN_9_1 gkR_9_1 ?_
    refine gx_aload_n dX11_enter_25 rfl 0 rfl ?_
    refine gx_bE e (fun t7 ht7 e => ?_)
    refine gy_fR ht7 dX11_enter_26 gf_RX11_12_9_0 (by decide) gkN_9_0 gkR_9_0 ?_
    refine gx_bE e (fun _ hu8 e => ?_)
    refine gx_bE e (fun q9 hq9 e => ?_)
    refine gx_callV (n := 1) (st := []) (As := [.ref t7]) (b := t6) dX11_enter_29 (z_X4_admit hq9) rfl ⟨rfl, gw_cw_X4_admit, gw_3, gp_X4_admit, ⟨Nat.le_of_ble_eq_true rfl, Nat.le_of_ble_eq_true rfl⟩⟩ (gi_isS hu8) (by decide) gw_948 gw_949 gw_950 rfl ⟨Nat.le_of_ble_eq_true rfl, Nat.le_of_ble_eq_true rfl⟩ (Nat.le_of_ble_eq_true rfl) (gy_k1 (x := .int (gI q9.1)) (kc2 := 0) (ks2 := 0) ⟨rfl, rfl⟩ ?_) gy_kn
    refine gx_bE e (fun _ g10 e => ?_)
    refine gx_iE e (fun c11 e => ?_) (fun c11 e => ?_)
    · refine gy_if_ne (tgt := 45) (gi_rgS g10) dX11_enter_32 (by decide) (fun z => absurd c11 z) (fun _ => ?_)
      cases e
      exact gx_throw rfl gt_116_138_120 rfl dX11_enter_35 dX11_enter_38 dX11_enter_39 dX11_enter_41 dX11_enter_44 (Nat.le_of_ble_eq_true rfl) (Nat.le_of_ble_eq_true rfl) ⟨Nat.le_of_ble_eq_true rfl, Nat.le_of_ble_eq_true rfl⟩
    · refine gy_if_ne (tgt := 45) (gi_rgS g10) dX11_enter_32 (by decide) (fun _ => ?_) (fun z => absurd z c11)
      refine gx_aload_n dX11_enter_45 rfl 0 rfl ?_
      refine gx_bE e (fun _ hu12 e => ?_)
      refine gx_bE e (fun q13 hq13 e => ?_)
      refine gx_callV (n := 0) (st := []) (As := []) (b := v0) dX11_enter_46 (z_X11_forget hq13) rfl ⟨rfl, gw_cw_X11_forget, gw_1, gp_X11_forget, ⟨Nat.le_of_ble_eq_true rfl, Nat.le_of_ble_eq_true rfl⟩⟩ (gi_isS hu12) (by decide) gw_1001 gw_1003 gs_45 rfl ⟨Nat.le_of_ble_eq_true rfl, Nat.le_of_ble_eq_true rfl⟩ (Nat.le_of_ble_eq_true rfl) (gy_k0 (kc2 := 0) (ks2 := 0) ⟨rfl, rfl⟩ ?_) gy_kn
      refine gx_aload_n dX11_enter_49 rfl 0 rfl ?_
      refine gx_bE e (fun t14 ht14 e => ?_)
      refine gy_fR ht14 dX11_enter_50 gf_RX11_35_9_1 (by decide) gkN_9_1 gkR_9_1 ?_
      refine gx_bE e (fun _ hu15 e => ?_)
      refine gx_bE e (fun q16 hq16 e => ?_)
      refine gx_callV (n := 0) (st := []) (As := []) (b := t14) dX11_enter_53 (z_X4_count hq16) rfl ⟨rfl, gw_cw_X4_count, gw_3, gp_X4_count, ⟨Nat.le_of_ble_eq_true rfl, Nat.le_of_ble_eq_true rfl⟩⟩ (gi_isS hu15) (by decide) gw_392 gw_393 gw_394 rfl ⟨Nat.le_of_ble_eq_true rfl, Nat.le_of_ble_eq_true rfl⟩ (Nat.le_of_ble_eq_true rfl) (gy_k1 (x := .int (gI q16)) (kc2 := 0) (ks2 := 0) ⟨rfl, rfl⟩ ?_) gy_kn
      cases e
      exact gx_iret dX11_enter_56 rfl ⟨Nat.le_of_ble_eq_true rfl, Nat.le_of_ble_eq_true rfl⟩ (fun z => z)
  · refine gy_icmp_eq (tgt := 21) (gi_rgS g4) (by decide) dX11_enter_8 (by decide) (fun z => absurd z c5) (fun _ => ?_)
    cases e
    exact gx_throw rfl gt_105_132_109 rfl dX11_enter_11 dX11_enter_14 dX11_enter_15 dX11_enter_17 dX11_enter_20 (Nat.le_of_ble_eq_true rfl) (Nat.le_of_ble_eq_true rfl) ⟨Nat.le_of_ble_eq_true rfl, Nat.le_of_ble_eq_true rfl⟩
/-! L_enter  -/
set_option maxRecDepth 100000 in
def f_L_enter (n : Nat) (v0 : Nat) (v1 : Nat) (h : gi_H) : Option (Int × gi_H) :=
  Option.bind (gi_is h v0 9) fun _ => Option.bind (f_X11_enter n v0 h) fun q2 => gx_sm q2.1 (fun t3 => Option.bind (gi_rg t3) fun _ => Option.bind (gi_s2 q2.2 v1 (0 : Int) t3) fun h5 => some ((0 : Int), h5)) (fun t3 => if t3 = gx_IAE then (some ((1 : Int), q2.2)) else (if t3 = gx_ISE then (some ((2 : Int), q2.2)) else (none)))
set_option maxRecDepth 100000 in
theorem z_L_enter {n : Nat} {v0 : Nat} {v1 : Nat} {h : gi_H} {res : Int} {h1 : gi_H} (e : f_L_enter n v0 v1 h = some (res, h1)) : gx_Cw mL_enter false [.ref v0, .ref v1] (gi_cv h) (.inl (some (.int (gI res)))) (gi_cv h1) := by
  refine gx_enter (by decide +kernel) rfl (Nat.le_of_ble_eq_true rfl) ?_
  show gx_Z mL_enter false false 0 0 0 [(0, .ref v0), (1, .ref v1)] [] (gi_cv h) (.inl (some (.int (gI res)))) (gi_cv h1)
  refine gx_aload_n dL_enter_0 rfl 1 rfl ?_
  refine gy_iconst dL_enter_1 ?_
  refine gx_aload_n dL_enter_2 rfl 0 rfl ?_
  refine gx_bE e (fun _ hu1 e => ?_)
  refine gx_bE e (fun q2 hq2 e => ?_)
  refine gx_smE e (fun t3 ht3 e => ?_) (fun t3 ht3 e => ?_)
  · have zq2 := z_X11_enter hq2
    rw [ht3] at zq2
    refine gx_callV (n := 0) (st := [.int (gI (0 : Int)), .ref v1]) (As := []) (b := v0) dL_enter_3 zq2 rfl ⟨rfl, gw_cw_X11_enter, gw_1, gp_X11_enter, ⟨Nat.le_of_ble_eq_true rfl, Nat.le_of_ble_eq_true rfl⟩⟩ (gi_isS hu1) (by decide) gw_943 gw_944 gw_945 rfl ⟨Nat.le_of_ble_eq_true rfl, Nat.le_of_ble_eq_true rfl⟩ (Nat.le_of_ble_eq_true rfl) (gy_k1 (x := .int (gI t3)) (kc2 := 1) (ks2 := 6) ⟨rfl, rfl⟩ ?_) gy_kn
    refine gx_bE e (fun _ g4 e => ?_)
    refine gy_i2l (gi_rgS g4) dL_enter_6 ?_
    refine gx_bE e (fun h5 hh5 e => ?_)
    refine gy_t2 hh5 dL_enter_7 ?_
    refine gx_goto (tgt := 17) dL_enter_8 (by decide) ?_
    refine gy_iconst dL_enter_17 ?_
    cases e
    exact gx_iret dL_enter_18 rfl ⟨Nat.le_of_ble_eq_true rfl, Nat.le_of_ble_eq_true rfl⟩ (fun z => z)
  · have zq2 := z_X11_enter hq2
    rw [ht3] at zq2
    refine gx_callV (n := 0) (st := [.int (gI (0 : Int)), .ref v1]) (As := []) (b := v0) dL_enter_3 zq2 rfl ⟨rfl, gw_cw_X11_enter, gw_1, gp_X11_enter, ⟨Nat.le_of_ble_eq_true rfl, Nat.le_of_ble_eq_true rfl⟩⟩ (gi_isS hu1) (by decide) gw_943 gw_944 gw_945 rfl ⟨Nat.le_of_ble_eq_true rfl, Nat.le_of_ble_eq_true rfl⟩ (Nat.le_of_ble_eq_true rfl) gy_kN (gy_kE (kc2 := 1) (ks2 := 6) ⟨rfl, rfl⟩ ?_)
    refine gx_iE e (fun c6 e => ?_) (fun c6 e => ?_)
    · rw [c6]
      refine gx_catch (ls2 := [(0, .ref v0), (1, .ref v1)]) [] (x := (0, 8, 11, 13)) rfl (fun z hz => by cases hz) (by decide +kernel) (by decide) gw_836 (by decide +kernel) (Nat.le_of_ble_eq_true rfl) (Or.inl ⟨2, rfl, rfl, dL_enter_11⟩) rfl ?_
      refine gy_iconst dL_enter_12 ?_
      cases e
      exact gx_iret dL_enter_13 rfl ⟨Nat.le_of_ble_eq_true rfl, Nat.le_of_ble_eq_true rfl⟩ (fun z => z)
    refine gx_iE e (fun c7 e => ?_) (fun c7 e => ?_)
    · rw [c7]
      refine gx_catch (ls2 := [(0, .ref v0), (1, .ref v1)]) [(0, 8, 11, 13)] (x := (0, 8, 14, 15)) rfl (by refine List.forall_mem_cons.mpr ⟨⟨by decide, "java/lang/IllegalArgumentException", gw_836, by decide +kernel⟩, ?_⟩;  exact fun z hz => absurd hz List.not_mem_nil) (by decide +kernel) (by decide) gw_837 (by decide +kernel) (Nat.le_of_ble_eq_true rfl) (Or.inl ⟨2, rfl, rfl, dL_enter_14⟩) rfl ?_
      refine gy_iconst dL_enter_15 ?_
      cases e
      exact gx_iret dL_enter_16 rfl ⟨Nat.le_of_ble_eq_true rfl, Nat.le_of_ble_eq_true rfl⟩ (fun z => z)
    cases e
/-! X12_helper  -/
set_option maxRecDepth 100000 in
def b_X12_helper_114 (n : Nat) (r3 : Nat → Int → gi_H → Option (Int)) (v0 : Nat) (v1 : Int) (v2 : Int)  (h : gi_H) : Option (Int) :=
  Option.bind (gi_rg v2) fun _ => if v2 = 0 then (some v1) else (gx_nm (v1 + (1 : Int)) fun t11 => r3 v0 t11 h)
set_option maxRecDepth 100000 in
theorem zb_X12_helper_114 {al : Bool} {n : Nat} {r3 : Nat → Int → gi_H → Option (Int)} {res : Int} (hr3 : ∀ (x0 : Nat) (x1 : Int) (hh : gi_H), r3 x0 x1 hh = some res → gx_Z mX12_helper al al 0 0 3 [(0, .ref x0), (1, .int (gI x1))] [] (gi_cv hh) (.inl (some (.int (gI res)))) (gi_cv hh)) {v0 : Nat} {v1 : Int} {v2 : Int}  {h : gi_H} (e : b_X12_helper_114 n r3 v0 v1 v2 h = some res) : gx_Z mX12_helper al al 0 0 114 [(0, .ref v0), (1, .int (gI v1)), (2, .int (gI v2))] [] (gi_cv h) (.inl (some (.int (gI res)))) (gi_cv h) := by
  refine gx_iload_n dX12_helper_114 rfl 2 rfl ?_
  refine gx_bE e (fun _ g9 e => ?_)
  refine gx_iE e (fun c10 e => ?_) (fun c10 e => ?_)
  · refine gy_if_ne (tgt := 120) (gi_rgS g9) dX12_helper_115 (by decide) (fun z => absurd c10 z) (fun _ => ?_)
    refine gx_iload_n dX12_helper_118 rfl 1 rfl ?_
    cases e
    exact gx_iret dX12_helper_119 rfl ⟨Nat.le_of_ble_eq_true rfl, Nat.le_of_ble_eq_true rfl⟩ (fun z => z)
  · refine gy_if_ne (tgt := 120) (gi_rgS g9) dX12_helper_115 (by decide) (fun _ => ?_) (fun z => absurd z c10)
    refine gx_nE e (fun t11 ht11 e => ?_)
    refine gy_iinc (v := t11) (ls2 := [(1, .int (gI t11)), (0, .ref v0), (2, .int (gI v2))]) dX12_helper_120 1 rfl ht11 (Nat.le_of_ble_eq_true rfl) rfl ?_
    refine gx_goto (tgt := 3) dX12_helper_123 (by decide) ?_
    refine gx_sub (ls2 := [(0, .ref v0), (1, .int (gI t11))]) [1, 0] rfl ?_
    exact hr3 _ _ _ e
set_option maxRecDepth 100000 in
def b_X12_helper_108 (n : Nat) (r3 : Nat → Int → gi_H → Option (Int)) (r13 : Nat → Int → Int → Int → gi_H → Option (Int)) (v0 : Nat) (v1 : Int) (v2 : Int) (v3 : Int)  (h : gi_H) : Option (Int) :=
  gx_nm (v3 + (1 : Int)) fun t26 => r13 v0 v1 v2 t26 h
set_option maxRecDepth 100000 in
theorem zb_X12_helper_108 {al : Bool} {n : Nat} {r3 : Nat → Int → gi_H → Option (Int)} {r13 : Nat → Int → Int → Int → gi_H → Option (Int)} {res : Int} (hr3 : ∀ (x0 : Nat) (x1 : Int) (hh : gi_H), r3 x0 x1 hh = some res → gx_Z mX12_helper al al 0 0 3 [(0, .ref x0), (1, .int (gI x1))] [] (gi_cv hh) (.inl (some (.int (gI res)))) (gi_cv hh)) (hr13 : ∀ (x0 : Nat) (x1 : Int) (x2 : Int) (x3 : Int) (hh : gi_H), r13 x0 x1 x2 x3 hh = some res → gx_Z mX12_helper al al 0 0 13 [(0, .ref x0), (1, .int (gI x1)), (2, .int (gI x2)), (3, .int (gI x3))] [] (gi_cv hh) (.inl (some (.int (gI res)))) (gi_cv hh)) {v0 : Nat} {v1 : Int} {v2 : Int} {v3 : Int}  {h : gi_H} (e : b_X12_helper_108 n r3 r13 v0 v1 v2 v3 h = some res) : gx_Z mX12_helper al al 0 0 108 [(0, .ref v0), (1, .int (gI v1)), (2, .int (gI v2)), (3, .int (gI v3))] [] (gi_cv h) (.inl (some (.int (gI res)))) (gi_cv h) := by
  refine gx_nE e (fun t26 ht26 e => ?_)
  refine gy_iinc (v := t26) (ls2 := [(3, .int (gI t26)), (0, .ref v0), (1, .int (gI v1)), (2, .int (gI v2))]) dX12_helper_108 3 rfl ht26 (Nat.le_of_ble_eq_true rfl) rfl ?_
  refine gx_goto (tgt := 13) dX12_helper_111 (by decide) ?_
  refine gx_sub (ls2 := [(0, .ref v0), (1, .int (gI v1)), (2, .int (gI v2)), (3, .int (gI t26))]) [1, 2, 3, 0] rfl ?_
  exact hr13 _ _ _ _ _ e
set_option maxRecDepth 100000 in
def b_X12_helper_101 (n : Nat) (r3 : Nat → Int → gi_H → Option (Int)) (r13 : Nat → Int → Int → Int → gi_H → Option (Int)) (r61 : Nat → Int → Int → Int → Int → Int → gi_H → Option (Int)) (v0 : Nat) (v1 : Int) (v3 : Int) (v4 : Int) (v5 : Int) (s0 : Int) (h : gi_H) : Option (Int) :=
  gx_nm (v5 + (1 : Int)) fun t34 => r61 v0 v1 s0 v3 v4 t34 h
set_option maxRecDepth 100000 in
theorem zb_X12_helper_101 {al : Bool} {n : Nat} {r3 : Nat → Int → gi_H → Option (Int)} {r13 : Nat → Int → Int → Int → gi_H → Option (Int)} {r61 : Nat → Int → Int → Int → Int → Int → gi_H → Option (Int)} {res : Int} (hr3 : ∀ (x0 : Nat) (x1 : Int) (hh : gi_H), r3 x0 x1 hh = some res → gx_Z mX12_helper al al 0 0 3 [(0, .ref x0), (1, .int (gI x1))] [] (gi_cv hh) (.inl (some (.int (gI res)))) (gi_cv hh)) (hr13 : ∀ (x0 : Nat) (x1 : Int) (x2 : Int) (x3 : Int) (hh : gi_H), r13 x0 x1 x2 x3 hh = some res → gx_Z mX12_helper al al 0 0 13 [(0, .ref x0), (1, .int (gI x1)), (2, .int (gI x2)), (3, .int (gI x3))] [] (gi_cv hh) (.inl (some (.int (gI res)))) (gi_cv hh)) (hr61 : ∀ (x0 : Nat) (x1 : Int) (x2 : Int) (x3 : Int) (x4 : Int) (x5 : Int) (hh : gi_H), r61 x0 x1 x2 x3 x4 x5 hh = some res → gx_Z mX12_helper al al 0 0 61 [(0, .ref x0), (1, .int (gI x1)), (2, .int (gI x2)), (3, .int (gI x3)), (4, .int (gI x4)), (5, .int (gI x5))] [] (gi_cv hh) (.inl (some (.int (gI res)))) (gi_cv hh)) {v0 : Nat} {v1 : Int} {v3 : Int} {v4 : Int} {v5 : Int} {s0 : Int} {h : gi_H} (e : b_X12_helper_101 n r3 r13 r61 v0 v1 v3 v4 v5 s0 h = some res) : gx_Z mX12_helper al al 0 0 101 [(0, .ref v0), (1, .int (gI v1)), (3, .int (gI v3)), (4, .int (gI v4)), (5, .int (gI v5))] [.int (gI s0)] (gi_cv h) (.inl (some (.int (gI res)))) (gi_cv h) := by
  refine gx_istore_n (ls2 := [(2, .int (gI s0)), (0, .ref v0), (1, .int (gI v1)), (3, .int (gI v3)), (4, .int (gI v4)), (5, .int (gI v5))]) dX12_helper_101 rfl (Nat.le_of_ble_eq_true rfl) rfl ?_
  refine gx_nE e (fun t34 ht34 e => ?_)
  refine gy_iinc (v := t34) (ls2 := [(5, .int (gI t34)), (2, .int (gI s0)), (0, .ref v0), (1, .int (gI v1)), (3, .int (gI v3)), (4, .int (gI v4))]) dX12_helper_102 5 rfl ht34 (Nat.le_of_ble_eq_true rfl) rfl ?_
  refine gx_goto (tgt := 61) dX12_helper_105 (by decide) ?_
  refine gx_sub (ls2 := [(0, .ref v0), (1, .int (gI v1)), (2, .int (gI s0)), (3, .int (gI v3)), (4, .int (gI v4)), (5, .int (gI t34))]) [2, 3, 1, 4, 5, 0] rfl ?_
  exact hr61 _ _ _ _ _ _ _ e
set_option maxRecDepth 100000 in
def b_X12_helper_96 (n : Nat) (r3 : Nat → Int → gi_H → Option (Int)) (r13 : Nat → Int → Int → Int → gi_H → Option (Int)) (r61 : Nat → Int → Int → Int → Int → Int → gi_H → Option (Int)) (v0 : Nat) (v1 : Int) (v3 : Int) (v4 : Int) (v5 : Int)  (h : gi_H) : Option (Int) :=
  b_X12_helper_101 n r3 r13 r61 v0 v1 v3 v4 v5 (1 : Int) h
set_option maxRecDepth 100000 in
theorem zb_X12_helper_96 {al : Bool} {n : Nat} {r3 : Nat → Int → gi_H → Option (Int)} {r13 : Nat → Int → Int → Int → gi_H → Option (Int)} {r61 : Nat → Int → Int → Int → Int → Int → gi_H → Option (Int)} {res : Int} (hr3 : ∀ (x0 : Nat) (x1 : Int) (hh : gi_H), r3 x0 x1 hh = some res → gx_Z mX12_helper al al 0 0 3 [(0, .ref x0), (1, .int (gI x1))] [] (gi_cv hh) (.inl (some (.int (gI res)))) (gi_cv hh)) (hr13 : ∀ (x0 : Nat) (x1 : Int) (x2 : Int) (x3 : Int) (hh : gi_H), r13 x0 x1 x2 x3 hh = some res → gx_Z mX12_helper al al 0 0 13 [(0, .ref x0), (1, .int (gI x1)), (2, .int (gI x2)), (3, .int (gI x3))] [] (gi_cv hh) (.inl (some (.int (gI res)))) (gi_cv hh)) (hr61 : ∀ (x0 : Nat) (x1 : Int) (x2 : Int) (x3 : Int) (x4 : Int) (x5 : Int) (hh : gi_H), r61 x0 x1 x2 x3 x4 x5 hh = some res → gx_Z mX12_helper al al 0 0 61 [(0, .ref x0), (1, .int (gI x1)), (2, .int (gI x2)), (3, .int (gI x3)), (4, .int (gI x4)), (5, .int (gI x5))] [] (gi_cv hh) (.inl (some (.int (gI res)))) (gi_cv hh)) {v0 : Nat} {v1 : Int} {v3 : Int} {v4 : Int} {v5 : Int}  {h : gi_H} (e : b_X12_helper_96 n r3 r13 r61 v0 v1 v3 v4 v5 h = some res) : gx_Z mX12_helper al al 0 0 96 [(0, .ref v0), (1, .int (gI v1)), (3, .int (gI v3)), (4, .int (gI v4)), (5, .int (gI v5))] [] (gi_cv h) (.inl (some (.int (gI res)))) (gi_cv h) := by
  refine gy_iconst dX12_helper_96 ?_
  refine gx_goto (tgt := 101) dX12_helper_97 (by decide) ?_
  exact zb_X12_helper_101 hr3 hr13 hr61 e
set_option maxRecDepth 100000 in
def b_X12_helper_61 (n : Nat) (r3 : Nat → Int → gi_H → Option (Int)) (r13 : Nat → Int → Int → Int → gi_H → Option (Int)) (r61 : Nat → Int → Int → Int → Int → Int → gi_H → Option (Int)) (v0 : Nat) (v1 : Int) (v2 : Int) (v3 : Int) (v4 : Int) (v5 : Int)  (h : gi_H) : Option (Int) :=
  Option.bind (gi_gR h v0 10 1) fun t21 => Option.bind (gi_aI h 1 t21 v4) fun t22 => Option.bind (gi_rg v5) fun _ => Option.bind (gi_rg t22) fun _ => if t22 ≤ v5 then (b_X12_helper_108 n r3 r13 v0 v1 v2 v3 h) else (Option.bind (gi_rg v2) fun _ => if v2 = 0 then (Option.bind (gi_gR h v0 10 2) fun t29 => Option.bind (gi_aI h 1 t29 (((5 : Int) * v4) + v5)) fun t30 => Option.bind (gi_rg t30) fun _ => Option.bind (gi_rg ((16 : Int) + v1)) fun _ => if t30 = ((16 : Int) + v1) then (b_X12_helper_96 n r3 r13 r61 v0 v1 v3 v4 v5 h) else (b_X12_helper_101 n r3 r13 r61 v0 v1 v3 v4 v5 (0 : Int) h)) else (b_X12_helper_96 n r3 r13 r61 v0 v1 v3 v4 v5 h))
set_option maxRecDepth 100000 in
theorem zb_X12_helper_61 {al : Bool} {n : Nat} {r3 : Nat → Int → gi_H → Option (Int)} {r13 : Nat → Int → Int → Int → gi_H → Option (Int)} {r61 : Nat → Int → Int → Int → Int → Int → gi_H → Option (Int)} {res : Int} (hr3 : ∀ (x0 : Nat) (x1 : Int) (hh : gi_H), r3 x0 x1 hh = some res → gx_Z mX12_helper al al 0 0 3 [(0, .ref x0), (1, .int (gI x1))] [] (gi_cv hh) (.inl (some (.int (gI res)))) (gi_cv hh)) (hr13 : ∀ (x0 : Nat) (x1 : Int) (x2 : Int) (x3 : Int) (hh : gi_H), r13 x0 x1 x2 x3 hh = some res → gx_Z mX12_helper al al 0 0 13 [(0, .ref x0), (1, .int (gI x1)), (2, .int (gI x2)), (3, .int (gI x3))] [] (gi_cv hh) (.inl (some (.int (gI res)))) (gi_cv hh)) (hr61 : ∀ (x0 : Nat) (x1 : Int) (x2 : Int) (x3 : Int) (x4 : Int) (x5 : Int) (hh : gi_H), r61 x0 x1 x2 x3 x4 x5 hh = some res → gx_Z mX12_helper al al 0 0 61 [(0, .ref x0), (1, .int (gI x1)), (2, .int (gI x2)), (3, .int (gI x3)), (4, .int (gI x4)), (5, .int (gI x5))] [] (gi_cv hh) (.inl (some (.int (gI res)))) (gi_cv hh)) {v0 : Nat} {v1 : Int} {v2 : Int} {v3 : Int} {v4 : Int} {v5 : Int}  {h : gi_H} (e : b_X12_helper_61 n r3 r13 r61 v0 v1 v2 v3 v4 v5 h = some res) : gx_Z mX12_helper al al 0 0 61 [(0, .ref v0), (1, .int (gI v1)), (2, .int (gI v2)), (3, .int (gI v3)), (4, .int (gI v4)), (5, .int (gI v5))] [] (gi_cv h) (.inl (some (.int (gI res)))) (gi_cv h) := by
  refine gx_iload dX12_helper_61 5 rfl ?_
  refine gx_aload_n dX12_helper_63 rfl 0 rfl ?_
  refine gx_bE e (fun t21 ht21 e => ?_)
  refine gy_fR ht21 dX12_helper_64 gf_RX12_13_10_1 (by decide) gkN_10_1 gkR_10_1 ?_
  refine gx_iload dX12_helper_67 4 rfl ?_
  refine gx_bE e (fun t22 ht22 e => ?_)
  refine gy_l1 ht22 dX12_helper_69 ?_
  refine gx_bE e (fun _ g23 e => ?_)
  refine gx_bE e (fun _ g24 e => ?_)
  refine gx_iE e (fun c25 e => ?_) (fun c25 e => ?_)
  · refine gy_icmp_ge (tgt := 108) (gi_rgS g23) (gi_rgS g24) dX12_helper_70 (by decide) (fun _ => ?_) (fun z => absurd c25 z)
    refine gx_sub (ls2 := [(0, .ref v0), (1, .int (gI v1)), (2, .int (gI v2)), (3, .int (gI v3))]) [0, 1, 2, 3] rfl ?_
    exact zb_X12_helper_108 hr3 hr13 e
  · refine gy_icmp_ge (tgt := 108) (gi_rgS g23) (gi_rgS g24) dX12_helper_70 (by decide) (fun z => absurd z c25) (fun _ => ?_)
    refine gx_iload_n dX12_helper_73 rfl 2 rfl ?_
    refine gx_bE e (fun _ g27 e => ?_)
    refine gx_iE e (fun c28 e => ?_) (fun c28 e => ?_)
    · refine gy_if_ne (tgt := 96) (gi_rgS g27) dX12_helper_74 (by decide) (fun z => absurd c28 z) (fun _ => ?_)
      refine gx_aload_n dX12_helper_77 rfl 0 rfl ?_
      refine gx_bE e (fun t29 ht29 e => ?_)
      refine gy_fR ht29 dX12_helper_78 gf_RX12_16_10_2 (by decide) gkN_10_2 gkR_10_2 ?_
      refine gy_iconst dX12_helper_81 ?_
      refine gx_iload dX12_helper_82 4 rfl ?_
      refine gy_imul dX12_helper_84 ?_
      refine gx_iload dX12_helper_85 5 rfl ?_
      refine gy_iadd dX12_helper_87 ?_
      refine gx_bE e (fun t30 ht30 e => ?_)
      refine gy_l1 ht30 dX12_helper_88 ?_
      refine gy_bipush dX12_helper_89 gcb_16 ?_
      refine gx_iload_n dX12_helper_91 rfl 1 rfl ?_
      refine gy_iadd dX12_helper_92 ?_
      refine gx_bE e (fun _ g31 e => ?_)
      refine gx_bE e (fun _ g32 e => ?_)
      refine gx_iE e (fun c33 e => ?_) (fun c33 e => ?_)
      · refine gy_icmp_ne (tgt := 100) (gi_rgS g31) (gi_rgS g32) dX12_helper_93 (by decide) (fun z => absurd c33 z) (fun _ => ?_)
        refine gx_sub (ls2 := [(0, .ref v0), (1, .int (gI v1)), (3, .int (gI v3)), (4, .int (gI v4)), (5, .int (gI v5))]) [0, 1, 3, 4, 5] rfl ?_
        exact zb_X12_helper_96 hr3 hr13 hr61 e
      · refine gy_icmp_ne (tgt := 100) (gi_rgS g31) (gi_rgS g32) dX12_helper_93 (by decide) (fun _ => ?_) (fun z => absurd z c33)
        refine gy_iconst dX12_helper_100 ?_
        refine gx_sub (ls2 := [(0, .ref v0), (1, .int (gI v1)), (3, .int (gI v3)), (4, .int (gI v4)), (5, .int (gI v5))]) [0, 1, 3, 4, 5] rfl ?_
        exact zb_X12_helper_101 hr3 hr13 hr61 e
    · refine gy_if_ne (tgt := 96) (gi_rgS g27) dX12_helper_74 (by decide) (fun _ => ?_) (fun z => absurd z c28)
      refine gx_sub (ls2 := [(0, .ref v0), (1, .int (gI v1)), (3, .int (gI v3)), (4, .int (gI v4)), (5, .int (gI v5))]) [0, 1, 3, 4, 5] rfl ?_
      exact zb_X12_helper_96 hr3 hr13 hr61 e
def l_X12_helper_61 (n : Nat) (r3 : Nat → Int → gi_H → Option (Int)) (r13 : Nat → Int → Int → Int → gi_H → Option (Int)) : Nat → Nat → Int → Int → Int → Int → Int → gi_H → Option (Int)
  | 0, _, _, _, _, _, _, _ => none
  | k + 1, v0, v1, v2, v3, v4, v5, h => b_X12_helper_61 n r3 r13 (l_X12_helper_61 n r3 r13 k) v0 v1 v2 v3 v4 v5 h
theorem zl_X12_helper_61 {al : Bool} {n : Nat} {r3 : Nat → Int → gi_H → Option (Int)} {r13 : Nat → Int → Int → Int → gi_H → Option (Int)} {res : Int} (hr3 : ∀ (x0 : Nat) (x1 : Int) (hh : gi_H), r3 x0 x1 hh = some res → gx_Z mX12_helper al al 0 0 3 [(0, .ref x0), (1, .int (gI x1))] [] (gi_cv hh) (.inl (some (.int (gI res)))) (gi_cv hh)) (hr13 : ∀ (x0 : Nat) (x1 : Int) (x2 : Int) (x3 : Int) (hh : gi_H), r13 x0 x1 x2 x3 hh = some res → gx_Z mX12_helper al al 0 0 13 [(0, .ref x0), (1, .int (gI x1)), (2, .int (gI x2)), (3, .int (gI x3))] [] (gi_cv hh) (.inl (some (.int (gI res)))) (gi_cv hh)) : ∀ (k : Nat) (v0 : Nat) (v1 : Int) (v2 : Int) (v3 : Int) (v4 : Int) (v5 : Int) (h : gi_H), l_X12_helper_61 n r3 r13 k v0 v1 v2 v3 v4 v5 h = some res → gx_Z mX12_helper al al 0 0 61 [(0, .ref v0), (1, .int (gI v1)), (2, .int (gI v2)), (3, .int (gI v3)), (4, .int (gI v4)), (5, .int (gI v5))] [] (gi_cv h) (.inl (some (.int (gI res)))) (gi_cv h)
  | 0, _, _, _, _, _, _, _, e => gx_0E e
  | k + 1, _, _, _, _, _, _, _, e => zb_X12_helper_61 (n := n) hr3 hr13 (zl_X12_helper_61 hr3 hr13 k) e
set_option maxRecDepth 100000 in
def b_X12_helper_57 (n : Nat) (r3 : Nat → Int → gi_H → Option (Int)) (r13 : Nat → Int → Int → Int → gi_H → Option (Int)) (v0 : Nat) (v1 : Int) (v3 : Int) (v4 : Int) (s0 : Int) (h : gi_H) : Option (Int) :=
  l_X12_helper_61 n r3 r13 n v0 v1 s0 v3 v4 (0 : Int) h
set_option maxRecDepth 100000 in
theorem zb_X12_helper_57 {al : Bool} {n : Nat} {r3 : Nat → Int → gi_H → Option (Int)} {r13 : Nat → Int → Int → Int → gi_H → Option (Int)} {res : Int} (hr3 : ∀ (x0 : Nat) (x1 : Int) (hh : gi_H), r3 x0 x1 hh = some res → gx_Z mX12_helper al al 0 0 3 [(0, .ref x0), (1, .int (gI x1))] [] (gi_cv hh) (.inl (some (.int (gI res)))) (gi_cv hh)) (hr13 : ∀ (x0 : Nat) (x1 : Int) (x2 : Int) (x3 : Int) (hh : gi_H), r13 x0 x1 x2 x3 hh = some res → gx_Z mX12_helper al al 0 0 13 [(0, .ref x0), (1, .int (gI x1)), (2, .int (gI x2)), (3, .int (gI x3))] [] (gi_cv hh) (.inl (some (.int (gI res)))) (gi_cv hh)) {v0 : Nat} {v1 : Int} {v3 : Int} {v4 : Int} {s0 : Int} {h : gi_H} (e : b_X12_helper_57 n r3 r13 v0 v1 v3 v4 s0 h = some res) : gx_Z mX12_helper al al 0 0 57 [(0, .ref v0), (1, .int (gI v1)), (3, .int (gI v3)), (4, .int (gI v4))] [.int (gI s0)] (gi_cv h) (.inl (some (.int (gI res)))) (gi_cv h) := by
  refine gx_istore_n (ls2 := [(2, .int (gI s0)), (0, .ref v0), (1, .int (gI v1)), (3, .int (gI v3)), (4, .int (gI v4))]) dX12_helper_57 rfl (Nat.le_of_ble_eq_true rfl) rfl ?_
  refine gy_iconst dX12_helper_58 ?_
  refine gx_istore (ls2 := [(5, .int (gI (0 : Int))), (2, .int (gI s0)), (0, .ref v0), (1, .int (gI v1)), (3, .int (gI v3)), (4, .int (gI v4))]) dX12_helper_59 (Nat.le_of_ble_eq_true rfl) rfl ?_
  refine gx_sub (ls2 := [(0, .ref v0), (1, .int (gI v1)), (2, .int (gI s0)), (3, .int (gI v3)), (4, .int (gI v4)), (5, .int (gI (0 : Int)))]) [2, 3, 1, 4, 5, 0] rfl ?_
  exact zl_X12_helper_61 hr3 hr13 n _ _ _ _ _ _ _ e
set_option maxRecDepth 100000 in
def b_X12_helper_52 (n : Nat) (r3 : Nat → Int → gi_H → Option (Int)) (r13 : Nat → Int → Int → Int → gi_H → Option (Int)) (v0 : Nat) (v1 : Int) (v3 : Int) (v4 : Int)  (h : gi_H) : Option (Int) :=
  b_X12_helper_57 n r3 r13 v0 v1 v3 v4 (1 : Int) h
set_option maxRecDepth 100000 in
theorem zb_X12_helper_52 {al : Bool} {n : Nat} {r3 : Nat → Int → gi_H → Option (Int)} {r13 : Nat → Int → Int → Int → gi_H → Option (Int)} {res : Int} (hr3 : ∀ (x0 : Nat) (x1 : Int) (hh : gi_H), r3 x0 x1 hh = some res → gx_Z mX12_helper al al 0 0 3 [(0, .ref x0), (1, .int (gI x1))] [] (gi_cv hh) (.inl (some (.int (gI res)))) (gi_cv hh)) (hr13 : ∀ (x0 : Nat) (x1 : Int) (x2 : Int) (x3 : Int) (hh : gi_H), r13 x0 x1 x2 x3 hh = some res → gx_Z mX12_helper al al 0 0 13 [(0, .ref x0), (1, .int (gI x1)), (2, .int (gI x2)), (3, .int (gI x3))] [] (gi_cv hh) (.inl (some (.int (gI res)))) (gi_cv hh)) {v0 : Nat} {v1 : Int} {v3 : Int} {v4 : Int}  {h : gi_H} (e : b_X12_helper_52 n r3 r13 v0 v1 v3 v4 h = some res) : gx_Z mX12_helper al al 0 0 52 [(0, .ref v0), (1, .int (gI v1)), (3, .int (gI v3)), (4, .int (gI v4))] [] (gi_cv h) (.inl (some (.int (gI res)))) (gi_cv h) := by
  refine gy_iconst dX12_helper_52 ?_
  refine gx_goto (tgt := 57) dX12_helper_53 (by decide) ?_
  exact zb_X12_helper_57 hr3 hr13 e
set_option maxRecDepth 100000 in
def b_X12_helper_13 (n : Nat) (r3 : Nat → Int → gi_H → Option (Int)) (r13 : Nat → Int → Int → Int → gi_H → Option (Int)) (v0 : Nat) (v1 : Int) (v2 : Int) (v3 : Int)  (h : gi_H) : Option (Int) :=
  Option.bind (gi_gR h v0 10 3) fun t3 => Option.bind (gi_gI h v0 10 9) fun t4 => Option.bind (gi_aI h 1 t3 t4) fun t5 => Option.bind (gi_rg v3) fun _ => Option.bind (gi_rg t5) fun _ => if t5 ≤ v3 then (b_X12_helper_114 n r3 v0 v1 v2 h) else (Option.bind (gi_gI h v0 10 9) fun t12 => gx_nm (((24 : Int) * t12) + v3) fun t13 => Option.bind (gi_rg v2) fun _ => if v2 = 0 then (Option.bind (gi_gR h v0 10 0) fun t16 => Option.bind (gi_aI h 1 t16 t13) fun t17 => Option.bind (gi_rg t17) fun _ => Option.bind (gi_rg v1) fun _ => if t17 = v1 then (b_X12_helper_52 n r3 r13 v0 v1 v3 t13 h) else (b_X12_helper_57 n r3 r13 v0 v1 v3 t13 (0 : Int) h)) else (b_X12_helper_52 n r3 r13 v0 v1 v3 t13 h))
set_option maxRecDepth 100000 in
theorem zb_X12_helper_13 {al : Bool} {n : Nat} {r3 : Nat → Int → gi_H → Option (Int)} {r13 : Nat → Int → Int → Int → gi_H → Option (Int)} {res : Int} (hr3 : ∀ (x0 : Nat) (x1 : Int) (hh : gi_H), r3 x0 x1 hh = some res → gx_Z mX12_helper al al 0 0 3 [(0, .ref x0), (1, .int (gI x1))] [] (gi_cv hh) (.inl (some (.int (gI res)))) (gi_cv hh)) (hr13 : ∀ (x0 : Nat) (x1 : Int) (x2 : Int) (x3 : Int) (hh : gi_H), r13 x0 x1 x2 x3 hh = some res → gx_Z mX12_helper al al 0 0 13 [(0, .ref x0), (1, .int (gI x1)), (2, .int (gI x2)), (3, .int (gI x3))] [] (gi_cv hh) (.inl (some (.int (gI res)))) (gi_cv hh)) {v0 : Nat} {v1 : Int} {v2 : Int} {v3 : Int}  {h : gi_H} (e : b_X12_helper_13 n r3 r13 v0 v1 v2 v3 h = some res) : gx_Z mX12_helper al al 0 0 13 [(0, .ref v0), (1, .int (gI v1)), (2, .int (gI v2)), (3, .int (gI v3))] [] (gi_cv h) (.inl (some (.int (gI res)))) (gi_cv h) := by
  refine gx_iload_n dX12_helper_13 rfl 3 rfl ?_
  refine gx_aload_n dX12_helper_14 rfl 0 rfl ?_
  refine gx_bE e (fun t3 ht3 e => ?_)
  refine gy_fR ht3 dX12_helper_15 gf_RX12_19_10_3 (by decide) gkN_10_3 gkR_10_3 ?_
  refine gx_aload_n dX12_helper_18 rfl 0 rfl ?_
  refine gx_bE e (fun t4 ht4 e => ?_)
  refine gy_fI ht4 dX12_helper_19 gf_RX12_139_10_9 (by decide) gkN_10_9 gkR_10_9 ?_
  refine gx_bE e (fun t5 ht5 e => ?_)
  refine gy_l1 ht5 dX12_helper_22 ?_
  refine gx_bE e (fun _ g6 e => ?_)
  refine gx_bE e (fun _ g7 e => ?_)
  refine gx_iE e (fun c8 e => ?_) (fun c8 e => ?_)
  · refine gy_icmp_ge (tgt := 114) (gi_rgS g6) (gi_rgS g7) dX12_helper_23 (by decide) (fun _ => ?_) (fun z => absurd c8 z)
    refine gx_sub (ls2 := [(0, .ref v0), (1, .int (gI v1)), (2, .int (gI v2))]) [0, 1, 2] rfl ?_
    exact zb_X12_helper_114 hr3 e
  · refine gy_icmp_ge (tgt := 114) (gi_rgS g6) (gi_rgS g7) dX12_helper_23 (by decide) (fun z => absurd z c8) (fun _ => ?_)
    refine gy_bipush dX12_helper_26 gcb_24 ?_
    refine gx_aload_n dX12_helper_28 rfl 0 rfl ?_
    refine gx_bE e (fun t12 ht12 e => ?_)
    refine gy_fI ht12 dX12_helper_29 gf_RX12_139_10_9 (by decide) gkN_10_9 gkR_10_9 ?_
    refine gy_imul dX12_helper_32 ?_
    refine gx_iload_n dX12_helper_33 rfl 3 rfl ?_
    refine gy_iadd dX12_helper_34 ?_
    refine gx_nE e (fun t13 ht13 e => ?_)
    rw [ht13]
    refine gx_istore (ls2 := [(4, .int (gI t13)), (0, .ref v0), (1, .int (gI v1)), (2, .int (gI v2)), (3, .int (gI v3))]) dX12_helper_35 (Nat.le_of_ble_eq_true rfl) rfl ?_
    refine gx_iload_n dX12_helper_37 rfl 3 rfl ?_
    refine gx_bE e (fun _ g14 e => ?_)
    refine gx_iE e (fun c15 e => ?_) (fun c15 e => ?_)
    · refine gy_if_ne (tgt := 52) (gi_rgS g14) dX12_helper_38 (by decide) (fun z => absurd c15 z) (fun _ => ?_)
      refine gx_aload_n dX12_helper_41 rfl 1 rfl ?_
      refine gx_bE e (fun t16 ht16 e => ?_)
      refine gy_fR ht16 dX12_helper_42 gf_RX12_7_10_0 (by decide) gkN_10_0 gkR_10_0 ?_
      refine gx_iload dX12_helper_45 0 rfl ?_
      refine gx_bE e (fun t17 ht17 e => ?_)
      refine gy_l1 ht17 dX12_helper_47 ?_
      refine gx_iload_n dX12_helper_48 rfl 2 rfl ?_
      refine gx_bE e (fun _ g18 e => ?_)
      refine gx_bE e (fun _ g19 e => ?_)
      refine gx_iE e (fun c20 e => ?_) (fun c20 e => ?_)
      · refine gy_icmp_ne (tgt := 56) (gi_rgS g18) (gi_rgS g19) dX12_helper_49 (by decide) (fun z => absurd c20 z) (fun _ => ?_)
        refine gx_sub (ls2 := [(0, .ref v0), (1, .int (gI v1)), (3, .int (gI v3)), (4, .int (gI t13))]) [1, 2, 4, 0] rfl ?_
        exact zb_X12_helper_52 hr3 hr13 e
      · refine gy_icmp_ne (tgt := 56) (gi_rgS g18) (gi_rgS g19) dX12_helper_49 (by decide) (fun _ => ?_) (fun z => absurd z c20)
        refine gy_iconst dX12_helper_56 ?_
        refine gx_sub (ls2 := [(0, .ref v0), (1, .int (gI v1)), (3, .int (gI v3)), (4, .int (gI t13))]) [1, 2, 4, 0] rfl ?_
        exact zb_X12_helper_57 hr3 hr13 e
    · refine gy_if_ne (tgt := 52) (gi_rgS g14) dX12_helper_38 (by decide) (fun _ => ?_) (fun z => absurd z c15)
      refine gx_sub (ls2 := [(0, .ref v0), (1, .int (gI v1)), (3, .int (gI v3)), (4, .int (gI t13))]) [1, 2, 4, 0] rfl ?_
      exact zb_X12_helper_52 hr3 hr13 e
def l_X12_helper_13 (n : Nat) (r3 : Nat → Int → gi_H → Option (Int)) : Nat → Nat → Int → Int → Int → gi_H → Option (Int)
  | 0, _, _, _, _, _ => none
  | k + 1, v0, v1, v2, v3, h => b_X12_helper_13 n r3 (l_X12_helper_13 n r3 k) v0 v1 v2 v3 h
theorem zl_X12_helper_13 {al : Bool} {n : Nat} {r3 : Nat → Int → gi_H → Option (Int)} {res : Int} (hr3 : ∀ (x0 : Nat) (x1 : Int) (hh : gi_H), r3 x0 x1 hh = some res → gx_Z mX12_helper al al 0 0 3 [(0, .ref x0), (1, .int (gI x1))] [] (gi_cv hh) (.inl (some (.int (gI res)))) (gi_cv hh)) : ∀ (k : Nat) (v0 : Nat) (v1 : Int) (v2 : Int) (v3 : Int) (h : gi_H), l_X12_helper_13 n r3 k v0 v1 v2 v3 h = some res → gx_Z mX12_helper al al 0 0 13 [(0, .ref v0), (1, .int (gI v1)), (2, .int (gI v2)), (3, .int (gI v3))] [] (gi_cv h) (.inl (some (.int (gI res)))) (gi_cv h)
  | 0, _, _, _, _, _, e => gx_0E e
  | k + 1, _, _, _, _, _, e => zb_X12_helper_13 (n := n) hr3 (zl_X12_helper_13 hr3 k) e
set_option maxRecDepth 100000 in
def b_X12_helper_3 (n : Nat) (r3 : Nat → Int → gi_H → Option (Int)) (v0 : Nat) (v1 : Int)  (h : gi_H) : Option (Int) :=
  Option.bind (gi_rg v1) fun _ => if (16 : Int) ≤ v1 then (some (-1 : Int)) else (l_X12_helper_13 n r3 n v0 v1 (0 : Int) (0 : Int) h)
set_option maxRecDepth 100000 in
theorem zb_X12_helper_3 {al : Bool} {n : Nat} {r3 : Nat → Int → gi_H → Option (Int)} {res : Int} (hr3 : ∀ (x0 : Nat) (x1 : Int) (hh : gi_H), r3 x0 x1 hh = some res → gx_Z mX12_helper al al 0 0 3 [(0, .ref x0), (1, .int (gI x1))] [] (gi_cv hh) (.inl (some (.int (gI res)))) (gi_cv hh)) {v0 : Nat} {v1 : Int}  {h : gi_H} (e : b_X12_helper_3 n r3 v0 v1 h = some res) : gx_Z mX12_helper al al 0 0 3 [(0, .ref v0), (1, .int (gI v1))] [] (gi_cv h) (.inl (some (.int (gI res)))) (gi_cv h) := by
  refine gx_iload_n dX12_helper_3 rfl 1 rfl ?_
  refine gy_bipush dX12_helper_4 gcb_16 ?_
  refine gx_bE e (fun _ g1 e => ?_)
  refine gx_iE e (fun c2 e => ?_) (fun c2 e => ?_)
  · refine gy_icmp_ge (tgt := 126) (gi_rgS g1) (by decide) dX12_helper_6 (by decide) (fun _ => ?_) (fun z => absurd c2 z)
    refine gy_iconst dX12_helper_126 ?_
    cases e
    exact gx_iret dX12_helper_127 rfl ⟨Nat.le_of_ble_eq_true rfl, Nat.le_of_ble_eq_true rfl⟩ (fun z => z)
  · refine gy_icmp_ge (tgt := 126) (gi_rgS g1) (by decide) dX12_helper_6 (by decide) (fun z => absurd z c2) (fun _ => ?_)
    refine gy_iconst dX12_helper_9 ?_
    refine gx_istore_n (ls2 := [(2, .int (gI (0 : Int))), (0, .ref v0), (1, .int (gI v1))]) dX12_helper_10 rfl (Nat.le_of_ble_eq_true rfl) rfl ?_
    refine gy_iconst dX12_helper_11 ?_
    refine gx_istore_n (ls2 := [(3, .int (gI (0 : Int))), (2, .int (gI (0 : Int))), (0, .ref v0), (1, .int (gI v1))]) dX12_helper_12 rfl (Nat.le_of_ble_eq_true rfl) rfl ?_
    refine gx_sub (ls2 := [(0, .ref v0), (1, .int (gI v1)), (2, .int (gI (0 : Int))), (3, .int (gI (0 : Int)))]) [2, 3, 1, 0] rfl ?_
    exact zl_X12_helper_13 hr3 n _ _ _ _ _ e
def l_X12_helper_3 (n : Nat)  : Nat → Nat → Int → gi_H → Option (Int)
  | 0, _, _, _ => none
  | k + 1, v0, v1, h => b_X12_helper_3 n  (l_X12_helper_3 n  k) v0 v1 h
theorem zl_X12_helper_3 {al : Bool} {n : Nat}  {res : Int}  : ∀ (k : Nat) (v0 : Nat) (v1 : Int) (h : gi_H), l_X12_helper_3 n  k v0 v1 h = some res → gx_Z mX12_helper al al 0 0 3 [(0, .ref v0), (1, .int (gI v1))] [] (gi_cv h) (.inl (some (.int (gI res)))) (gi_cv h)
  | 0, _, _, _, e => gx_0E e
  | k + 1, _, _, _, e => zb_X12_helper_3 (n := n)  (zl_X12_helper_3  k) e
set_option maxRecDepth 100000 in
def f_X12_helper (n : Nat) (v0 : Nat) (h : gi_H) : Option (Int) :=
  l_X12_helper_3 n  n v0 (8 : Int) h
set_option maxRecDepth 100000 in
theorem z_X12_helper {al : Bool} {n : Nat} {v0 : Nat} {h : gi_H} {res : Int} (e : f_X12_helper n v0 h = some res) : gx_Cw mX12_helper al [.ref v0] (gi_cv h) (.inl (some (.int (gI res)))) (gi_cv h) := by
  refine gx_enter (by decide +kernel) rfl (Nat.le_of_ble_eq_true rfl) ?_
  show gx_Z mX12_helper al al 0 0 0 [(0, .ref v0)] [] (gi_cv h) (.inl (some (.int (gI res)))) (gi_cv h)
  refine gy_bipush dX12_helper_0 gcb_8 ?_
  refine gx_istore_n (ls2 := [(1, .int (gI (8 : Int))), (0, .ref v0)]) dX12_helper_2 rfl (Nat.le_of_ble_eq_true rfl) rfl ?_
  refine gx_sub (ls2 := [(0, .ref v0), (1, .int (gI (8 : Int)))]) [1, 0] rfl ?_
  exact zl_X12_helper_3  n _ _ _ e
/-! X12_adds  -/
set_option maxRecDepth 100000 in
def b_X12_adds_96 (n : Nat)  (v0 : Nat)  (h : gi_H) : Option (Int × gi_H) :=
  Option.bind (gi_gR h v0 10 3) fun t20 => Option.bind (gi_gI h v0 10 9) fun t21 => Option.bind (gi_aI h 1 t20 t21) fun t22 => Option.bind (gi_s1 h t20 t21 (t22 + (1 : Int))) fun h23 => some ((1 : Int), h23)
set_option maxRecDepth 100000 in
theorem zb_X12_adds_96 {al : Bool} {n : Nat}  {res : Int} {h1 : gi_H}  {v0 : Nat}  {h : gi_H} (e : b_X12_adds_96 n v0 h = some (res, h1)) : gx_Z mX12_adds al al 0 0 96 [(0, .ref v0)] [] (gi_cv h) (.inl (some (.int (gI res)))) (gi_cv h1) := by
  refine gx_aload_n dX12_adds_96 rfl 0 rfl ?_
  refine gx_bE e (fun t20 ht20 e => ?_)
  refine gy_fR ht20 dX12_adds_97 gf_RX12_19_10_3 (by decide) gkN_10_3 gkR_10_3 ?_
  refine gx_aload_n dX12_adds_100 rfl 0 rfl ?_
  refine gx_bE e (fun t21 ht21 e => ?_)
  refine gy_fI ht21 dX12_adds_101 gf_RX12_139_10_9 (by decide) gkN_10_9 gkR_10_9 ?_
  refine gx_dup2 dX12_adds_104 rfl rfl ?_
  refine gx_bE e (fun t22 ht22 e => ?_)
  refine gy_l1 ht22 dX12_adds_105 ?_
  refine gy_iconst dX12_adds_106 ?_
  refine gy_iadd dX12_adds_107 ?_
  refine gx_bE e (fun h23 hh23 e => ?_)
  refine gy_t1 hh23 dX12_adds_108 ?_
  refine gy_iconst dX12_adds_109 ?_
  cases e
  exact gx_zret (by decide +kernel) dX12_adds_110 rfl ⟨Nat.le_of_ble_eq_true rfl, Nat.le_of_ble_eq_true rfl⟩ (fun z => z)
set_option maxRecDepth 100000 in
def b_X12_adds_63 (n : Nat) (r63 : Nat → Int → Int → Int → Int → gi_H → Option (Int × gi_H)) (v0 : Nat) (v2 : Int) (v3 : Int) (v4 : Int) (v5 : Int)  (h : gi_H) : Option (Int × gi_H) :=
  Option.bind (gi_rg v5) fun _ => Option.bind (gi_rg v3) fun _ => if v3 ≤ v5 then (b_X12_adds_96 n  v0 h) else (Option.bind (gi_gR h v0 10 2) fun t24 => Option.bind (gi_gR h v0 10 14) fun t25 => Option.bind (gi_aI h 1 t25 v5) fun t26 => Option.bind (gi_s1 h t24 ((((5 : Int) * v4) + v5) - v2) t26) fun h27 => gx_nm (v5 + (1 : Int)) fun t28 => r63 v0 v2 v3 v4 t28 h27)
set_option maxRecDepth 100000 in
theorem zb_X12_adds_63 {al : Bool} {n : Nat} {r63 : Nat → Int → Int → Int → Int → gi_H → Option (Int × gi_H)} {res : Int} {h1 : gi_H} (hr63 : ∀ (x0 : Nat) (x2 : Int) (x3 : Int) (x4 : Int) (x5 : Int) (hh : gi_H), r63 x0 x2 x3 x4 x5 hh = some (res, h1) → gx_Z mX12_adds al al 0 0 63 [(0, .ref x0), (2, .int (gI x2)), (3, .int (gI x3)), (4, .int (gI x4)), (5, .int (gI x5))] [] (gi_cv hh) (.inl (some (.int (gI res)))) (gi_cv h1)) {v0 : Nat} {v2 : Int} {v3 : Int} {v4 : Int} {v5 : Int}  {h : gi_H} (e : b_X12_adds_63 n r63 v0 v2 v3 v4 v5 h = some (res, h1)) : gx_Z mX12_adds al al 0 0 63 [(0, .ref v0), (2, .int (gI v2)), (3, .int (gI v3)), (4, .int (gI v4)), (5, .int (gI v5))] [] (gi_cv h) (.inl (some (.int (gI res)))) (gi_cv h1) := by
  refine gx_iload dX12_adds_63 4 rfl ?_
  refine gx_iload_n dX12_adds_65 rfl 2 rfl ?_
  refine gx_bE e (fun _ g17 e => ?_)
  refine gx_bE e (fun _ g18 e => ?_)
  refine gx_iE e (fun c19 e => ?_) (fun c19 e => ?_)
  · refine gy_icmp_ge (tgt := 96) (gi_rgS g17) (gi_rgS g18) dX12_adds_66 (by decide) (fun _ => ?_) (fun z => absurd c19 z)
    refine gx_sub (ls2 := [(0, .ref v0)]) [0] rfl ?_
    exact zb_X12_adds_96  e
  · refine gy_icmp_ge (tgt := 96) (gi_rgS g17) (gi_rgS g18) dX12_adds_66 (by decide) (fun z => absurd z c19) (fun _ => ?_)
    refine gx_aload_n dX12_adds_69 rfl 0 rfl ?_
    refine gx_bE e (fun t24 ht24 e => ?_)
    refine gy_fR ht24 dX12_adds_70 gf_RX12_16_10_2 (by decide) gkN_10_2 gkR_10_2 ?_
    refine gy_iconst dX12_adds_73 ?_
    refine gx_iload dX12_adds_74 3 rfl ?_
    refine gy_imul dX12_adds_76 ?_
    refine gx_iload dX12_adds_77 4 rfl ?_
    refine gy_iadd dX12_adds_79 ?_
    refine gx_iload_n dX12_adds_80 rfl 1 rfl ?_
    refine gy_isub dX12_adds_81 ?_
    refine gx_aload_n dX12_adds_82 rfl 0 rfl ?_
    refine gx_bE e (fun t25 ht25 e => ?_)
    refine gy_fR ht25 dX12_adds_83 gf_RX12_46_10_14 (by decide) gkN_10_14 gkR_10_14 ?_
    refine gx_iload dX12_adds_86 4 rfl ?_
    refine gx_bE e (fun t26 ht26 e => ?_)
    refine gy_l1 ht26 dX12_adds_88 ?_
    refine gx_bE e (fun h27 hh27 e => ?_)
    refine gy_t1 hh27 dX12_adds_89 ?_
    refine gx_nE e (fun t28 ht28 e => ?_)
    refine gy_iinc (v := t28) (ls2 := [(5, .int (gI t28)), (0, .ref v0), (2, .int (gI v2)), (3, .int (gI v3)), (4, .int (gI v4))]) dX12_adds_90 4 rfl ht28 (Nat.le_of_ble_eq_true rfl) rfl ?_
    refine gx_goto (tgt := 63) dX12_adds_93 (by decide) ?_
    refine gx_sub (ls2 := [(0, .ref v0), (2, .int (gI v2)), (3, .int (gI v3)), (4, .int (gI v4)), (5, .int (gI t28))]) [1, 2, 3, 4, 0] rfl ?_
    exact hr63 _ _ _ _ _ _ e
def l_X12_adds_63 (n : Nat)  : Nat → Nat → Int → Int → Int → Int → gi_H → Option (Int × gi_H)
  | 0, _, _, _, _, _, _ => none
  | k + 1, v0, v2, v3, v4, v5, h => b_X12_adds_63 n  (l_X12_adds_63 n  k) v0 v2 v3 v4 v5 h
theorem zl_X12_adds_63 {al : Bool} {n : Nat}  {res : Int} {h1 : gi_H}  : ∀ (k : Nat) (v0 : Nat) (v2 : Int) (v3 : Int) (v4 : Int) (v5 : Int) (h : gi_H), l_X12_adds_63 n  k v0 v2 v3 v4 v5 h = some (res, h1) → gx_Z mX12_adds al al 0 0 63 [(0, .ref v0), (2, .int (gI v2)), (3, .int (gI v3)), (4, .int (gI v4)), (5, .int (gI v5))] [] (gi_cv h) (.inl (some (.int (gI res)))) (gi_cv h1)
  | 0, _, _, _, _, _, _, e => gx_0E e
  | k + 1, _, _, _, _, _, _, e => zb_X12_adds_63 (n := n)  (zl_X12_adds_63  k) e
set_option maxRecDepth 100000 in
def f_X12_adds (n : Nat) (v0 : Nat) (v1 : Int) (v2 : Int) (v3 : Int) (h : gi_H) : Option (Int × gi_H) :=
  Option.bind (gi_gR h v0 10 3) fun t1 => Option.bind (gi_gI h v0 10 9) fun t2 => Option.bind (gi_aI h 1 t1 t2) fun t3 => Option.bind (gi_rg t3) fun _ => if t3 = (24 : Int) then (some ((0 : Int), h)) else (Option.bind (gi_rg (v3 - v2)) fun _ => if (v3 - v2) ≤ (5 : Int) then (Option.bind (gi_gI h v0 10 9) fun t8 => Option.bind (gi_gR h v0 10 3) fun t9 => Option.bind (gi_gI h v0 10 9) fun t10 => Option.bind (gi_aI h 1 t9 t10) fun t11 => gx_nm (((24 : Int) * t8) + t11) fun t12 => Option.bind (gi_gR h v0 10 0) fun t13 => Option.bind (gi_s1 h t13 t12 v1) fun h14 => Option.bind (gi_gR h14 v0 10 1) fun t15 => Option.bind (gi_s1 h14 t15 t12 (v3 - v2)) fun h16 => l_X12_adds_63 n  n v0 v2 v3 t12 v2 h16) else (some ((0 : Int), h)))
set_option maxRecDepth 100000 in
theorem z_X12_adds {al : Bool} {n : Nat} {v0 : Nat} {v1 : Int} {v2 : Int} {v3 : Int} {h : gi_H} {res : Int} {h1 : gi_H} (e : f_X12_adds n v0 v1 v2 v3 h = some (res, h1)) : gx_Cw mX12_adds al [.ref v0, .int (gI v1), .int (gI v2), .int (gI v3)] (gi_cv h) (.inl (some (.int (gI res)))) (gi_cv h1) := by
  refine gx_enter (by decide +kernel) rfl (Nat.le_of_ble_eq_true rfl) ?_
  show gx_Z mX12_adds al al 0 0 0 [(0, .ref v0), (1, .int (gI v1)), (2, .int (gI v2)), (3, .int (gI v3))] [] (gi_cv h) (.inl (some (.int (gI res)))) (gi_cv h1)
  refine gx_aload_n dX12_adds_0 rfl 0 rfl ?_
  refine gx_bE e (fun t1 ht1 e => ?_)
  refine gy_fR ht1 dX12_adds_1 gf_RX12_19_10_3 (by decide) gkN_10_3 gkR_10_3 ?_
  refine gx_aload_n dX12_adds_4 rfl 0 rfl ?_
  refine gx_bE e (fun t2 ht2 e => ?_)
  refine gy_fI ht2 dX12_adds_5 gf_RX12_139_10_9 (by decide) gkN_10_9 gkR_10_9 ?_
  refine gx_bE e (fun t3 ht3 e => ?_)
  refine gy_l1 ht3 dX12_adds_8 ?_
  refine gy_bipush dX12_adds_9 gcb_24 ?_
  refine gx_bE e (fun _ g4 e => ?_)
  refine gx_iE e (fun c5 e => ?_) (fun c5 e => ?_)
  · refine gy_icmp_eq (tgt := 21) (gi_rgS g4) (by decide) dX12_adds_11 (by decide) (fun _ => ?_) (fun z => absurd c5 z)
    refine gy_iconst dX12_adds_21 ?_
    cases e
    exact gx_zret (by decide +kernel) dX12_adds_22 rfl ⟨Nat.le_of_ble_eq_true rfl, Nat.le_of_ble_eq_true rfl⟩ (fun z => z)
  · refine gy_icmp_eq (tgt := 21) (gi_rgS g4) (by decide) dX12_adds_11 (by decide) (fun z => absurd z c5) (fun _ => ?_)
    refine gx_iload_n dX12_adds_14 rfl 3 rfl ?_
    refine gx_iload_n dX12_adds_15 rfl 2 rfl ?_
    refine gy_isub dX12_adds_16 ?_
    refine gy_iconst dX12_adds_17 ?_
    refine gx_bE e (fun _ g6 e => ?_)
    refine gx_iE e (fun c7 e => ?_) (fun c7 e => ?_)
    · refine gy_icmp_le (tgt := 23) (gi_rgS g6) (by decide) dX12_adds_18 (by decide) (fun _ => ?_) (fun z => absurd c7 z)
      refine gy_bipush dX12_adds_23 gcb_24 ?_
      refine gx_aload_n dX12_adds_25 rfl 0 rfl ?_
      refine gx_bE e (fun t8 ht8 e => ?_)
      refine gy_fI ht8 dX12_adds_26 gf_RX12_139_10_9 (by decide) gkN_10_9 gkR_10_9 ?_
      refine gy_imul dX12_adds_29 ?_
      refine gx_aload_n dX12_adds_30 rfl 0 rfl ?_
      refine gx_bE e (fun t9 ht9 e => ?_)
      refine gy_fR ht9 dX12_adds_31 gf_RX12_19_10_3 (by decide) gkN_10_3 gkR_10_3 ?_
      refine gx_aload_n dX12_adds_34 rfl 0 rfl ?_
      refine gx_bE e (fun t10 ht10 e => ?_)
      refine gy_fI ht10 dX12_adds_35 gf_RX12_139_10_9 (by decide) gkN_10_9 gkR_10_9 ?_
      refine gx_bE e (fun t11 ht11 e => ?_)
      refine gy_l1 ht11 dX12_adds_38 ?_
      refine gy_iadd dX12_adds_39 ?_
      refine gx_nE e (fun t12 ht12 e => ?_)
      rw [ht12]
      refine gx_istore (ls2 := [(4, .int (gI t12)), (0, .ref v0), (1, .int (gI v1)), (2, .int (gI v2)), (3, .int (gI v3))]) dX12_adds_40 (Nat.le_of_ble_eq_true rfl) rfl ?_
      refine gx_aload_n dX12_adds_42 rfl 1 rfl ?_
      refine gx_bE e (fun t13 ht13 e => ?_)
      refine gy_fR ht13 dX12_adds_43 gf_RX12_7_10_0 (by decide) gkN_10_0 gkR_10_0 ?_
      refine gx_iload dX12_adds_46 0 rfl ?_
      refine gx_iload_n dX12_adds_48 rfl 2 rfl ?_
      refine gx_bE e (fun h14 hh14 e => ?_)
      refine gy_t1 hh14 dX12_adds_49 ?_
      refine gx_aload_n dX12_adds_50 rfl 1 rfl ?_
      refine gx_bE e (fun t15 ht15 e => ?_)
      refine gy_fR ht15 dX12_adds_51 gf_RX12_13_10_1 (by decide) gkN_10_1 gkR_10_1 ?_
      refine gx_iload dX12_adds_54 0 rfl ?_
      refine gx_iload_n dX12_adds_56 rfl 4 rfl ?_
      refine gx_iload_n dX12_adds_57 rfl 3 rfl ?_
      refine gy_isub dX12_adds_58 ?_
      refine gx_bE e (fun h16 hh16 e => ?_)
      refine gy_t1 hh16 dX12_adds_59 ?_
      refine gx_iload_n dX12_adds_60 rfl 3 rfl ?_
      refine gx_istore (ls2 := [(5, .int (gI v2)), (4, .int (gI t12)), (0, .ref v0), (1, .int (gI v1)), (2, .int (gI v2)), (3, .int (gI v3))]) dX12_adds_61 (Nat.le_of_ble_eq_true rfl) rfl ?_
      refine gx_sub (ls2 := [(0, .ref v0), (2, .int (gI v2)), (3, .int (gI v3)), (4, .int (gI t12)), (5, .int (gI v2))]) [2, 4, 5, 1, 0] rfl ?_
      exact zl_X12_adds_63  n _ _ _ _ _ _ e
    · refine gy_icmp_le (tgt := 23) (gi_rgS g6) (by decide) dX12_adds_18 (by decide) (fun z => absurd z c7) (fun _ => ?_)
      refine gy_iconst dX12_adds_21 ?_
      cases e
      exact gx_zret (by decide +kernel) dX12_adds_22 rfl ⟨Nat.le_of_ble_eq_true rfl, Nat.le_of_ble_eq_true rfl⟩ (fun z => z)
/-! X12_stands  -/
set_option maxRecDepth 100000 in
def b_X12_stands_186 (n : Nat)  (v0 : Nat) (v3 : Int) (s0 : Int) (h : gi_H) : Option (Int × gi_H) :=
  Option.bind (gi_gR h v0 10 14) fun t25 => Option.bind (gi_gI h v0 10 15) fun t26 => Option.bind (gi_s1 h t25 (t26 - (1 : Int)) ((16 : Int) + v3)) fun h27 => Option.bind (gi_zo s0) fun _ => some (s0, h27)
set_option maxRecDepth 100000 in
theorem zb_X12_stands_186 {al : Bool} {n : Nat}  {res : Int} {h1 : gi_H}  {v0 : Nat} {v3 : Int} {s0 : Int} {h : gi_H} (e : b_X12_stands_186 n v0 v3 s0 h = some (res, h1)) : gx_Z mX12_stands al al 0 0 186 [(0, .ref v0), (3, .int (gI v3))] [.int (gI s0)] (gi_cv h) (.inl (some (.int (gI res)))) (gi_cv h1) := by
  refine gx_istore (ls2 := [(6, .int (gI s0)), (0, .ref v0), (3, .int (gI v3))]) dX12_stands_186 (Nat.le_of_ble_eq_true rfl) rfl ?_
  refine gx_aload_n dX12_stands_188 rfl 1 rfl ?_
  refine gx_bE e (fun t25 ht25 e => ?_)
  refine gy_fR ht25 dX12_stands_189 gf_RX12_46_10_14 (by decide) gkN_10_14 gkR_10_14 ?_
  refine gx_aload_n dX12_stands_192 rfl 1 rfl ?_
  refine gx_bE e (fun t26 ht26 e => ?_)
  refine gy_fI ht26 dX12_stands_193 gf_RX12_142_10_15 (by decide) gkN_10_15 gkR_10_15 ?_
  refine gy_iconst dX12_stands_196 ?_
  refine gy_isub dX12_stands_197 ?_
  refine gy_bipush dX12_stands_198 gcb_16 ?_
  refine gx_iload_n dX12_stands_200 rfl 2 rfl ?_
  refine gy_iadd dX12_stands_201 ?_
  refine gx_bE e (fun h27 hh27 e => ?_)
  refine gy_t1 hh27 dX12_stands_202 ?_
  refine gx_iload dX12_stands_203 0 rfl ?_
  refine gx_bE e (fun _ hu28 e => ?_)
  cases e
  exact gx_zret (gi_zoS hu28) dX12_stands_205 rfl ⟨Nat.le_of_ble_eq_true rfl, Nat.le_of_ble_eq_true rfl⟩ (fun z => z)
set_option maxRecDepth 100000 in
def b_X12_stands_185 (n : Nat)  (v0 : Nat) (v3 : Int)  (h : gi_H) : Option (Int × gi_H) :=
  b_X12_stands_186 n  v0 v3 (0 : Int) h
set_option maxRecDepth 100000 in
theorem zb_X12_stands_185 {al : Bool} {n : Nat}  {res : Int} {h1 : gi_H}  {v0 : Nat} {v3 : Int}  {h : gi_H} (e : b_X12_stands_185 n v0 v3 h = some (res, h1)) : gx_Z mX12_stands al al 0 0 185 [(0, .ref v0), (3, .int (gI v3))] [] (gi_cv h) (.inl (some (.int (gI res)))) (gi_cv h1) := by
  refine gy_iconst dX12_stands_185 ?_
  exact zb_X12_stands_186  e
set_option maxRecDepth 100000 in
def b_X12_stands_181 (n : Nat)  (v0 : Nat) (v3 : Int)  (h : gi_H) : Option (Int × gi_H) :=
  b_X12_stands_186 n  v0 v3 (1 : Int) h
set_option maxRecDepth 100000 in
theorem zb_X12_stands_181 {al : Bool} {n : Nat}  {res : Int} {h1 : gi_H}  {v0 : Nat} {v3 : Int}  {h : gi_H} (e : b_X12_stands_181 n v0 v3 h = some (res, h1)) : gx_Z mX12_stands al al 0 0 181 [(0, .ref v0), (3, .int (gI v3))] [] (gi_cv h) (.inl (some (.int (gI res)))) (gi_cv h1) := by
  refine gy_iconst dX12_stands_181 ?_
  refine gx_goto (tgt := 186) dX12_stands_182 (by decide) ?_
  exact zb_X12_stands_186  e
set_option maxRecDepth 100000 in
def b_X12_stands_175 (n : Nat)  (v0 : Nat) (v3 : Int) (s0 : Nat) (s1 : Int) (s2 : Int) (s3 : Int) (h : gi_H) : Option (Int × gi_H) :=
  Option.bind (gi_is h s0 10) fun _ => Option.bind (f_X12_adds n s0 s1 s2 s3 h) fun q37 => Option.bind (gi_rg q37.1) fun _ => if q37.1 = 0 then (b_X12_stands_185 n  v0 v3 q37.2) else (b_X12_stands_181 n  v0 v3 q37.2)
set_option maxRecDepth 100000 in
theorem zb_X12_stands_175 {al : Bool} {n : Nat}  {res : Int} {h1 : gi_H}  {v0 : Nat} {v3 : Int} {s0 : Nat} {s1 : Int} {s2 : Int} {s3 : Int} {h : gi_H} (e : b_X12_stands_175 n v0 v3 s0 s1 s2 s3 h = some (res, h1)) : gx_Z mX12_stands al al 0 0 175 [(0, .ref v0), (3, .int (gI v3))] [.int (gI s3), .int (gI s2), .int (gI s1), .ref s0] (gi_cv h) (.inl (some (.int (gI res)))) (gi_cv h1) := by
  refine gx_bE e (fun _ hu36 e => ?_)
  refine gx_bE e (fun q37 hq37 e => ?_)
  refine gx_callV (n := 3) (st := []) (As := [.int (gI s1), .int (gI s2), .int (gI s3)]) (b := s0) dX12_stands_175 (z_X12_adds hq37) rfl ⟨rfl, gw_cw_X12_adds, gw_14, gp_X12_adds, ⟨Nat.le_of_ble_eq_true rfl, Nat.le_of_ble_eq_true rfl⟩⟩ (gi_isS hu36) (by decide) gw_1516 gw_1518 gs_64 rfl ⟨Nat.le_of_ble_eq_true rfl, Nat.le_of_ble_eq_true rfl⟩ (Nat.le_of_ble_eq_true rfl) (gy_k1 (x := .int (gI q37.1)) (kc2 := 0) (ks2 := 0) ⟨rfl, rfl⟩ ?_) gy_kn
  refine gx_bE e (fun _ g38 e => ?_)
  refine gx_iE e (fun c39 e => ?_) (fun c39 e => ?_)
  · refine gy_if_eq (tgt := 185) (gi_rgS g38) dX12_stands_178 (by decide) (fun _ => ?_) (fun z => absurd c39 z)
    exact zb_X12_stands_185  e
  · refine gy_if_eq (tgt := 185) (gi_rgS g38) dX12_stands_178 (by decide) (fun z => absurd z c39) (fun _ => ?_)
    exact zb_X12_stands_181  e
set_option maxRecDepth 100000 in
def b_X12_stands_122 (n : Nat)  (v0 : Nat) (v1 : Int) (v3 : Int) (v5 : Int) (s0 : Int) (h : gi_H) : Option (Int × gi_H) :=
  Option.bind (gi_rg s0) fun _ => if s0 = 0 then (b_X12_stands_185 n  v0 v3 h) else (Option.bind (gi_rg v1) fun _ => if v1 = (63 : Int) then (Option.bind (gi_is h v0 10) fun _ => Option.bind (f_X12_adds n v0 v3 (v5 + (3 : Int)) (v5 + (4 : Int)) h) fun q32 => Option.bind (gi_rg q32.1) fun _ => if q32.1 = 0 then (b_X12_stands_185 n  v0 v3 q32.2) else (b_X12_stands_181 n  v0 v3 q32.2)) else (if v1 = (37 : Int) then (b_X12_stands_175 n  v0 v3 v0 v3 v5 (v5 + (3 : Int)) h) else (b_X12_stands_175 n  v0 v3 v0 v3 v5 (v5 + (2 : Int)) h)))
set_option maxRecDepth 100000 in
theorem zb_X12_stands_122 {al : Bool} {n : Nat}  {res : Int} {h1 : gi_H}  {v0 : Nat} {v1 : Int} {v3 : Int} {v5 : Int} {s0 : Int} {h : gi_H} (e : b_X12_stands_122 n v0 v1 v3 v5 s0 h = some (res, h1)) : gx_Z mX12_stands al al 0 0 122 [(0, .ref v0), (1, .int (gI v1)), (3, .int (gI v3)), (5, .int (gI v5))] [.int (gI s0)] (gi_cv h) (.inl (some (.int (gI res)))) (gi_cv h1) := by
  refine gx_istore (ls2 := [(6, .int (gI s0)), (0, .ref v0), (1, .int (gI v1)), (3, .int (gI v3)), (5, .int (gI v5))]) dX12_stands_122 (Nat.le_of_ble_eq_true rfl) rfl ?_
  refine gx_iload dX12_stands_124 0 rfl ?_
  refine gx_bE e (fun _ g23 e => ?_)
  refine gx_iE e (fun c24 e => ?_) (fun c24 e => ?_)
  · refine gy_if_eq (tgt := 185) (gi_rgS g23) dX12_stands_126 (by decide) (fun _ => ?_) (fun z => absurd c24 z)
    refine gx_sub (ls2 := [(0, .ref v0), (3, .int (gI v3))]) [1, 3] rfl ?_
    exact zb_X12_stands_185  e
  · refine gy_if_eq (tgt := 185) (gi_rgS g23) dX12_stands_126 (by decide) (fun z => absurd z c24) (fun _ => ?_)
    refine gx_iload_n dX12_stands_129 rfl 2 rfl ?_
    refine gy_bipush dX12_stands_130 gcb_63 ?_
    refine gx_bE e (fun _ g29 e => ?_)
    refine gx_iE e (fun c30 e => ?_) (fun c30 e => ?_)
    · refine gy_icmp_ne (tgt := 154) (gi_rgS g29) (by decide) dX12_stands_132 (by decide) (fun z => absurd c30 z) (fun _ => ?_)
      refine gx_aload_n dX12_stands_135 rfl 1 rfl ?_
      refine gx_iload_n dX12_stands_136 rfl 3 rfl ?_
      refine gx_iload dX12_stands_137 4 rfl ?_
      refine gy_iconst dX12_stands_139 ?_
      refine gy_iadd dX12_stands_140 ?_
      refine gx_iload dX12_stands_141 4 rfl ?_
      refine gy_iconst dX12_stands_143 ?_
      refine gy_iadd dX12_stands_144 ?_
      refine gx_bE e (fun _ hu31 e => ?_)
      refine gx_bE e (fun q32 hq32 e => ?_)
      refine gx_callV (n := 3) (st := []) (As := [.int (gI v3), .int (gI (v5 + (3 : Int))), .int (gI (v5 + (4 : Int)))]) (b := v0) dX12_stands_145 (z_X12_adds hq32) rfl ⟨rfl, gw_cw_X12_adds, gw_14, gp_X12_adds, ⟨Nat.le_of_ble_eq_true rfl, Nat.le_of_ble_eq_true rfl⟩⟩ (gi_isS hu31) (by decide) gw_1516 gw_1518 gs_64 rfl ⟨Nat.le_of_ble_eq_true rfl, Nat.le_of_ble_eq_true rfl⟩ (Nat.le_of_ble_eq_true rfl) (gy_k1 (x := .int (gI q32.1)) (kc2 := 0) (ks2 := 0) ⟨rfl, rfl⟩ ?_) gy_kn
      refine gx_bE e (fun _ g33 e => ?_)
      refine gx_iE e (fun c34 e => ?_) (fun c34 e => ?_)
      · refine gy_if_eq (tgt := 185) (gi_rgS g33) dX12_stands_148 (by decide) (fun _ => ?_) (fun z => absurd c34 z)
        refine gx_sub (ls2 := [(0, .ref v0), (3, .int (gI v3))]) [1, 3] rfl ?_
        exact zb_X12_stands_185  e
      · refine gy_if_eq (tgt := 185) (gi_rgS g33) dX12_stands_148 (by decide) (fun z => absurd z c34) (fun _ => ?_)
        refine gx_goto (tgt := 181) dX12_stands_151 (by decide) ?_
        refine gx_sub (ls2 := [(0, .ref v0), (3, .int (gI v3))]) [1, 3] rfl ?_
        exact zb_X12_stands_181  e
    · refine gy_icmp_ne (tgt := 154) (gi_rgS g29) (by decide) dX12_stands_132 (by decide) (fun _ => ?_) (fun z => absurd z c30)
      refine gx_aload_n dX12_stands_154 rfl 1 rfl ?_
      refine gx_iload_n dX12_stands_155 rfl 3 rfl ?_
      refine gx_iload dX12_stands_156 4 rfl ?_
      refine gx_iload_n dX12_stands_158 rfl 2 rfl ?_
      refine gy_bipush dX12_stands_159 gcb_37 ?_
      refine gx_iE e (fun c35 e => ?_) (fun c35 e => ?_)
      · refine gy_icmp_ne (tgt := 171) (gi_rgS g29) (by decide) dX12_stands_161 (by decide) (fun z => absurd c35 z) (fun _ => ?_)
        refine gx_iload dX12_stands_164 4 rfl ?_
        refine gy_iconst dX12_stands_166 ?_
        refine gy_iadd dX12_stands_167 ?_
        refine gx_goto (tgt := 175) dX12_stands_168 (by decide) ?_
        refine gx_sub (ls2 := [(0, .ref v0), (3, .int (gI v3))]) [1, 3] rfl ?_
        exact zb_X12_stands_175  e
      · refine gy_icmp_ne (tgt := 171) (gi_rgS g29) (by decide) dX12_stands_161 (by decide) (fun _ => ?_) (fun z => absurd z c35)
        refine gx_iload dX12_stands_171 4 rfl ?_
        refine gy_iconst dX12_stands_173 ?_
        refine gy_iadd dX12_stands_174 ?_
        refine gx_sub (ls2 := [(0, .ref v0), (3, .int (gI v3))]) [1, 3] rfl ?_
        exact zb_X12_stands_175  e
set_option maxRecDepth 100000 in
def b_X12_stands_97 (n : Nat)  (v0 : Nat) (v1 : Int) (v3 : Int) (v5 : Int)  (h : gi_H) : Option (Int × gi_H) :=
  Option.bind (gi_is h v0 10) fun _ => Option.bind (f_X12_adds n v0 v3 v5 v5 h) fun q22 => b_X12_stands_122 n  v0 v1 v3 v5 q22.1 q22.2
set_option maxRecDepth 100000 in
theorem zb_X12_stands_97 {al : Bool} {n : Nat}  {res : Int} {h1 : gi_H}  {v0 : Nat} {v1 : Int} {v3 : Int} {v5 : Int}  {h : gi_H} (e : b_X12_stands_97 n v0 v1 v3 v5 h = some (res, h1)) : gx_Z mX12_stands al al 0 0 97 [(0, .ref v0), (1, .int (gI v1)), (3, .int (gI v3)), (5, .int (gI v5))] [] (gi_cv h) (.inl (some (.int (gI res)))) (gi_cv h1) := by
  refine gx_aload_n dX12_stands_97 rfl 0 rfl ?_
  refine gx_iload_n dX12_stands_98 rfl 2 rfl ?_
  refine gx_iload dX12_stands_99 3 rfl ?_
  refine gx_iload dX12_stands_101 3 rfl ?_
  refine gx_bE e (fun _ hu21 e => ?_)
  refine gx_bE e (fun q22 hq22 e => ?_)
  refine gx_callV (n := 3) (st := []) (As := [.int (gI v3), .int (gI v5), .int (gI v5)]) (b := v0) dX12_stands_103 (z_X12_adds hq22) rfl ⟨rfl, gw_cw_X12_adds, gw_14, gp_X12_adds, ⟨Nat.le_of_ble_eq_true rfl, Nat.le_of_ble_eq_true rfl⟩⟩ (gi_isS hu21) (by decide) gw_1516 gw_1518 gs_64 rfl ⟨Nat.le_of_ble_eq_true rfl, Nat.le_of_ble_eq_true rfl⟩ (Nat.le_of_ble_eq_true rfl) (gy_k1 (x := .int (gI q22.1)) (kc2 := 0) (ks2 := 0) ⟨rfl, rfl⟩ ?_) gy_kn
  refine gx_goto (tgt := 122) dX12_stands_106 (by decide) ?_
  exact zb_X12_stands_122  e
set_option maxRecDepth 100000 in
def b_X12_stands_62 (n : Nat)  (v0 : Nat) (v1 : Int) (v3 : Int) (v4 : Int) (v5 : Int) (s0 : Nat) (s1 : Int) (s2 : Int) (h : gi_H) : Option (Int × gi_H) :=
  Option.bind (gi_s1 h s0 s1 s2) fun h14 => Option.bind (gi_gR h14 v0 10 14) fun t15 => Option.bind (gi_s1 h14 t15 (v5 + (2 : Int)) v4) fun h16 => Option.bind (gi_gR h16 v0 10 14) fun t17 => Option.bind (gi_s1 h16 t17 (v5 + (3 : Int)) v4) fun h18 => Option.bind (gi_rg v1) fun _ => if v1 = (63 : Int) then (b_X12_stands_97 n  v0 v1 v3 v5 h18) else (if v1 = (42 : Int) then (b_X12_stands_97 n  v0 v1 v3 v5 h18) else (Option.bind (gi_is h18 v0 10) fun _ => Option.bind (f_X12_adds n v0 v3 (v5 + (3 : Int)) (v5 + (4 : Int)) h18) fun q42 => b_X12_stands_122 n  v0 v1 v3 v5 q42.1 q42.2))
set_option maxRecDepth 100000 in
theorem zb_X12_stands_62 {al : Bool} {n : Nat}  {res : Int} {h1 : gi_H}  {v0 : Nat} {v1 : Int} {v3 : Int} {v4 : Int} {v5 : Int} {s0 : Nat} {s1 : Int} {s2 : Int} {h : gi_H} (e : b_X12_stands_62 n v0 v1 v3 v4 v5 s0 s1 s2 h = some (res, h1)) : gx_Z mX12_stands al al 0 0 62 [(0, .ref v0), (1, .int (gI v1)), (3, .int (gI v3)), (4, .int (gI v4)), (5, .int (gI v5))] [.int (gI s2), .int (gI s1), .ref s0] (gi_cv h) (.inl (some (.int (gI res)))) (gi_cv h1) := by
  refine gx_bE e (fun h14 hh14 e => ?_)
  refine gy_t1 hh14 dX12_stands_62 ?_
  refine gx_aload_n dX12_stands_63 rfl 0 rfl ?_
  refine gx_bE e (fun t15 ht15 e => ?_)
  refine gy_fR ht15 dX12_stands_64 gf_RX12_46_10_14 (by decide) gkN_10_14 gkR_10_14 ?_
  refine gx_iload dX12_stands_67 4 rfl ?_
  refine gy_iconst dX12_stands_69 ?_
  refine gy_iadd dX12_stands_70 ?_
  refine gx_iload dX12_stands_71 3 rfl ?_
  refine gx_bE e (fun h16 hh16 e => ?_)
  refine gy_t1 hh16 dX12_stands_73 ?_
  refine gx_aload_n dX12_stands_74 rfl 0 rfl ?_
  refine gx_bE e (fun t17 ht17 e => ?_)
  refine gy_fR ht17 dX12_stands_75 gf_RX12_46_10_14 (by decide) gkN_10_14 gkR_10_14 ?_
  refine gx_iload dX12_stands_78 4 rfl ?_
  refine gy_iconst dX12_stands_80 ?_
  refine gy_iadd dX12_stands_81 ?_
  refine gx_iload dX12_stands_82 3 rfl ?_
  refine gx_bE e (fun h18 hh18 e => ?_)
  refine gy_t1 hh18 dX12_stands_84 ?_
  refine gx_iload_n dX12_stands_85 rfl 1 rfl ?_
  refine gy_bipush dX12_stands_86 gcb_63 ?_
  refine gx_bE e (fun _ g19 e => ?_)
  refine gx_iE e (fun c20 e => ?_) (fun c20 e => ?_)
  · refine gy_icmp_eq (tgt := 97) (gi_rgS g19) (by decide) dX12_stands_88 (by decide) (fun _ => ?_) (fun z => absurd c20 z)
    refine gx_sub (ls2 := [(0, .ref v0), (1, .int (gI v1)), (3, .int (gI v3)), (5, .int (gI v5))]) [0, 1, 2, 4] rfl ?_
    exact zb_X12_stands_97  e
  · refine gy_icmp_eq (tgt := 97) (gi_rgS g19) (by decide) dX12_stands_88 (by decide) (fun z => absurd z c20) (fun _ => ?_)
    refine gx_iload_n dX12_stands_91 rfl 1 rfl ?_
    refine gy_bipush dX12_stands_92 gcb_42 ?_
    refine gx_iE e (fun c40 e => ?_) (fun c40 e => ?_)
    · refine gy_icmp_ne (tgt := 109) (gi_rgS g19) (by decide) dX12_stands_94 (by decide) (fun z => absurd c40 z) (fun _ => ?_)
      refine gx_sub (ls2 := [(0, .ref v0), (1, .int (gI v1)), (3, .int (gI v3)), (5, .int (gI v5))]) [0, 1, 2, 4] rfl ?_
      exact zb_X12_stands_97  e
    · refine gy_icmp_ne (tgt := 109) (gi_rgS g19) (by decide) dX12_stands_94 (by decide) (fun _ => ?_) (fun z => absurd z c40)
      refine gx_aload_n dX12_stands_109 rfl 0 rfl ?_
      refine gx_iload_n dX12_stands_110 rfl 2 rfl ?_
      refine gx_iload dX12_stands_111 4 rfl ?_
      refine gy_iconst dX12_stands_113 ?_
      refine gy_iadd dX12_stands_114 ?_
      refine gx_iload dX12_stands_115 4 rfl ?_
      refine gy_iconst dX12_stands_117 ?_
      refine gy_iadd dX12_stands_118 ?_
      refine gx_bE e (fun _ hu41 e => ?_)
      refine gx_bE e (fun q42 hq42 e => ?_)
      refine gx_callV (n := 3) (st := []) (As := [.int (gI v3), .int (gI (v5 + (3 : Int))), .int (gI (v5 + (4 : Int)))]) (b := v0) dX12_stands_119 (z_X12_adds hq42) rfl ⟨rfl, gw_cw_X12_adds, gw_14, gp_X12_adds, ⟨Nat.le_of_ble_eq_true rfl, Nat.le_of_ble_eq_true rfl⟩⟩ (gi_isS hu41) (by decide) gw_1516 gw_1518 gs_64 rfl ⟨Nat.le_of_ble_eq_true rfl, Nat.le_of_ble_eq_true rfl⟩ (Nat.le_of_ble_eq_true rfl) (gy_k1 (x := .int (gI q42.1)) (kc2 := 0) (ks2 := 0) ⟨rfl, rfl⟩ ?_) gy_kn
      refine gx_sub (ls2 := [(0, .ref v0), (1, .int (gI v1)), (3, .int (gI v3)), (5, .int (gI v5))]) [0, 1, 2, 4] rfl ?_
      exact zb_X12_stands_122  e
set_option maxRecDepth 100000 in
def f_X12_stands (n : Nat) (v0 : Nat) (v1 : Int) (v2 : Int) (h : gi_H) : Option (Int × gi_H) :=
  Option.bind (gi_is h v0 10) fun _ => Option.bind (f_X12_helper n v0 h) fun q2 => Option.bind (gi_rg q2) fun _ => if q2 = (-1 : Int) then (some ((0 : Int), h)) else (Option.bind (gi_gR h v0 10 14) fun t5 => Option.bind (gi_gI h v0 10 15) fun t6 => Option.bind (gi_aI h 1 t5 (t6 - (1 : Int))) fun t7 => Option.bind (gi_gI h v0 10 15) fun t8 => Option.bind (gi_gR h v0 10 14) fun t9 => Option.bind (gi_s1 h t9 t8 ((16 : Int) + q2)) fun h10 => Option.bind (gi_gR h10 v0 10 14) fun t11 => Option.bind (gi_rg v1) fun _ => if v1 = (37 : Int) then (b_X12_stands_62 n  v0 v1 q2 t7 t8 t11 (t8 + (1 : Int)) v2 h10) else (b_X12_stands_62 n  v0 v1 q2 t7 t8 t11 (t8 + (1 : Int)) t7 h10))
set_option maxRecDepth 100000 in
theorem z_X12_stands {al : Bool} {n : Nat} {v0 : Nat} {v1 : Int} {v2 : Int} {h : gi_H} {res : Int} {h1 : gi_H} (e : f_X12_stands n v0 v1 v2 h = some (res, h1)) : gx_Cw mX12_stands al [.ref v0, .int (gI v1), .int (gI v2)] (gi_cv h) (.inl (some (.int (gI res)))) (gi_cv h1) := by
  refine gx_enter (by decide +kernel) rfl (Nat.le_of_ble_eq_true rfl) ?_
  show gx_Z mX12_stands al al 0 0 0 [(0, .ref v0), (1, .int (gI v1)), (2, .int (gI v2))] [] (gi_cv h) (.inl (some (.int (gI res)))) (gi_cv h1)
  refine gx_aload_n dX12_stands_0 rfl 0 rfl ?_
  refine gx_bE e (fun _ hu1 e => ?_)
  refine gx_bE e (fun q2 hq2 e => ?_)
  refine gx_callV (n := 0) (st := []) (As := []) (b := v0) dX12_stands_1 (z_X12_helper hq2) rfl ⟨rfl, gw_cw_X12_helper, gw_14, gp_X12_helper, ⟨Nat.le_of_ble_eq_true rfl, Nat.le_of_ble_eq_true rfl⟩⟩ (gi_isS hu1) (by decide) gw_1512 gw_1514 gs_63 rfl ⟨Nat.le_of_ble_eq_true rfl, Nat.le_of_ble_eq_true rfl⟩ (Nat.le_of_ble_eq_true rfl) (gy_k1 (x := .int (gI q2)) (kc2 := 0) (ks2 := 0) ⟨rfl, rfl⟩ ?_) gy_kn
  refine gx_istore_n (ls2 := [(3, .int (gI q2)), (0, .ref v0), (1, .int (gI v1)), (2, .int (gI v2))]) dX12_stands_4 rfl (Nat.le_of_ble_eq_true rfl) rfl ?_
  refine gx_iload_n dX12_stands_5 rfl 0 rfl ?_
  refine gy_iconst dX12_stands_6 ?_
  refine gx_bE e (fun _ g3 e => ?_)
  refine gx_iE e (fun c4 e => ?_) (fun c4 e => ?_)
  · refine gy_icmp_ne (tgt := 12) (gi_rgS g3) (by decide) dX12_stands_7 (by decide) (fun z => absurd c4 z) (fun _ => ?_)
    refine gy_iconst dX12_stands_10 ?_
    cases e
    exact gx_zret (by decide +kernel) dX12_stands_11 rfl ⟨Nat.le_of_ble_eq_true rfl, Nat.le_of_ble_eq_true rfl⟩ (fun z => z)
  · refine gy_icmp_ne (tgt := 12) (gi_rgS g3) (by decide) dX12_stands_7 (by decide) (fun _ => ?_) (fun z => absurd z c4)
    refine gx_aload_n dX12_stands_12 rfl 1 rfl ?_
    refine gx_bE e (fun t5 ht5 e => ?_)
    refine gy_fR ht5 dX12_stands_13 gf_RX12_46_10_14 (by decide) gkN_10_14 gkR_10_14 ?_
    refine gx_aload_n dX12_stands_16 rfl 1 rfl ?_
    refine gx_bE e (fun t6 ht6 e => ?_)
    refine gy_fI ht6 dX12_stands_17 gf_RX12_142_10_15 (by decide) gkN_10_15 gkR_10_15 ?_
    refine gy_iconst dX12_stands_20 ?_
    refine gy_isub dX12_stands_21 ?_
    refine gx_bE e (fun t7 ht7 e => ?_)
    refine gy_l1 ht7 dX12_stands_22 ?_
    refine gx_istore (ls2 := [(4, .int (gI t7)), (3, .int (gI q2)), (0, .ref v0), (1, .int (gI v1)), (2, .int (gI v2))]) dX12_stands_23 (Nat.le_of_ble_eq_true rfl) rfl ?_
    refine gx_aload_n dX12_stands_25 rfl 2 rfl ?_
    refine gx_bE e (fun t8 ht8 e => ?_)
    refine gy_fI ht8 dX12_stands_26 gf_RX12_142_10_15 (by decide) gkN_10_15 gkR_10_15 ?_
    refine gx_istore (ls2 := [(5, .int (gI t8)), (4, .int (gI t7)), (3, .int (gI q2)), (0, .ref v0), (1, .int (gI v1)), (2, .int (gI v2))]) dX12_stands_29 (Nat.le_of_ble_eq_true rfl) rfl ?_
    refine gx_aload_n dX12_stands_31 rfl 3 rfl ?_
    refine gx_bE e (fun t9 ht9 e => ?_)
    refine gy_fR ht9 dX12_stands_32 gf_RX12_46_10_14 (by decide) gkN_10_14 gkR_10_14 ?_
    refine gx_iload dX12_stands_35 0 rfl ?_
    refine gy_bipush dX12_stands_37 gcb_16 ?_
    refine gx_iload_n dX12_stands_39 rfl 2 rfl ?_
    refine gy_iadd dX12_stands_40 ?_
    refine gx_bE e (fun h10 hh10 e => ?_)
    refine gy_t1 hh10 dX12_stands_41 ?_
    refine gx_aload_n dX12_stands_42 rfl 3 rfl ?_
    refine gx_bE e (fun t11 ht11 e => ?_)
    refine gy_fR ht11 dX12_stands_43 gf_RX12_46_10_14 (by decide) gkN_10_14 gkR_10_14 ?_
    refine gx_iload dX12_stands_46 0 rfl ?_
    refine gy_iconst dX12_stands_48 ?_
    refine gy_iadd dX12_stands_49 ?_
    refine gx_iload_n dX12_stands_50 rfl 4 rfl ?_
    refine gy_bipush dX12_stands_51 gcb_37 ?_
    refine gx_bE e (fun _ g12 e => ?_)
    refine gx_iE e (fun c13 e => ?_) (fun c13 e => ?_)
    · refine gy_icmp_ne (tgt := 60) (gi_rgS g12) (by decide) dX12_stands_53 (by decide) (fun z => absurd c13 z) (fun _ => ?_)
      refine gx_iload_n dX12_stands_56 rfl 5 rfl ?_
      refine gx_goto (tgt := 62) dX12_stands_57 (by decide) ?_
      refine gx_sub (ls2 := [(0, .ref v0), (1, .int (gI v1)), (3, .int (gI q2)), (4, .int (gI t7)), (5, .int (gI t8))]) [3, 4, 2, 1, 0] rfl ?_
      exact zb_X12_stands_62  e
    · refine gy_icmp_ne (tgt := 60) (gi_rgS g12) (by decide) dX12_stands_53 (by decide) (fun _ => ?_) (fun z => absurd z c13)
      refine gx_iload dX12_stands_60 1 rfl ?_
      refine gx_sub (ls2 := [(0, .ref v0), (1, .int (gI v1)), (3, .int (gI q2)), (4, .int (gI t7)), (5, .int (gI t8))]) [3, 4, 2, 1, 0] rfl ?_
      exact zb_X12_stands_62  e
/-! X12_addsAll  -/
set_option maxRecDepth 100000 in
def b_X12_addsAll_58 (n : Nat) (r8 : Nat → Int → Int → Int → Int → gi_H → Option (Int × gi_H)) (v0 : Nat) (v1 : Int) (v3 : Int) (v4 : Int) (v5 : Int)  (h : gi_H) : Option (Int × gi_H) :=
  gx_nm (v5 + (1 : Int)) fun t15 => r8 v0 v1 v3 v4 t15 h
set_option maxRecDepth 100000 in
theorem zb_X12_addsAll_58 {al : Bool} {n : Nat} {r8 : Nat → Int → Int → Int → Int → gi_H → Option (Int × gi_H)} {res : Int} {h1 : gi_H} (hr8 : ∀ (x0 : Nat) (x1 : Int) (x3 : Int) (x4 : Int) (x5 : Int) (hh : gi_H), r8 x0 x1 x3 x4 x5 hh = some (res, h1) → gx_Z mX12_addsAll al al 0 0 8 [(0, .ref x0), (1, .int (gI x1)), (3, .int (gI x3)), (4, .int (gI x4)), (5, .int (gI x5))] [] (gi_cv hh) (.inl (some (.int (gI res)))) (gi_cv h1)) {v0 : Nat} {v1 : Int} {v3 : Int} {v4 : Int} {v5 : Int}  {h : gi_H} (e : b_X12_addsAll_58 n r8 v0 v1 v3 v4 v5 h = some (res, h1)) : gx_Z mX12_addsAll al al 0 0 58 [(0, .ref v0), (1, .int (gI v1)), (3, .int (gI v3)), (4, .int (gI v4)), (5, .int (gI v5))] [] (gi_cv h) (.inl (some (.int (gI res)))) (gi_cv h1) := by
  refine gx_nE e (fun t15 ht15 e => ?_)
  refine gy_iinc (v := t15) (ls2 := [(5, .int (gI t15)), (0, .ref v0), (1, .int (gI v1)), (3, .int (gI v3)), (4, .int (gI v4))]) dX12_addsAll_58 4 rfl ht15 (Nat.le_of_ble_eq_true rfl) rfl ?_
  refine gx_goto (tgt := 8) dX12_addsAll_61 (by decide) ?_
  refine gx_sub (ls2 := [(0, .ref v0), (1, .int (gI v1)), (3, .int (gI v3)), (4, .int (gI v4)), (5, .int (gI t15))]) [1, 2, 3, 4, 0] rfl ?_
  exact hr8 _ _ _ _ _ _ e
set_option maxRecDepth 100000 in
def b_X12_addsAll_43 (n : Nat) (r8 : Nat → Int → Int → Int → Int → gi_H → Option (Int × gi_H)) (v0 : Nat) (v1 : Int) (v3 : Int) (v5 : Int)  (h : gi_H) : Option (Int × gi_H) :=
  Option.bind (gi_is h v0 10) fun _ => Option.bind (f_X12_adds n v0 v1 v3 v5 h) fun q13 => gx_nm (v5 + (1 : Int)) fun t14 => b_X12_addsAll_58 n r8 v0 v1 t14 q13.1 v5 q13.2
set_option maxRecDepth 100000 in
theorem zb_X12_addsAll_43 {al : Bool} {n : Nat} {r8 : Nat → Int → Int → Int → Int → gi_H → Option (Int × gi_H)} {res : Int} {h1 : gi_H} (hr8 : ∀ (x0 : Nat) (x1 : Int) (x3 : Int) (x4 : Int) (x5 : Int) (hh : gi_H), r8 x0 x1 x3 x4 x5 hh = some (res, h1) → gx_Z mX12_addsAll al al 0 0 8 [(0, .ref x0), (1, .int (gI x1)), (3, .int (gI x3)), (4, .int (gI x4)), (5, .int (gI x5))] [] (gi_cv hh) (.inl (some (.int (gI res)))) (gi_cv h1)) {v0 : Nat} {v1 : Int} {v3 : Int} {v5 : Int}  {h : gi_H} (e : b_X12_addsAll_43 n r8 v0 v1 v3 v5 h = some (res, h1)) : gx_Z mX12_addsAll al al 0 0 43 [(0, .ref v0), (1, .int (gI v1)), (3, .int (gI v3)), (5, .int (gI v5))] [] (gi_cv h) (.inl (some (.int (gI res)))) (gi_cv h1) := by
  refine gx_aload_n dX12_addsAll_43 rfl 0 rfl ?_
  refine gx_iload_n dX12_addsAll_44 rfl 1 rfl ?_
  refine gx_iload_n dX12_addsAll_45 rfl 2 rfl ?_
  refine gx_iload dX12_addsAll_46 3 rfl ?_
  refine gx_bE e (fun _ hu12 e => ?_)
  refine gx_bE e (fun q13 hq13 e => ?_)
  refine gx_callV (n := 3) (st := []) (As := [.int (gI v1), .int (gI v3), .int (gI v5)]) (b := v0) dX12_addsAll_48 (z_X12_adds hq13) rfl ⟨rfl, gw_cw_X12_adds, gw_14, gp_X12_adds, ⟨Nat.le_of_ble_eq_true rfl, Nat.le_of_ble_eq_true rfl⟩⟩ (gi_isS hu12) (by decide) gw_1516 gw_1518 gs_64 rfl ⟨Nat.le_of_ble_eq_true rfl, Nat.le_of_ble_eq_true rfl⟩ (Nat.le_of_ble_eq_true rfl) (gy_k1 (x := .int (gI q13.1)) (kc2 := 0) (ks2 := 0) ⟨rfl, rfl⟩ ?_) gy_kn
  refine gx_istore (ls2 := [(4, .int (gI q13.1)), (0, .ref v0), (1, .int (gI v1)), (3, .int (gI v3)), (5, .int (gI v5))]) dX12_addsAll_51 (Nat.le_of_ble_eq_true rfl) rfl ?_
  refine gx_iload dX12_addsAll_53 4 rfl ?_
  refine gy_iconst dX12_addsAll_55 ?_
  refine gy_iadd dX12_addsAll_56 ?_
  refine gx_nE e (fun t14 ht14 e => ?_)
  rw [ht14]
  refine gx_istore_n (ls2 := [(3, .int (gI t14)), (4, .int (gI q13.1)), (0, .ref v0), (1, .int (gI v1)), (5, .int (gI v5))]) dX12_addsAll_57 rfl (Nat.le_of_ble_eq_true rfl) rfl ?_
  refine gx_sub (ls2 := [(0, .ref v0), (1, .int (gI v1)), (3, .int (gI t14)), (4, .int (gI q13.1)), (5, .int (gI v5))]) [2, 3, 0, 1, 4] rfl ?_
  exact zb_X12_addsAll_58 hr8 e
set_option maxRecDepth 100000 in
def b_X12_addsAll_8 (n : Nat) (r8 : Nat → Int → Int → Int → Int → gi_H → Option (Int × gi_H)) (v0 : Nat) (v1 : Int) (v3 : Int) (v4 : Int) (v5 : Int)  (h : gi_H) : Option (Int × gi_H) :=
  Option.bind (gi_gI h v0 10 15) fun t1 => Option.bind (gi_rg v5) fun _ => Option.bind (gi_rg t1) fun _ => if t1 < v5 then (Option.bind (gi_zo v4) fun _ => some (v4, h)) else (Option.bind (gi_rg v4) fun _ => if v4 = 0 then (Option.bind (gi_zo v4) fun _ => some (v4, h)) else (Option.bind (gi_gI h v0 10 15) fun t9 => Option.bind (gi_rg t9) fun _ => if v5 = t9 then (b_X12_addsAll_43 n r8 v0 v1 v3 v5 h) else (Option.bind (gi_gR h v0 10 14) fun t16 => Option.bind (gi_aI h 1 t16 v5) fun t17 => Option.bind (gi_rg t17) fun _ => if t17 = (-2 : Int) then (b_X12_addsAll_43 n r8 v0 v1 v3 v5 h) else (b_X12_addsAll_58 n r8 v0 v1 v3 v4 v5 h))))
set_option maxRecDepth 100000 in
theorem zb_X12_addsAll_8 {al : Bool} {n : Nat} {r8 : Nat → Int → Int → Int → Int → gi_H → Option (Int × gi_H)} {res : Int} {h1 : gi_H} (hr8 : ∀ (x0 : Nat) (x1 : Int) (x3 : Int) (x4 : Int) (x5 : Int) (hh : gi_H), r8 x0 x1 x3 x4 x5 hh = some (res, h1) → gx_Z mX12_addsAll al al 0 0 8 [(0, .ref x0), (1, .int (gI x1)), (3, .int (gI x3)), (4, .int (gI x4)), (5, .int (gI x5))] [] (gi_cv hh) (.inl (some (.int (gI res)))) (gi_cv h1)) {v0 : Nat} {v1 : Int} {v3 : Int} {v4 : Int} {v5 : Int}  {h : gi_H} (e : b_X12_addsAll_8 n r8 v0 v1 v3 v4 v5 h = some (res, h1)) : gx_Z mX12_addsAll al al 0 0 8 [(0, .ref v0), (1, .int (gI v1)), (3, .int (gI v3)), (4, .int (gI v4)), (5, .int (gI v5))] [] (gi_cv h) (.inl (some (.int (gI res)))) (gi_cv h1) := by
  refine gx_iload dX12_addsAll_8 4 rfl ?_
  refine gx_aload_n dX12_addsAll_10 rfl 0 rfl ?_
  refine gx_bE e (fun t1 ht1 e => ?_)
  refine gy_fI ht1 dX12_addsAll_11 gf_RX12_142_10_15 (by decide) gkN_10_15 gkR_10_15 ?_
  refine gx_bE e (fun _ g2 e => ?_)
  refine gx_bE e (fun _ g3 e => ?_)
  refine gx_iE e (fun c4 e => ?_) (fun c4 e => ?_)
  · refine gy_icmp_gt (tgt := 64) (gi_rgS g2) (gi_rgS g3) dX12_addsAll_14 (by decide) (fun _ => ?_) (fun z => absurd c4 z)
    refine gx_iload dX12_addsAll_64 3 rfl ?_
    refine gx_bE e (fun _ hu5 e => ?_)
    cases e
    exact gx_zret (gi_zoS hu5) dX12_addsAll_66 rfl ⟨Nat.le_of_ble_eq_true rfl, Nat.le_of_ble_eq_true rfl⟩ (fun z => z)
  · refine gy_icmp_gt (tgt := 64) (gi_rgS g2) (gi_rgS g3) dX12_addsAll_14 (by decide) (fun z => absurd z c4) (fun _ => ?_)
    refine gx_iload dX12_addsAll_17 3 rfl ?_
    refine gx_bE e (fun _ g6 e => ?_)
    refine gx_iE e (fun c7 e => ?_) (fun c7 e => ?_)
    · refine gy_if_eq (tgt := 64) (gi_rgS g6) dX12_addsAll_19 (by decide) (fun _ => ?_) (fun z => absurd c7 z)
      refine gx_iload dX12_addsAll_64 3 rfl ?_
      refine gx_bE e (fun _ hu8 e => ?_)
      cases e
      exact gx_zret (gi_zoS hu8) dX12_addsAll_66 rfl ⟨Nat.le_of_ble_eq_true rfl, Nat.le_of_ble_eq_true rfl⟩ (fun z => z)
    · refine gy_if_eq (tgt := 64) (gi_rgS g6) dX12_addsAll_19 (by decide) (fun z => absurd z c7) (fun _ => ?_)
      refine gx_iload dX12_addsAll_22 4 rfl ?_
      refine gx_aload_n dX12_addsAll_24 rfl 0 rfl ?_
      refine gx_bE e (fun t9 ht9 e => ?_)
      refine gy_fI ht9 dX12_addsAll_25 gf_RX12_142_10_15 (by decide) gkN_10_15 gkR_10_15 ?_
      refine gx_bE e (fun _ g10 e => ?_)
      refine gx_iE e (fun c11 e => ?_) (fun c11 e => ?_)
      · refine gy_icmp_eq (tgt := 43) (gi_rgS g2) (gi_rgS g10) dX12_addsAll_28 (by decide) (fun _ => ?_) (fun z => absurd c11 z)
        refine gx_sub (ls2 := [(0, .ref v0), (1, .int (gI v1)), (3, .int (gI v3)), (5, .int (gI v5))]) [0, 1, 2, 4] rfl ?_
        exact zb_X12_addsAll_43 hr8 e
      · refine gy_icmp_eq (tgt := 43) (gi_rgS g2) (gi_rgS g10) dX12_addsAll_28 (by decide) (fun z => absurd z c11) (fun _ => ?_)
        refine gx_aload_n dX12_addsAll_31 rfl 0 rfl ?_
        refine gx_bE e (fun t16 ht16 e => ?_)
        refine gy_fR ht16 dX12_addsAll_32 gf_RX12_46_10_14 (by decide) gkN_10_14 gkR_10_14 ?_
        refine gx_iload dX12_addsAll_35 4 rfl ?_
        refine gx_bE e (fun t17 ht17 e => ?_)
        refine gy_l1 ht17 dX12_addsAll_37 ?_
        refine gy_bipush dX12_addsAll_38 gcb_m2 ?_
        refine gx_bE e (fun _ g18 e => ?_)
        refine gx_iE e (fun c19 e => ?_) (fun c19 e => ?_)
        · refine gy_icmp_ne (tgt := 58) (gi_rgS g18) (by decide) dX12_addsAll_40 (by decide) (fun z => absurd c19 z) (fun _ => ?_)
          refine gx_sub (ls2 := [(0, .ref v0), (1, .int (gI v1)), (3, .int (gI v3)), (5, .int (gI v5))]) [0, 1, 2, 4] rfl ?_
          exact zb_X12_addsAll_43 hr8 e
        · refine gy_icmp_ne (tgt := 58) (gi_rgS g18) (by decide) dX12_addsAll_40 (by decide) (fun _ => ?_) (fun z => absurd z c19)
          exact zb_X12_addsAll_58 hr8 e
def l_X12_addsAll_8 (n : Nat)  : Nat → Nat → Int → Int → Int → Int → gi_H → Option (Int × gi_H)
  | 0, _, _, _, _, _, _ => none
  | k + 1, v0, v1, v3, v4, v5, h => b_X12_addsAll_8 n  (l_X12_addsAll_8 n  k) v0 v1 v3 v4 v5 h
theorem zl_X12_addsAll_8 {al : Bool} {n : Nat}  {res : Int} {h1 : gi_H}  : ∀ (k : Nat) (v0 : Nat) (v1 : Int) (v3 : Int) (v4 : Int) (v5 : Int) (h : gi_H), l_X12_addsAll_8 n  k v0 v1 v3 v4 v5 h = some (res, h1) → gx_Z mX12_addsAll al al 0 0 8 [(0, .ref v0), (1, .int (gI v1)), (3, .int (gI v3)), (4, .int (gI v4)), (5, .int (gI v5))] [] (gi_cv h) (.inl (some (.int (gI res)))) (gi_cv h1)
  | 0, _, _, _, _, _, _, e => gx_0E e
  | k + 1, _, _, _, _, _, _, e => zb_X12_addsAll_8 (n := n)  (zl_X12_addsAll_8  k) e
set_option maxRecDepth 100000 in
def f_X12_addsAll (n : Nat) (v0 : Nat) (v1 : Int) (v2 : Int) (h : gi_H) : Option (Int × gi_H) :=
  l_X12_addsAll_8 n  n v0 v1 v2 (1 : Int) v2 h
set_option maxRecDepth 100000 in
theorem z_X12_addsAll {al : Bool} {n : Nat} {v0 : Nat} {v1 : Int} {v2 : Int} {h : gi_H} {res : Int} {h1 : gi_H} (e : f_X12_addsAll n v0 v1 v2 h = some (res, h1)) : gx_Cw mX12_addsAll al [.ref v0, .int (gI v1), .int (gI v2)] (gi_cv h) (.inl (some (.int (gI res)))) (gi_cv h1) := by
  refine gx_enter (by decide +kernel) rfl (Nat.le_of_ble_eq_true rfl) ?_
  show gx_Z mX12_addsAll al al 0 0 0 [(0, .ref v0), (1, .int (gI v1)), (2, .int (gI v2))] [] (gi_cv h) (.inl (some (.int (gI res)))) (gi_cv h1)
  refine gx_iload_n dX12_addsAll_0 rfl 2 rfl ?_
  refine gx_istore_n (ls2 := [(3, .int (gI v2)), (0, .ref v0), (1, .int (gI v1)), (2, .int (gI v2))]) dX12_addsAll_1 rfl (Nat.le_of_ble_eq_true rfl) rfl ?_
  refine gy_iconst dX12_addsAll_2 ?_
  refine gx_istore (ls2 := [(4, .int (gI (1 : Int))), (3, .int (gI v2)), (0, .ref v0), (1, .int (gI v1)), (2, .int (gI v2))]) dX12_addsAll_3 (Nat.le_of_ble_eq_true rfl) rfl ?_
  refine gx_iload_n dX12_addsAll_5 rfl 4 rfl ?_
  refine gx_istore (ls2 := [(5, .int (gI v2)), (4, .int (gI (1 : Int))), (3, .int (gI v2)), (0, .ref v0), (1, .int (gI v1)), (2, .int (gI v2))]) dX12_addsAll_6 (Nat.le_of_ble_eq_true rfl) rfl ?_
  refine gx_sub (ls2 := [(0, .ref v0), (1, .int (gI v1)), (3, .int (gI v2)), (4, .int (gI (1 : Int))), (5, .int (gI v2))]) [3, 4, 2, 1, 0] rfl ?_
  exact zl_X12_addsAll_8  n _ _ _ _ _ _ e
/-! X12_closes  -/
set_option maxRecDepth 100000 in
def b_X12_closes_23 (n : Nat)  (v0 : Nat) (v1 : Int)  (h : gi_H) : Option (Int × gi_H) :=
  Option.bind (gi_is h v0 10) fun _ => Option.bind (f_X12_helper n v0 h) fun q7 => Option.bind (gi_rg q7) fun _ => if q7 = (-1 : Int) then (some ((0 : Int), h)) else (Option.bind (gi_is h v0 10) fun _ => Option.bind (f_X12_addsAll n v0 q7 v1 h) fun q11 => Option.bind (gi_rg q11.1) fun _ => if q11.1 = 0 then (some ((0 : Int), q11.2)) else (Option.bind (gi_pI q11.2 v0 10 15 v1) fun h14 => Option.bind (gi_gR h14 v0 10 14) fun t15 => Option.bind (gi_gI h14 v0 10 15) fun t16 => Option.bind (gi_s1 h14 t15 (t16 - (1 : Int)) ((16 : Int) + q7)) fun h17 => some ((1 : Int), h17)))
set_option maxRecDepth 100000 in
theorem zb_X12_closes_23 {al : Bool} {n : Nat}  {res : Int} {h1 : gi_H}  {v0 : Nat} {v1 : Int}  {h : gi_H} (e : b_X12_closes_23 n v0 v1 h = some (res, h1)) : gx_Z mX12_closes al al 0 0 23 [(0, .ref v0), (1, .int (gI v1))] [] (gi_cv h) (.inl (some (.int (gI res)))) (gi_cv h1) := by
  refine gx_aload_n dX12_closes_23 rfl 0 rfl ?_
  refine gx_bE e (fun _ hu6 e => ?_)
  refine gx_bE e (fun q7 hq7 e => ?_)
  refine gx_callV (n := 0) (st := []) (As := []) (b := v0) dX12_closes_24 (z_X12_helper hq7) rfl ⟨rfl, gw_cw_X12_helper, gw_14, gp_X12_helper, ⟨Nat.le_of_ble_eq_true rfl, Nat.le_of_ble_eq_true rfl⟩⟩ (gi_isS hu6) (by decide) gw_1512 gw_1514 gs_63 rfl ⟨Nat.le_of_ble_eq_true rfl, Nat.le_of_ble_eq_true rfl⟩ (Nat.le_of_ble_eq_true rfl) (gy_k1 (x := .int (gI q7)) (kc2 := 0) (ks2 := 0) ⟨rfl, rfl⟩ ?_) gy_kn
  refine gx_istore_n (ls2 := [(2, .int (gI q7)), (0, .ref v0), (1, .int (gI v1))]) dX12_closes_27 rfl (Nat.le_of_ble_eq_true rfl) rfl ?_
  refine gx_iload_n dX12_closes_28 rfl 0 rfl ?_
  refine gy_iconst dX12_closes_29 ?_
  refine gx_bE e (fun _ g8 e => ?_)
  refine gx_iE e (fun c9 e => ?_) (fun c9 e => ?_)
  · refine gy_icmp_eq (tgt := 42) (gi_rgS g8) (by decide) dX12_closes_30 (by decide) (fun _ => ?_) (fun z => absurd c9 z)
    refine gy_iconst dX12_closes_42 ?_
    cases e
    exact gx_zret (by decide +kernel) dX12_closes_43 rfl ⟨Nat.le_of_ble_eq_true rfl, Nat.le_of_ble_eq_true rfl⟩ (fun z => z)
  · refine gy_icmp_eq (tgt := 42) (gi_rgS g8) (by decide) dX12_closes_30 (by decide) (fun z => absurd z c9) (fun _ => ?_)
    refine gx_aload_n dX12_closes_33 rfl 1 rfl ?_
    refine gx_iload_n dX12_closes_34 rfl 0 rfl ?_
    refine gx_iload_n dX12_closes_35 rfl 2 rfl ?_
    refine gx_bE e (fun _ hu10 e => ?_)
    refine gx_bE e (fun q11 hq11 e => ?_)
    refine gx_callV (n := 2) (st := []) (As := [.int (gI q7), .int (gI v1)]) (b := v0) dX12_closes_36 (z_X12_addsAll hq11) rfl ⟨rfl, gw_cw_X12_addsAll, gw_14, gp_X12_addsAll, ⟨Nat.le_of_ble_eq_true rfl, Nat.le_of_ble_eq_true rfl⟩⟩ (gi_isS hu10) (by decide) gw_1524 gw_1526 gs_66 rfl ⟨Nat.le_of_ble_eq_true rfl, Nat.le_of_ble_eq_true rfl⟩ (Nat.le_of_ble_eq_true rfl) (gy_k1 (x := .int (gI q11.1)) (kc2 := 0) (ks2 := 0) ⟨rfl, rfl⟩ ?_) gy_kn
    refine gx_bE e (fun _ g12 e => ?_)
    refine gx_iE e (fun c13 e => ?_) (fun c13 e => ?_)
    · refine gy_if_ne (tgt := 44) (gi_rgS g12) dX12_closes_39 (by decide) (fun z => absurd c13 z) (fun _ => ?_)
      refine gy_iconst dX12_closes_42 ?_
      cases e
      exact gx_zret (by decide +kernel) dX12_closes_43 rfl ⟨Nat.le_of_ble_eq_true rfl, Nat.le_of_ble_eq_true rfl⟩ (fun z => z)
    · refine gy_if_ne (tgt := 44) (gi_rgS g12) dX12_closes_39 (by decide) (fun _ => ?_) (fun z => absurd z c13)
      refine gx_aload_n dX12_closes_44 rfl 1 rfl ?_
      refine gx_iload_n dX12_closes_45 rfl 2 rfl ?_
      refine gx_bE e (fun h14 hh14 e => ?_)
      refine gy_qI hh14 dX12_closes_46 gf_RX12_142_10_15 (by decide) gkN_10_15 rfl (Or.inl rfl) ?_
      refine gx_aload_n dX12_closes_49 rfl 1 rfl ?_
      refine gx_bE e (fun t15 ht15 e => ?_)
      refine gy_fR ht15 dX12_closes_50 gf_RX12_46_10_14 (by decide) gkN_10_14 gkR_10_14 ?_
      refine gx_aload_n dX12_closes_53 rfl 1 rfl ?_
      refine gx_bE e (fun t16 ht16 e => ?_)
      refine gy_fI ht16 dX12_closes_54 gf_RX12_142_10_15 (by decide) gkN_10_15 gkR_10_15 ?_
      refine gy_iconst dX12_closes_57 ?_
      refine gy_isub dX12_closes_58 ?_
      refine gy_bipush dX12_closes_59 gcb_16 ?_
      refine gx_iload_n dX12_closes_61 rfl 0 rfl ?_
      refine gy_iadd dX12_closes_62 ?_
      refine gx_bE e (fun h17 hh17 e => ?_)
      refine gy_t1 hh17 dX12_closes_63 ?_
      refine gy_iconst dX12_closes_64 ?_
      cases e
      exact gx_zret (by decide +kernel) dX12_closes_65 rfl ⟨Nat.le_of_ble_eq_true rfl, Nat.le_of_ble_eq_true rfl⟩ (fun z => z)
set_option maxRecDepth 100000 in
def b_X12_closes_5 (n : Nat) (r5 : Nat → Int → gi_H → Option (Int × gi_H)) (v0 : Nat) (v1 : Int)  (h : gi_H) : Option (Int × gi_H) :=
  Option.bind (gi_gR h v0 10 14) fun t2 => Option.bind (gi_aI h 1 t2 (v1 - (1 : Int))) fun t3 => Option.bind (gi_rg t3) fun _ => if t3 = (-1 : Int) then (b_X12_closes_23 n  v0 v1 h) else (gx_nm (v1 + (-1 : Int)) fun t18 => r5 v0 t18 h)
set_option maxRecDepth 100000 in
theorem zb_X12_closes_5 {al : Bool} {n : Nat} {r5 : Nat → Int → gi_H → Option (Int × gi_H)} {res : Int} {h1 : gi_H} (hr5 : ∀ (x0 : Nat) (x1 : Int) (hh : gi_H), r5 x0 x1 hh = some (res, h1) → gx_Z mX12_closes al al 0 0 5 [(0, .ref x0), (1, .int (gI x1))] [] (gi_cv hh) (.inl (some (.int (gI res)))) (gi_cv h1)) {v0 : Nat} {v1 : Int}  {h : gi_H} (e : b_X12_closes_5 n r5 v0 v1 h = some (res, h1)) : gx_Z mX12_closes al al 0 0 5 [(0, .ref v0), (1, .int (gI v1))] [] (gi_cv h) (.inl (some (.int (gI res)))) (gi_cv h1) := by
  refine gx_aload_n dX12_closes_5 rfl 0 rfl ?_
  refine gx_bE e (fun t2 ht2 e => ?_)
  refine gy_fR ht2 dX12_closes_6 gf_RX12_46_10_14 (by decide) gkN_10_14 gkR_10_14 ?_
  refine gx_iload_n dX12_closes_9 rfl 1 rfl ?_
  refine gy_iconst dX12_closes_10 ?_
  refine gy_isub dX12_closes_11 ?_
  refine gx_bE e (fun t3 ht3 e => ?_)
  refine gy_l1 ht3 dX12_closes_12 ?_
  refine gy_iconst dX12_closes_13 ?_
  refine gx_bE e (fun _ g4 e => ?_)
  refine gx_iE e (fun c5 e => ?_) (fun c5 e => ?_)
  · refine gy_icmp_eq (tgt := 23) (gi_rgS g4) (by decide) dX12_closes_14 (by decide) (fun _ => ?_) (fun z => absurd c5 z)
    exact zb_X12_closes_23  e
  · refine gy_icmp_eq (tgt := 23) (gi_rgS g4) (by decide) dX12_closes_14 (by decide) (fun z => absurd z c5) (fun _ => ?_)
    refine gx_nE e (fun t18 ht18 e => ?_)
    refine gy_iinc (v := t18) (ls2 := [(1, .int (gI t18)), (0, .ref v0)]) dX12_closes_17 1 rfl ht18 (Nat.le_of_ble_eq_true rfl) rfl ?_
    refine gx_goto (tgt := 5) dX12_closes_20 (by decide) ?_
    refine gx_sub (ls2 := [(0, .ref v0), (1, .int (gI t18))]) [1, 0] rfl ?_
    exact hr5 _ _ _ e
def l_X12_closes_5 (n : Nat)  : Nat → Nat → Int → gi_H → Option (Int × gi_H)
  | 0, _, _, _ => none
  | k + 1, v0, v1, h => b_X12_closes_5 n  (l_X12_closes_5 n  k) v0 v1 h
theorem zl_X12_closes_5 {al : Bool} {n : Nat}  {res : Int} {h1 : gi_H}  : ∀ (k : Nat) (v0 : Nat) (v1 : Int) (h : gi_H), l_X12_closes_5 n  k v0 v1 h = some (res, h1) → gx_Z mX12_closes al al 0 0 5 [(0, .ref v0), (1, .int (gI v1))] [] (gi_cv h) (.inl (some (.int (gI res)))) (gi_cv h1)
  | 0, _, _, _, e => gx_0E e
  | k + 1, _, _, _, e => zb_X12_closes_5 (n := n)  (zl_X12_closes_5  k) e
set_option maxRecDepth 100000 in
def f_X12_closes (n : Nat) (v0 : Nat) (h : gi_H) : Option (Int × gi_H) :=
  Option.bind (gi_gI h v0 10 15) fun t1 => l_X12_closes_5 n  n v0 t1 h
set_option maxRecDepth 100000 in
theorem z_X12_closes {al : Bool} {n : Nat} {v0 : Nat} {h : gi_H} {res : Int} {h1 : gi_H} (e : f_X12_closes n v0 h = some (res, h1)) : gx_Cw mX12_closes al [.ref v0] (gi_cv h) (.inl (some (.int (gI res)))) (gi_cv h1) := by
  refine gx_enter (by decide +kernel) rfl (Nat.le_of_ble_eq_true rfl) ?_
  show gx_Z mX12_closes al al 0 0 0 [(0, .ref v0)] [] (gi_cv h) (.inl (some (.int (gI res)))) (gi_cv h1)
  refine gx_aload_n dX12_closes_0 rfl 0 rfl ?_
  refine gx_bE e (fun t1 ht1 e => ?_)
  refine gy_fI ht1 dX12_closes_1 gf_RX12_142_10_15 (by decide) gkN_10_15 gkR_10_15 ?_
  refine gx_istore_n (ls2 := [(1, .int (gI t1)), (0, .ref v0)]) dX12_closes_4 rfl (Nat.le_of_ble_eq_true rfl) rfl ?_
  refine gx_sub (ls2 := [(0, .ref v0), (1, .int (gI t1))]) [1, 0] rfl ?_
  exact zl_X12_closes_5  n _ _ _ e
/-! X12_reads  -/
set_option maxRecDepth 100000 in
def b_X12_reads_180 (n : Nat)    (h : gi_H) : Option (Int × gi_H) :=
  some ((0 : Int), h)
set_option maxRecDepth 100000 in
theorem zb_X12_reads_180 {al : Bool} {n : Nat}  {res : Int} {h1 : gi_H}    {h : gi_H} (e : b_X12_reads_180 n  h = some (res, h1)) : gx_Z mX12_reads al al 0 0 180 [] [] (gi_cv h) (.inl (some (.int (gI res)))) (gi_cv h1) := by
  refine gy_iconst dX12_reads_180 ?_
  cases e
  exact gx_zret (by decide +kernel) dX12_reads_181 rfl ⟨Nat.le_of_ble_eq_true rfl, Nat.le_of_ble_eq_true rfl⟩ (fun z => z)
set_option maxRecDepth 100000 in
def b_X12_reads_155 (n : Nat)  (v0 : Nat) (v1 : Int)  (h : gi_H) : Option (Int × gi_H) :=
  Option.bind (gi_rg v1) fun _ => if v1 = 0 then (b_X12_reads_180 n   h) else (Option.bind (gi_gR h v0 10 12) fun t8 => Option.bind (gi_aI h 1 t8 (0 : Int)) fun t9 => Option.bind (gi_is h v0 10) fun _ => Option.bind (f_X12_addsAll n v0 (t9 - (65 : Int)) (0 : Int) h) fun q11 => Option.bind (gi_rg q11.1) fun _ => if q11.1 = 0 then (b_X12_reads_180 n   q11.2) else (some ((1 : Int), q11.2)))
set_option maxRecDepth 100000 in
theorem zb_X12_reads_155 {al : Bool} {n : Nat}  {res : Int} {h1 : gi_H}  {v0 : Nat} {v1 : Int}  {h : gi_H} (e : b_X12_reads_155 n v0 v1 h = some (res, h1)) : gx_Z mX12_reads al al 0 0 155 [(0, .ref v0), (1, .int (gI v1))] [] (gi_cv h) (.inl (some (.int (gI res)))) (gi_cv h1) := by
  refine gx_iload_n dX12_reads_155 rfl 1 rfl ?_
  refine gx_bE e (fun _ g6 e => ?_)
  refine gx_iE e (fun c7 e => ?_) (fun c7 e => ?_)
  · refine gy_if_eq (tgt := 180) (gi_rgS g6) dX12_reads_156 (by decide) (fun _ => ?_) (fun z => absurd c7 z)
    refine gx_sub (ls2 := []) [] rfl ?_
    exact zb_X12_reads_180  e
  · refine gy_if_eq (tgt := 180) (gi_rgS g6) dX12_reads_156 (by decide) (fun z => absurd z c7) (fun _ => ?_)
    refine gx_aload_n dX12_reads_159 rfl 0 rfl ?_
    refine gx_aload_n dX12_reads_160 rfl 0 rfl ?_
    refine gx_bE e (fun t8 ht8 e => ?_)
    refine gy_fR ht8 dX12_reads_161 gf_RX12_43_10_12 (by decide) gkN_10_12 gkR_10_12 ?_
    refine gy_iconst dX12_reads_164 ?_
    refine gx_bE e (fun t9 ht9 e => ?_)
    refine gy_l1 ht9 dX12_reads_165 ?_
    refine gy_bipush dX12_reads_166 gcb_65 ?_
    refine gy_isub dX12_reads_168 ?_
    refine gy_iconst dX12_reads_169 ?_
    refine gx_bE e (fun _ hu10 e => ?_)
    refine gx_bE e (fun q11 hq11 e => ?_)
    refine gx_callV (n := 2) (st := []) (As := [.int (gI (t9 - (65 : Int))), .int (gI (0 : Int))]) (b := v0) dX12_reads_170 (z_X12_addsAll hq11) rfl ⟨rfl, gw_cw_X12_addsAll, gw_14, gp_X12_addsAll, ⟨Nat.le_of_ble_eq_true rfl, Nat.le_of_ble_eq_true rfl⟩⟩ (gi_isS hu10) (by decide) gw_1524 gw_1526 gs_66 rfl ⟨Nat.le_of_ble_eq_true rfl, Nat.le_of_ble_eq_true rfl⟩ (Nat.le_of_ble_eq_true rfl) (gy_k1 (x := .int (gI q11.1)) (kc2 := 0) (ks2 := 0) ⟨rfl, rfl⟩ ?_) gy_kn
    refine gx_bE e (fun _ g12 e => ?_)
    refine gx_iE e (fun c13 e => ?_) (fun c13 e => ?_)
    · refine gy_if_eq (tgt := 180) (gi_rgS g12) dX12_reads_173 (by decide) (fun _ => ?_) (fun z => absurd c13 z)
      refine gx_sub (ls2 := []) [] rfl ?_
      exact zb_X12_reads_180  e
    · refine gy_if_eq (tgt := 180) (gi_rgS g12) dX12_reads_173 (by decide) (fun z => absurd z c13) (fun _ => ?_)
      refine gy_iconst dX12_reads_176 ?_
      refine gx_goto (tgt := 181) dX12_reads_177 (by decide) ?_
      cases e
      exact gx_zret (by decide +kernel) dX12_reads_181 rfl ⟨Nat.le_of_ble_eq_true rfl, Nat.le_of_ble_eq_true rfl⟩ (fun z => z)
set_option maxRecDepth 100000 in
def b_X12_reads_149 (n : Nat) (r9 : Nat → Int → Int → gi_H → Option (Int × gi_H)) (v0 : Nat) (v1 : Int) (v2 : Int)  (h : gi_H) : Option (Int × gi_H) :=
  gx_nm (v2 + (1 : Int)) fun t28 => r9 v0 v1 t28 h
set_option maxRecDepth 100000 in
theorem zb_X12_reads_149 {al : Bool} {n : Nat} {r9 : Nat → Int → Int → gi_H → Option (Int × gi_H)} {res : Int} {h1 : gi_H} (hr9 : ∀ (x0 : Nat) (x1 : Int) (x2 : Int) (hh : gi_H), r9 x0 x1 x2 hh = some (res, h1) → gx_Z mX12_reads al al 0 0 9 [(0, .ref x0), (1, .int (gI x1)), (2, .int (gI x2))] [] (gi_cv hh) (.inl (some (.int (gI res)))) (gi_cv h1)) {v0 : Nat} {v1 : Int} {v2 : Int}  {h : gi_H} (e : b_X12_reads_149 n r9 v0 v1 v2 h = some (res, h1)) : gx_Z mX12_reads al al 0 0 149 [(0, .ref v0), (1, .int (gI v1)), (2, .int (gI v2))] [] (gi_cv h) (.inl (some (.int (gI res)))) (gi_cv h1) := by
  refine gx_nE e (fun t28 ht28 e => ?_)
  refine gy_iinc (v := t28) (ls2 := [(2, .int (gI t28)), (0, .ref v0), (1, .int (gI v1))]) dX12_reads_149 2 rfl ht28 (Nat.le_of_ble_eq_true rfl) rfl ?_
  refine gx_goto (tgt := 9) dX12_reads_152 (by decide) ?_
  refine gx_sub (ls2 := [(0, .ref v0), (1, .int (gI v1)), (2, .int (gI t28))]) [1, 2, 0] rfl ?_
  exact hr9 _ _ _ _ e
set_option maxRecDepth 100000 in
def b_X12_reads_138 (n : Nat) (r9 : Nat → Int → Int → gi_H → Option (Int × gi_H)) (v0 : Nat) (v1 : Int) (v2 : Int) (s0 : Nat) (s1 : Int) (s2 : Int) (h : gi_H) : Option (Int × gi_H) :=
  Option.bind (gi_s1 h s0 s1 s2) fun h35 => Option.bind (gi_gI h35 v0 10 15) fun t36 => Option.bind (gi_pI h35 v0 10 15 (t36 + (1 : Int))) fun h37 => b_X12_reads_149 n r9 v0 v1 v2 h37
set_option maxRecDepth 100000 in
theorem zb_X12_reads_138 {al : Bool} {n : Nat} {r9 : Nat → Int → Int → gi_H → Option (Int × gi_H)} {res : Int} {h1 : gi_H} (hr9 : ∀ (x0 : Nat) (x1 : Int) (x2 : Int) (hh : gi_H), r9 x0 x1 x2 hh = some (res, h1) → gx_Z mX12_reads al al 0 0 9 [(0, .ref x0), (1, .int (gI x1)), (2, .int (gI x2))] [] (gi_cv hh) (.inl (some (.int (gI res)))) (gi_cv h1)) {v0 : Nat} {v1 : Int} {v2 : Int} {s0 : Nat} {s1 : Int} {s2 : Int} {h : gi_H} (e : b_X12_reads_138 n r9 v0 v1 v2 s0 s1 s2 h = some (res, h1)) : gx_Z mX12_reads al al 0 0 138 [(0, .ref v0), (1, .int (gI v1)), (2, .int (gI v2))] [.int (gI s2), .int (gI s1), .ref s0] (gi_cv h) (.inl (some (.int (gI res)))) (gi_cv h1) := by
  refine gx_bE e (fun h35 hh35 e => ?_)
  refine gy_t1 hh35 dX12_reads_138 ?_
  refine gx_aload_n dX12_reads_139 rfl 0 rfl ?_
  refine gx_dup dX12_reads_140 rfl ?_
  refine gx_bE e (fun t36 ht36 e => ?_)
  refine gy_fI ht36 dX12_reads_141 gf_RX12_142_10_15 (by decide) gkN_10_15 gkR_10_15 ?_
  refine gy_iconst dX12_reads_144 ?_
  refine gy_iadd dX12_reads_145 ?_
  refine gx_bE e (fun h37 hh37 e => ?_)
  refine gy_qI hh37 dX12_reads_146 gf_RX12_142_10_15 (by decide) gkN_10_15 rfl (Or.inl rfl) ?_
  exact zb_X12_reads_149 hr9 e
set_option maxRecDepth 100000 in
def b_X12_reads_9 (n : Nat) (r9 : Nat → Int → Int → gi_H → Option (Int × gi_H)) (v0 : Nat) (v1 : Int) (v2 : Int)  (h : gi_H) : Option (Int × gi_H) :=
  Option.bind (gi_gI h v0 10 13) fun t2 => Option.bind (gi_rg v2) fun _ => Option.bind (gi_rg t2) fun _ => if t2 ≤ v2 then (b_X12_reads_155 n  v0 v1 h) else (Option.bind (gi_rg v1) fun _ => if v1 = 0 then (b_X12_reads_155 n  v0 v1 h) else (Option.bind (gi_gR h v0 10 12) fun t16 => Option.bind (gi_aI h 1 t16 v2) fun t17 => Option.bind (f_X12_isTail t17 h) fun q18 => Option.bind (gi_rg q18) fun _ => if q18 = 0 then (Option.bind (gi_rg t17) fun _ => if t17 = (37 : Int) then (Option.bind (gi_gR h v0 10 12) fun t23 => Option.bind (gi_aI h 1 t23 (v2 + (1 : Int))) fun t24 => Option.bind (gi_is h v0 10) fun _ => Option.bind (f_X12_stands n v0 t17 (t24 - (97 : Int)) h) fun q26 => gx_nm (v2 + (1 : Int)) fun t27 => b_X12_reads_149 n r9 v0 q26.1 t27 q26.2) else (if t17 = (41 : Int) then (Option.bind (gi_is h v0 10) fun _ => Option.bind (f_X12_closes n v0 h) fun q31 => b_X12_reads_149 n r9 v0 q31.1 v2 q31.2) else (Option.bind (gi_gR h v0 10 14) fun t32 => Option.bind (gi_gI h v0 10 15) fun t33 => if t17 = (40 : Int) then (b_X12_reads_138 n r9 v0 v1 v2 t32 t33 (-1 : Int) h) else (if t17 = (124 : Int) then (b_X12_reads_138 n r9 v0 v1 v2 t32 t33 (-2 : Int) h) else (Option.bind (f_X12_isTerminal t17 h) fun q39 => Option.bind (gi_rg q39) fun _ => if q39 = 0 then (b_X12_reads_138 n r9 v0 v1 v2 t32 t33 (((16 : Int) + t17) - (65 : Int)) h) else (b_X12_reads_138 n r9 v0 v1 v2 t32 t33 (t17 - (97 : Int)) h)))))) else (Option.bind (gi_is h v0 10) fun _ => Option.bind (f_X12_stands n v0 t17 (0 : Int) h) fun q43 => b_X12_reads_149 n r9 v0 q43.1 v2 q43.2)))
set_option maxRecDepth 100000 in
theorem zb_X12_reads_9 {al : Bool} {n : Nat} {r9 : Nat → Int → Int → gi_H → Option (Int × gi_H)} {res : Int} {h1 : gi_H} (hr9 : ∀ (x0 : Nat) (x1 : Int) (x2 : Int) (hh : gi_H), r9 x0 x1 x2 hh = some (res, h1) → gx_Z mX12_reads al al 0 0 9 [(0, .ref x0), (1, .int (gI x1)), (2, .int (gI x2))] [] (gi_cv hh) (.inl (some (.int (gI res)))) (gi_cv h1)) {v0 : Nat} {v1 : Int} {v2 : Int}  {h : gi_H} (e : b_X12_reads_9 n r9 v0 v1 v2 h = some (res, h1)) : gx_Z mX12_reads al al 0 0 9 [(0, .ref v0), (1, .int (gI v1)), (2, .int (gI v2))] [] (gi_cv h) (.inl (some (.int (gI res)))) (gi_cv h1) := by
  refine gx_iload_n dX12_reads_9 rfl 2 rfl ?_
  refine gx_aload_n dX12_reads_10 rfl 0 rfl ?_
  refine gx_bE e (fun t2 ht2 e => ?_)
  refine gy_fI ht2 dX12_reads_11 gf_RX12_128_10_13 (by decide) gkN_10_13 gkR_10_13 ?_
  refine gx_bE e (fun _ g3 e => ?_)
  refine gx_bE e (fun _ g4 e => ?_)
  refine gx_iE e (fun c5 e => ?_) (fun c5 e => ?_)
  · refine gy_icmp_ge (tgt := 155) (gi_rgS g3) (gi_rgS g4) dX12_reads_14 (by decide) (fun _ => ?_) (fun z => absurd c5 z)
    refine gx_sub (ls2 := [(0, .ref v0), (1, .int (gI v1))]) [0, 1] rfl ?_
    exact zb_X12_reads_155  e
  · refine gy_icmp_ge (tgt := 155) (gi_rgS g3) (gi_rgS g4) dX12_reads_14 (by decide) (fun z => absurd z c5) (fun _ => ?_)
    refine gx_iload_n dX12_reads_17 rfl 1 rfl ?_
    refine gx_bE e (fun _ g14 e => ?_)
    refine gx_iE e (fun c15 e => ?_) (fun c15 e => ?_)
    · refine gy_if_eq (tgt := 155) (gi_rgS g14) dX12_reads_18 (by decide) (fun _ => ?_) (fun z => absurd c15 z)
      refine gx_sub (ls2 := [(0, .ref v0), (1, .int (gI v1))]) [0, 1] rfl ?_
      exact zb_X12_reads_155  e
    · refine gy_if_eq (tgt := 155) (gi_rgS g14) dX12_reads_18 (by decide) (fun z => absurd z c15) (fun _ => ?_)
      refine gx_aload_n dX12_reads_21 rfl 0 rfl ?_
      refine gx_bE e (fun t16 ht16 e => ?_)
      refine gy_fR ht16 dX12_reads_22 gf_RX12_43_10_12 (by decide) gkN_10_12 gkR_10_12 ?_
      refine gx_iload_n dX12_reads_25 rfl 2 rfl ?_
      refine gx_bE e (fun t17 ht17 e => ?_)
      refine gy_l1 ht17 dX12_reads_26 ?_
      refine gx_istore_n (ls2 := [(3, .int (gI t17)), (0, .ref v0), (1, .int (gI v1)), (2, .int (gI v2))]) dX12_reads_27 rfl (Nat.le_of_ble_eq_true rfl) rfl ?_
      refine gx_iload_n dX12_reads_28 rfl 0 rfl ?_
      refine gx_bE e (fun q18 hq18 e => ?_)
      refine gx_callS (n := 1) (st := []) (As := [.int (gI t17)]) dX12_reads_29 (z_X12_isTail hq18) rfl ⟨rfl, gw_cw_X12_isTail, gw_14, gp_X12_isTail, ⟨Nat.le_of_ble_eq_true rfl, Nat.le_of_ble_eq_true rfl⟩⟩ gw_1477 gw_1478 ⟨Nat.le_of_ble_eq_true rfl, Nat.le_of_ble_eq_true rfl⟩ (Nat.le_of_ble_eq_true rfl) (gy_k1 (x := .int (gI q18)) (kc2 := 0) (ks2 := 0) ⟨rfl, rfl⟩ ?_) gy_kn
      refine gx_bE e (fun _ g19 e => ?_)
      refine gx_iE e (fun c20 e => ?_) (fun c20 e => ?_)
      · refine gy_if_eq (tgt := 45) (gi_rgS g19) dX12_reads_32 (by decide) (fun _ => ?_) (fun z => absurd c20 z)
        refine gx_iload_n dX12_reads_45 rfl 0 rfl ?_
        refine gy_bipush dX12_reads_46 gcb_37 ?_
        refine gx_bE e (fun _ g21 e => ?_)
        refine gx_iE e (fun c22 e => ?_) (fun c22 e => ?_)
        · refine gy_icmp_ne (tgt := 74) (gi_rgS g21) (by decide) dX12_reads_48 (by decide) (fun z => absurd c22 z) (fun _ => ?_)
          refine gx_aload_n dX12_reads_51 rfl 1 rfl ?_
          refine gx_iload_n dX12_reads_52 rfl 0 rfl ?_
          refine gx_aload_n dX12_reads_53 rfl 1 rfl ?_
          refine gx_bE e (fun t23 ht23 e => ?_)
          refine gy_fR ht23 dX12_reads_54 gf_RX12_43_10_12 (by decide) gkN_10_12 gkR_10_12 ?_
          refine gx_iload_n dX12_reads_57 rfl 3 rfl ?_
          refine gy_iconst dX12_reads_58 ?_
          refine gy_iadd dX12_reads_59 ?_
          refine gx_bE e (fun t24 ht24 e => ?_)
          refine gy_l1 ht24 dX12_reads_60 ?_
          refine gy_bipush dX12_reads_61 gcb_97 ?_
          refine gy_isub dX12_reads_63 ?_
          refine gx_bE e (fun _ hu25 e => ?_)
          refine gx_bE e (fun q26 hq26 e => ?_)
          refine gx_callV (n := 2) (st := []) (As := [.int (gI t17), .int (gI (t24 - (97 : Int)))]) (b := v0) dX12_reads_64 (z_X12_stands hq26) rfl ⟨rfl, gw_cw_X12_stands, gw_14, gp_X12_stands, ⟨Nat.le_of_ble_eq_true rfl, Nat.le_of_ble_eq_true rfl⟩⟩ (gi_isS hu25) (by decide) gw_1508 gw_1510 gs_62 rfl ⟨Nat.le_of_ble_eq_true rfl, Nat.le_of_ble_eq_true rfl⟩ (Nat.le_of_ble_eq_true rfl) (gy_k1 (x := .int (gI q26.1)) (kc2 := 0) (ks2 := 0) ⟨rfl, rfl⟩ ?_) gy_kn
          refine gx_istore_n (ls2 := [(1, .int (gI q26.1)), (3, .int (gI t17)), (0, .ref v0), (2, .int (gI v2))]) dX12_reads_67 rfl (Nat.le_of_ble_eq_true rfl) rfl ?_
          refine gx_nE e (fun t27 ht27 e => ?_)
          refine gy_iinc (v := t27) (ls2 := [(2, .int (gI t27)), (1, .int (gI q26.1)), (3, .int (gI t17)), (0, .ref v0)]) dX12_reads_68 3 rfl ht27 (Nat.le_of_ble_eq_true rfl) rfl ?_
          refine gx_goto (tgt := 149) dX12_reads_71 (by decide) ?_
          refine gx_sub (ls2 := [(0, .ref v0), (1, .int (gI q26.1)), (2, .int (gI t27))]) [3, 1, 0] rfl ?_
          exact zb_X12_reads_149 hr9 e
        · refine gy_icmp_ne (tgt := 74) (gi_rgS g21) (by decide) dX12_reads_48 (by decide) (fun _ => ?_) (fun z => absurd z c22)
          refine gx_iload_n dX12_reads_74 rfl 0 rfl ?_
          refine gy_bipush dX12_reads_75 gcb_41 ?_
          refine gx_iE e (fun c29 e => ?_) (fun c29 e => ?_)
          · refine gy_icmp_ne (tgt := 88) (gi_rgS g21) (by decide) dX12_reads_77 (by decide) (fun z => absurd c29 z) (fun _ => ?_)
            refine gx_aload_n dX12_reads_80 rfl 1 rfl ?_
            refine gx_bE e (fun _ hu30 e => ?_)
            refine gx_bE e (fun q31 hq31 e => ?_)
            refine gx_callV (n := 0) (st := []) (As := []) (b := v0) dX12_reads_81 (z_X12_closes hq31) rfl ⟨rfl, gw_cw_X12_closes, gw_14, gp_X12_closes, ⟨Nat.le_of_ble_eq_true rfl, Nat.le_of_ble_eq_true rfl⟩⟩ (gi_isS hu30) (by decide) gw_1520 gw_1522 gs_65 rfl ⟨Nat.le_of_ble_eq_true rfl, Nat.le_of_ble_eq_true rfl⟩ (Nat.le_of_ble_eq_true rfl) (gy_k1 (x := .int (gI q31.1)) (kc2 := 0) (ks2 := 0) ⟨rfl, rfl⟩ ?_) gy_kn
            refine gx_istore_n (ls2 := [(1, .int (gI q31.1)), (3, .int (gI t17)), (0, .ref v0), (2, .int (gI v2))]) dX12_reads_84 rfl (Nat.le_of_ble_eq_true rfl) rfl ?_
            refine gx_goto (tgt := 149) dX12_reads_85 (by decide) ?_
            refine gx_sub (ls2 := [(0, .ref v0), (1, .int (gI q31.1)), (2, .int (gI v2))]) [2, 0, 3] rfl ?_
            exact zb_X12_reads_149 hr9 e
          · refine gy_icmp_ne (tgt := 88) (gi_rgS g21) (by decide) dX12_reads_77 (by decide) (fun _ => ?_) (fun z => absurd z c29)
            refine gx_aload_n dX12_reads_88 rfl 1 rfl ?_
            refine gx_bE e (fun t32 ht32 e => ?_)
            refine gy_fR ht32 dX12_reads_89 gf_RX12_46_10_14 (by decide) gkN_10_14 gkR_10_14 ?_
            refine gx_aload_n dX12_reads_92 rfl 1 rfl ?_
            refine gx_bE e (fun t33 ht33 e => ?_)
            refine gy_fI ht33 dX12_reads_93 gf_RX12_142_10_15 (by decide) gkN_10_15 gkR_10_15 ?_
            refine gx_iload_n dX12_reads_96 rfl 0 rfl ?_
            refine gy_bipush dX12_reads_97 gcb_40 ?_
            refine gx_iE e (fun c34 e => ?_) (fun c34 e => ?_)
            · refine gy_icmp_ne (tgt := 106) (gi_rgS g21) (by decide) dX12_reads_99 (by decide) (fun z => absurd c34 z) (fun _ => ?_)
              refine gy_iconst dX12_reads_102 ?_
              refine gx_goto (tgt := 138) dX12_reads_103 (by decide) ?_
              refine gx_sub (ls2 := [(0, .ref v0), (1, .int (gI v1)), (2, .int (gI v2))]) [1, 2, 3] rfl ?_
              exact zb_X12_reads_138 hr9 e
            · refine gy_icmp_ne (tgt := 106) (gi_rgS g21) (by decide) dX12_reads_99 (by decide) (fun _ => ?_) (fun z => absurd z c34)
              refine gx_iload_n dX12_reads_106 rfl 0 rfl ?_
              refine gy_bipush dX12_reads_107 gcb_124 ?_
              refine gx_iE e (fun c38 e => ?_) (fun c38 e => ?_)
              · refine gy_icmp_ne (tgt := 117) (gi_rgS g21) (by decide) dX12_reads_109 (by decide) (fun z => absurd c38 z) (fun _ => ?_)
                refine gy_bipush dX12_reads_112 gcb_m2 ?_
                refine gx_goto (tgt := 138) dX12_reads_114 (by decide) ?_
                refine gx_sub (ls2 := [(0, .ref v0), (1, .int (gI v1)), (2, .int (gI v2))]) [1, 2, 3] rfl ?_
                exact zb_X12_reads_138 hr9 e
              · refine gy_icmp_ne (tgt := 117) (gi_rgS g21) (by decide) dX12_reads_109 (by decide) (fun _ => ?_) (fun z => absurd z c38)
                refine gx_iload_n dX12_reads_117 rfl 0 rfl ?_
                refine gx_bE e (fun q39 hq39 e => ?_)
                refine gx_callS (n := 1) (st := [.int (gI t33), .ref t32]) (As := [.int (gI t17)]) dX12_reads_118 (z_X12_isTerminal hq39) rfl ⟨rfl, gw_cw_X12_isTerminal, gw_14, gp_X12_isTerminal, ⟨Nat.le_of_ble_eq_true rfl, Nat.le_of_ble_eq_true rfl⟩⟩ gw_1471 gw_1472 ⟨Nat.le_of_ble_eq_true rfl, Nat.le_of_ble_eq_true rfl⟩ (Nat.le_of_ble_eq_true rfl) (gy_k1 (x := .int (gI q39)) (kc2 := 0) (ks2 := 0) ⟨rfl, rfl⟩ ?_) gy_kn
                refine gx_bE e (fun _ g40 e => ?_)
                refine gx_iE e (fun c41 e => ?_) (fun c41 e => ?_)
                · refine gy_if_eq (tgt := 131) (gi_rgS g40) dX12_reads_121 (by decide) (fun _ => ?_) (fun z => absurd c41 z)
                  refine gy_bipush dX12_reads_131 gcb_16 ?_
                  refine gx_iload_n dX12_reads_133 rfl 0 rfl ?_
                  refine gy_iadd dX12_reads_134 ?_
                  refine gy_bipush dX12_reads_135 gcb_65 ?_
                  refine gy_isub dX12_reads_137 ?_
                  refine gx_sub (ls2 := [(0, .ref v0), (1, .int (gI v1)), (2, .int (gI v2))]) [1, 2, 3] rfl ?_
                  exact zb_X12_reads_138 hr9 e
                · refine gy_if_eq (tgt := 131) (gi_rgS g40) dX12_reads_121 (by decide) (fun z => absurd z c41) (fun _ => ?_)
                  refine gx_iload_n dX12_reads_124 rfl 0 rfl ?_
                  refine gy_bipush dX12_reads_125 gcb_97 ?_
                  refine gy_isub dX12_reads_127 ?_
                  refine gx_goto (tgt := 138) dX12_reads_128 (by decide) ?_
                  refine gx_sub (ls2 := [(0, .ref v0), (1, .int (gI v1)), (2, .int (gI v2))]) [1, 2, 3] rfl ?_
                  exact zb_X12_reads_138 hr9 e
      · refine gy_if_eq (tgt := 45) (gi_rgS g19) dX12_reads_32 (by decide) (fun z => absurd z c20) (fun _ => ?_)
        refine gx_aload_n dX12_reads_35 rfl 1 rfl ?_
        refine gx_iload_n dX12_reads_36 rfl 0 rfl ?_
        refine gy_iconst dX12_reads_37 ?_
        refine gx_bE e (fun _ hu42 e => ?_)
        refine gx_bE e (fun q43 hq43 e => ?_)
        refine gx_callV (n := 2) (st := []) (As := [.int (gI t17), .int (gI (0 : Int))]) (b := v0) dX12_reads_38 (z_X12_stands hq43) rfl ⟨rfl, gw_cw_X12_stands, gw_14, gp_X12_stands, ⟨Nat.le_of_ble_eq_true rfl, Nat.le_of_ble_eq_true rfl⟩⟩ (gi_isS hu42) (by decide) gw_1508 gw_1510 gs_62 rfl ⟨Nat.le_of_ble_eq_true rfl, Nat.le_of_ble_eq_true rfl⟩ (Nat.le_of_ble_eq_true rfl) (gy_k1 (x := .int (gI q43.1)) (kc2 := 0) (ks2 := 0) ⟨rfl, rfl⟩ ?_) gy_kn
        refine gx_istore_n (ls2 := [(1, .int (gI q43.1)), (3, .int (gI t17)), (0, .ref v0), (2, .int (gI v2))]) dX12_reads_41 rfl (Nat.le_of_ble_eq_true rfl) rfl ?_
        refine gx_goto (tgt := 149) dX12_reads_42 (by decide) ?_
        refine gx_sub (ls2 := [(0, .ref v0), (1, .int (gI q43.1)), (2, .int (gI v2))]) [2, 0, 3] rfl ?_
        exact zb_X12_reads_149 hr9 e
def l_X12_reads_9 (n : Nat)  : Nat → Nat → Int → Int → gi_H → Option (Int × gi_H)
  | 0, _, _, _, _ => none
  | k + 1, v0, v1, v2, h => b_X12_reads_9 n  (l_X12_reads_9 n  k) v0 v1 v2 h
theorem zl_X12_reads_9 {al : Bool} {n : Nat}  {res : Int} {h1 : gi_H}  : ∀ (k : Nat) (v0 : Nat) (v1 : Int) (v2 : Int) (h : gi_H), l_X12_reads_9 n  k v0 v1 v2 h = some (res, h1) → gx_Z mX12_reads al al 0 0 9 [(0, .ref v0), (1, .int (gI v1)), (2, .int (gI v2))] [] (gi_cv h) (.inl (some (.int (gI res)))) (gi_cv h1)
  | 0, _, _, _, _, e => gx_0E e
  | k + 1, _, _, _, _, e => zb_X12_reads_9 (n := n)  (zl_X12_reads_9  k) e
set_option maxRecDepth 100000 in
def f_X12_reads (n : Nat) (v0 : Nat) (h : gi_H) : Option (Int × gi_H) :=
  Option.bind (gi_pI h v0 10 15 (0 : Int)) fun h1 => l_X12_reads_9 n  n v0 (1 : Int) (2 : Int) h1
set_option maxRecDepth 100000 in
theorem z_X12_reads {al : Bool} {n : Nat} {v0 : Nat} {h : gi_H} {res : Int} {h1 : gi_H} (e : f_X12_reads n v0 h = some (res, h1)) : gx_Cw mX12_reads al [.ref v0] (gi_cv h) (.inl (some (.int (gI res)))) (gi_cv h1) := by
  refine gx_enter (by decide +kernel) rfl (Nat.le_of_ble_eq_true rfl) ?_
  show gx_Z mX12_reads al al 0 0 0 [(0, .ref v0)] [] (gi_cv h) (.inl (some (.int (gI res)))) (gi_cv h1)
  refine gx_aload_n dX12_reads_0 rfl 0 rfl ?_
  refine gy_iconst dX12_reads_1 ?_
  refine gx_bE e (fun h1 hh1 e => ?_)
  refine gy_qI hh1 dX12_reads_2 gf_RX12_142_10_15 (by decide) gkN_10_15 rfl (Or.inl rfl) ?_
  refine gy_iconst dX12_reads_5 ?_
  refine gx_istore_n (ls2 := [(1, .int (gI (1 : Int))), (0, .ref v0)]) dX12_reads_6 rfl (Nat.le_of_ble_eq_true rfl) rfl ?_
  refine gy_iconst dX12_reads_7 ?_
  refine gx_istore_n (ls2 := [(2, .int (gI (2 : Int))), (1, .int (gI (1 : Int))), (0, .ref v0)]) dX12_reads_8 rfl (Nat.le_of_ble_eq_true rfl) rfl ?_
  refine gx_sub (ls2 := [(0, .ref v0), (1, .int (gI (1 : Int))), (2, .int (gI (2 : Int)))]) [2, 1, 0] rfl ?_
  exact zl_X12_reads_9  n _ _ _ _ e
/-! X12_changed  -/
set_option maxRecDepth 100000 in
def f_X12_changed (v0 : Nat) (h : gi_H) : Option (gi_H) :=
  Option.bind (gi_pZ h v0 10 33 (0 : Int)) fun h1 => Option.bind (gi_pZ h1 v0 10 34 (0 : Int)) fun h2 => Option.bind (gi_pZ h2 v0 10 35 (0 : Int)) fun h3 => some h3
set_option maxRecDepth 100000 in
theorem z_X12_changed {al : Bool} {v0 : Nat} {h : gi_H} {h1 : gi_H} (e : f_X12_changed v0 h = some h1) : gx_Cw mX12_changed al [.ref v0] (gi_cv h) (.inl none) (gi_cv h1) := by
  refine gx_enter (by decide +kernel) rfl (Nat.le_of_ble_eq_true rfl) ?_
  show gx_Z mX12_changed al al 0 0 0 [(0, .ref v0)] [] (gi_cv h) (.inl none) (gi_cv h1)
  refine gx_aload_n dX12_changed_0 rfl 0 rfl ?_
  refine gy_iconst dX12_changed_1 ?_
  refine gx_bE e (fun h1 hh1 e => ?_)
  refine gy_qZ hh1 dX12_changed_2 gf_RX12_108_10_33 (by decide) gkN_10_33 rfl (Or.inl rfl) ?_
  refine gx_aload_n dX12_changed_5 rfl 0 rfl ?_
  refine gy_iconst dX12_changed_6 ?_
  refine gx_bE e (fun h2 hh2 e => ?_)
  refine gy_qZ hh2 dX12_changed_7 gf_RX12_112_10_34 (by decide) gkN_10_34 rfl (Or.inl rfl) ?_
  refine gx_aload_n dX12_changed_10 rfl 0 rfl ?_
  refine gy_iconst dX12_changed_11 ?_
  refine gx_bE e (fun h3 hh3 e => ?_)
  refine gy_qZ hh3 dX12_changed_12 gf_RX12_115_10_35 (by decide) gkN_10_35 rfl (Or.inl rfl) ?_
  cases e
  exact gx_vret dX12_changed_15 rfl ⟨Nat.le_of_ble_eq_true rfl, Nat.le_of_ble_eq_true rfl⟩ (fun z => z)
