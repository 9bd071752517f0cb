/-! L_law  -/
set_option maxRecDepth 100000 in
def b_L_law_900 (n : Nat) (L : Nat) (xs : Nat → Int) (r24 : Nat → Nat → Int → Int → Int → Int → gi_H → Option (Int × gi_H)) (v1 : Nat) (v2 : Nat) (v3 : Int) (v4 : Int) (v6 : Int) (s0 : Int) (h : gi_H) : Option (Int × gi_H) :=
  gx_nm (v6 + (1 : Int)) fun t30 => r24 v1 v2 v3 v4 s0 t30 h
set_option maxRecDepth 100000 in
theorem zb_L_law_900 {n : Nat} {L : Nat} {xs : Nat → Int} {r24 : Nat → Nat → Int → Int → Int → Int → gi_H → Option (Int × gi_H)} {res : Int} {h1 : gi_H} {kc ks k : Nat} (hkc : kc + (k + 1) * 2000 ≤ 54186) (hks : ks + (k + 1) * 12000 ≤ 388187) (hr24 : ∀ (kc ks : Nat) (x1 : Nat) (x2 : Nat) (x3 : Int) (x4 : Int) (x5 : Int) (x6 : Int) (hh : gi_H), kc + k * 2000 ≤ 54186 → ks + k * 12000 ≤ 388187 → r24 x1 x2 x3 x4 x5 x6 hh = some (res, h1) → gx_Z (mL_law L xs) false false kc ks 24 [(0, .ref 100000), (1, .ref x1), (2, .ref x2), (3, .int (gI x3)), (4, .int (gI x4)), (5, .int (gI x5)), (6, .int (gI x6))] [] (gi_cv hh) (.inl (some (.int (gI res)))) (gi_cv h1)) {v1 : Nat} {v2 : Nat} {v3 : Int} {v4 : Int} {v6 : Int} {s0 : Int} {h : gi_H} (e : b_L_law_900 n L xs r24 v1 v2 v3 v4 v6 s0 h = some (res, h1)) : gx_Z (mL_law L xs) false false (kc + 619) (ks + 3714) 900 [(0, .ref 100000), (1, .ref v1), (2, .ref v2), (3, .int (gI v3)), (4, .int (gI v4)), (6, .int (gI v6))] [.int (gI s0)] (gi_cv h) (.inl (some (.int (gI res)))) (gi_cv h1) := by
  have hKc : 54186 ≤ (gx_rm (mL_law L xs)).cells := Nat.le_of_ble_eq_true rfl
  have hKs : 388187 ≤ (gx_rm (mL_law L xs)).slots := Nat.le_of_ble_eq_true rfl
  refine gx_istore (ls2 := [(5, .int (gI s0)), (0, .ref 100000), (1, .ref v1), (2, .ref v2), (3, .int (gI v3)), (4, .int (gI v4)), (6, .int (gI v6))]) dL_law_900 (Nat.le_of_ble_eq_true rfl) rfl ?_
  refine gx_nE e (fun t30 ht30 e => ?_)
  refine gy_iinc (v := t30) (ls2 := [(6, .int (gI t30)), (5, .int (gI s0)), (0, .ref 100000), (1, .ref v1), (2, .ref v2), (3, .int (gI v3)), (4, .int (gI v4))]) dL_law_902 6 rfl ht30 (Nat.le_of_ble_eq_true rfl) rfl ?_
  refine gx_goto (tgt := 24) dL_law_905 (by decide) ?_
  refine gx_sub (ls2 := [(0, .ref 100000), (1, .ref v1), (2, .ref v2), (3, .int (gI v3)), (4, .int (gI v4)), (5, .int (gI s0)), (6, .int (gI t30))]) [2, 3, 4, 5, 6, 1, 0] rfl ?_
  exact hr24 _ _ _ _ _ _ _ _ _ (by show (kc + 619) + _ ≤ _; omega) (by show (ks + 3714) + _ ≤ _; omega) e
set_option maxRecDepth 100000 in
def b_L_law_899 (n : Nat) (L : Nat) (xs : Nat → Int) (r24 : Nat → Nat → Int → Int → Int → Int → gi_H → Option (Int × gi_H)) (v1 : Nat) (v2 : Nat) (v3 : Int) (v4 : Int) (v6 : Int)  (h : gi_H) : Option (Int × gi_H) :=
  b_L_law_900 n L xs r24 v1 v2 v3 v4 v6 (0 : Int) h
set_option maxRecDepth 100000 in
theorem zb_L_law_899 {n : Nat} {L : Nat} {xs : Nat → Int} {r24 : Nat → Nat → Int → Int → Int → Int → gi_H → Option (Int × gi_H)} {res : Int} {h1 : gi_H} {kc ks k : Nat} (hkc : kc + (k + 1) * 2000 ≤ 54186) (hks : ks + (k + 1) * 12000 ≤ 388187) (hr24 : ∀ (kc ks : Nat) (x1 : Nat) (x2 : Nat) (x3 : Int) (x4 : Int) (x5 : Int) (x6 : Int) (hh : gi_H), kc + k * 2000 ≤ 54186 → ks + k * 12000 ≤ 388187 → r24 x1 x2 x3 x4 x5 x6 hh = some (res, h1) → gx_Z (mL_law L xs) false false kc ks 24 [(0, .ref 100000), (1, .ref x1), (2, .ref x2), (3, .int (gI x3)), (4, .int (gI x4)), (5, .int (gI x5)), (6, .int (gI x6))] [] (gi_cv hh) (.inl (some (.int (gI res)))) (gi_cv h1)) {v1 : Nat} {v2 : Nat} {v3 : Int} {v4 : Int} {v6 : Int}  {h : gi_H} (e : b_L_law_899 n L xs r24 v1 v2 v3 v4 v6 h = some (res, h1)) : gx_Z (mL_law L xs) false false (kc + 619) (ks + 3714) 899 [(0, .ref 100000), (1, .ref v1), (2, .ref v2), (3, .int (gI v3)), (4, .int (gI v4)), (6, .int (gI v6))] [] (gi_cv h) (.inl (some (.int (gI res)))) (gi_cv h1) := by
  have hKc : 54186 ≤ (gx_rm (mL_law L xs)).cells := Nat.le_of_ble_eq_true rfl
  have hKs : 388187 ≤ (gx_rm (mL_law L xs)).slots := Nat.le_of_ble_eq_true rfl
  refine gy_iconst dL_law_899 ?_
  exact zb_L_law_900 hkc hks hr24 e
set_option maxRecDepth 100000 in
def b_L_law_868 (n : Nat) (L : Nat) (xs : Nat → Int) (r24 : Nat → Nat → Int → Int → Int → Int → gi_H → Option (Int × gi_H)) (v1 : Nat) (v2 : Nat) (v3 : Int) (v4 : Int) (v6 : Int)  (h : gi_H) : Option (Int × gi_H) :=
  Option.bind (f_L_parses n v1 v4 h) fun q34 => Option.bind (gi_rg q34.1) fun _ => if q34.1 = 0 then (b_L_law_899 n L xs r24 v1 v2 v3 v4 v6 q34.2) else (Option.bind (f_L_names n v1 q34.2) fun q37 => Option.bind (gi_rg q37.1) fun _ => if q37.1 = 0 then (b_L_law_899 n L xs r24 v1 v2 v3 v4 v6 q37.2) else (Option.bind (f_L_right v1 (0 : Int) (5 : Int) q37.2) fun q40 => Option.bind (gi_rg q40.1) fun _ => if q40.1 = (-101 : Int) then (b_L_law_900 n L xs r24 v1 v2 v3 v4 v6 (1 : Int) q40.2) else (b_L_law_899 n L xs r24 v1 v2 v3 v4 v6 q40.2)))
set_option maxRecDepth 100000 in
theorem zb_L_law_868 {n : Nat} {L : Nat} {xs : Nat → Int} {r24 : Nat → Nat → Int → Int → Int → Int → gi_H → Option (Int × gi_H)} {res : Int} {h1 : gi_H} {kc ks k : Nat} (hkc : kc + (k + 1) * 2000 ≤ 54186) (hks : ks + (k + 1) * 12000 ≤ 388187) (hr24 : ∀ (kc ks : Nat) (x1 : Nat) (x2 : Nat) (x3 : Int) (x4 : Int) (x5 : Int) (x6 : Int) (hh : gi_H), kc + k * 2000 ≤ 54186 → ks + k * 12000 ≤ 388187 → r24 x1 x2 x3 x4 x5 x6 hh = some (res, h1) → gx_Z (mL_law L xs) false false kc ks 24 [(0, .ref 100000), (1, .ref x1), (2, .ref x2), (3, .int (gI x3)), (4, .int (gI x4)), (5, .int (gI x5)), (6, .int (gI x6))] [] (gi_cv hh) (.inl (some (.int (gI res)))) (gi_cv h1)) {v1 : Nat} {v2 : Nat} {v3 : Int} {v4 : Int} {v6 : Int}  {h : gi_H} (e : b_L_law_868 n L xs r24 v1 v2 v3 v4 v6 h = some (res, h1)) : gx_Z (mL_law L xs) false false (kc + 169) (ks + 1014) 868 [(0, .ref 100000), (1, .ref v1), (2, .ref v2), (3, .int (gI v3)), (4, .int (gI v4)), (6, .int (gI v6))] [] (gi_cv h) (.inl (some (.int (gI res)))) (gi_cv h1) := by
  have hKc : 54186 ≤ (gx_rm (mL_law L xs)).cells := Nat.le_of_ble_eq_true rfl
  have hKs : 388187 ≤ (gx_rm (mL_law L xs)).slots := Nat.le_of_ble_eq_true rfl
  refine gx_aload_n dL_law_868 rfl 1 rfl ?_
  refine gx_iload dL_law_869 4 rfl ?_
  refine gx_bE e (fun q34 hq34 e => ?_)
  refine gx_callS (n := 2) (st := []) (As := [.ref v1, .int (gI v4)]) dL_law_871 (z_L_parses hq34) rfl ⟨rfl, gw_cw_L_parses, gw_0, gp_L_parses, ⟨Nat.le_of_ble_eq_true rfl, Nat.le_of_ble_eq_true rfl⟩⟩ gw_1161 gw_1162 ⟨by show (kc + 209) ≤ _; omega, by show (ks + 1254) ≤ _; omega⟩ (Nat.le_of_ble_eq_true rfl) (gy_k1 (x := .int (gI q34.1)) (kc2 := (kc + 209)) (ks2 := (ks + 1254)) ⟨rfl, rfl⟩ ?_) gy_kn
  refine gx_bE e (fun _ g35 e => ?_)
  refine gx_iE e (fun c36 e => ?_) (fun c36 e => ?_)
  · refine gy_if_eq (tgt := 899) (gi_rgS g35) dL_law_874 (by decide) (fun _ => ?_) (fun z => absurd c36 z)
    refine gx_kup (kc2 := (kc + 619)) (ks2 := (ks + 3714)) (by show (kc + 209) ≤ (kc + 619); omega) (by show (ks + 1254) ≤ (ks + 3714); omega) ?_
    exact zb_L_law_899 hkc hks hr24 e
  · refine gy_if_eq (tgt := 899) (gi_rgS g35) dL_law_874 (by decide) (fun z => absurd z c36) (fun _ => ?_)
    refine gx_aload_n dL_law_877 rfl 1 rfl ?_
    refine gx_bE e (fun q37 hq37 e => ?_)
    refine gx_callS (n := 1) (st := []) (As := [.ref v1]) dL_law_878 (z_L_names hq37) rfl ⟨rfl, gw_cw_L_names, gw_0, gp_L_names, ⟨Nat.le_of_ble_eq_true rfl, Nat.le_of_ble_eq_true rfl⟩⟩ gw_1265 gw_1266 ⟨by show (kc + 618) ≤ _; omega, by show (ks + 3708) ≤ _; omega⟩ (Nat.le_of_ble_eq_true rfl) (gy_k1 (x := .int (gI q37.1)) (kc2 := (kc + 618)) (ks2 := (ks + 3708)) ⟨rfl, rfl⟩ ?_) gy_kn
    refine gx_bE e (fun _ g38 e => ?_)
    refine gx_iE e (fun c39 e => ?_) (fun c39 e => ?_)
    · refine gy_if_eq (tgt := 899) (gi_rgS g38) dL_law_881 (by decide) (fun _ => ?_) (fun z => absurd c39 z)
      refine gx_kup (kc2 := (kc + 619)) (ks2 := (ks + 3714)) (by show (kc + 618) ≤ (kc + 619); omega) (by show (ks + 3708) ≤ (ks + 3714); omega) ?_
      exact zb_L_law_899 hkc hks hr24 e
    · refine gy_if_eq (tgt := 899) (gi_rgS g38) dL_law_881 (by decide) (fun z => absurd z c39) (fun _ => ?_)
      refine gx_aload_n dL_law_884 rfl 1 rfl ?_
      refine gy_iconst dL_law_885 ?_
      refine gy_iconst dL_law_886 ?_
      refine gx_bE e (fun q40 hq40 e => ?_)
      refine gx_callSW (n := 3) (st := []) (As := [.ref v1, .int (gI (0 : Int)), .int (gI (5 : Int))]) dL_law_887 (z_L_right hq40) rfl ⟨(by decide +kernel), gw_cw_L_right, gw_0, gp_L_right, ⟨Nat.le_of_ble_eq_true rfl, Nat.le_of_ble_eq_true rfl⟩⟩ gw_918 gw_919 ⟨by show (kc + 619) ≤ _; omega, by show (ks + 3714) ≤ _; omega⟩ (Nat.le_of_ble_eq_true rfl) (gy_k1 (x := .int (gI q40.1)) (kc2 := (kc + 619)) (ks2 := (ks + 3714)) ⟨rfl, rfl⟩ ?_)
      refine gy_bipush dL_law_890 gcb_m101 ?_
      refine gx_bE e (fun _ g41 e => ?_)
      refine gx_iE e (fun c42 e => ?_) (fun c42 e => ?_)
      · refine gy_icmp_ne (tgt := 899) (gi_rgS g41) (by decide) dL_law_892 (by decide) (fun z => absurd c42 z) (fun _ => ?_)
        refine gy_iconst dL_law_895 ?_
        refine gx_goto (tgt := 900) dL_law_896 (by decide) ?_
        exact zb_L_law_900 hkc hks hr24 e
      · refine gy_icmp_ne (tgt := 899) (gi_rgS g41) (by decide) dL_law_892 (by decide) (fun _ => ?_) (fun z => absurd z c42)
        exact zb_L_law_899 hkc hks hr24 e
set_option maxRecDepth 100000 in
def b_L_law_849 (n : Nat) (L : Nat) (xs : Nat → Int) (r24 : Nat → Nat → Int → Int → Int → Int → gi_H → Option (Int × gi_H)) (v1 : Nat) (v2 : Nat) (v3 : Int) (v4 : Int) (v5 : Int) (v6 : Int)  (h : gi_H) : Option (Int × gi_H) :=
  Option.bind (gi_rg v5) fun _ => if v5 = 0 then (b_L_law_899 n L xs r24 v1 v2 v3 v4 v6 h) else (Option.bind (gi_dg v6 (3 : Int)) fun _ => Option.bind (gi_rg (v6 % (3 : Int))) fun _ => if 0 < (v6 % (3 : Int)) then (b_L_law_868 n L xs r24 v1 v2 v3 v4 v6 h) else (Option.bind (f_L_tables n v1 h) fun q43 => Option.bind (gi_rg q43.1) fun _ => if q43.1 = 0 then (b_L_law_899 n L xs r24 v1 v2 v3 v4 v6 q43.2) else (b_L_law_868 n L xs r24 v1 v2 v3 v4 v6 q43.2)))
set_option maxRecDepth 100000 in
theorem zb_L_law_849 {n : Nat} {L : Nat} {xs : Nat → Int} {r24 : Nat → Nat → Int → Int → Int → Int → gi_H → Option (Int × gi_H)} {res : Int} {h1 : gi_H} {kc ks k : Nat} (hkc : kc + (k + 1) * 2000 ≤ 54186) (hks : ks + (k + 1) * 12000 ≤ 388187) (hr24 : ∀ (kc ks : Nat) (x1 : Nat) (x2 : Nat) (x3 : Int) (x4 : Int) (x5 : Int) (x6 : Int) (hh : gi_H), kc + k * 2000 ≤ 54186 → ks + k * 12000 ≤ 388187 → r24 x1 x2 x3 x4 x5 x6 hh = some (res, h1) → gx_Z (mL_law L xs) false false kc ks 24 [(0, .ref 100000), (1, .ref x1), (2, .ref x2), (3, .int (gI x3)), (4, .int (gI x4)), (5, .int (gI x5)), (6, .int (gI x6))] [] (gi_cv hh) (.inl (some (.int (gI res)))) (gi_cv h1)) {v1 : Nat} {v2 : Nat} {v3 : Int} {v4 : Int} {v5 : Int} {v6 : Int}  {h : gi_H} (e : b_L_law_849 n L xs r24 v1 v2 v3 v4 v5 v6 h = some (res, h1)) : gx_Z (mL_law L xs) false false (kc + 106) (ks + 636) 849 [(0, .ref 100000), (1, .ref v1), (2, .ref v2), (3, .int (gI v3)), (4, .int (gI v4)), (5, .int (gI v5)), (6, .int (gI v6))] [] (gi_cv h) (.inl (some (.int (gI res)))) (gi_cv h1) := by
  have hKc : 54186 ≤ (gx_rm (mL_law L xs)).cells := Nat.le_of_ble_eq_true rfl
  have hKs : 388187 ≤ (gx_rm (mL_law L xs)).slots := Nat.le_of_ble_eq_true rfl
  refine gx_iload dL_law_849 5 rfl ?_
  refine gx_bE e (fun _ g28 e => ?_)
  refine gx_iE e (fun c29 e => ?_) (fun c29 e => ?_)
  · refine gy_if_eq (tgt := 899) (gi_rgS g28) dL_law_851 (by decide) (fun _ => ?_) (fun z => absurd c29 z)
    refine gx_sub (ls2 := [(0, .ref 100000), (1, .ref v1), (2, .ref v2), (3, .int (gI v3)), (4, .int (gI v4)), (6, .int (gI v6))]) [0, 1, 2, 3, 4, 6] rfl ?_
    refine gx_kup (kc2 := (kc + 619)) (ks2 := (ks + 3714)) (by show (kc + 106) ≤ (kc + 619); omega) (by show (ks + 636) ≤ (ks + 3714); omega) ?_
    exact zb_L_law_899 hkc hks hr24 e
  · refine gy_if_eq (tgt := 899) (gi_rgS g28) dL_law_851 (by decide) (fun z => absurd z c29) (fun _ => ?_)
    refine gx_iload dL_law_854 6 rfl ?_
    refine gy_iconst dL_law_856 ?_
    refine gx_bE e (fun _ hu31 e => ?_)
    refine gy_irem hu31 dL_law_857 ?_
    refine gx_bE e (fun _ g32 e => ?_)
    refine gx_iE e (fun c33 e => ?_) (fun c33 e => ?_)
    · refine gy_if_gt (tgt := 868) (gi_rgS g32) dL_law_858 (by decide) (fun _ => ?_) (fun z => absurd c33 z)
      refine gx_sub (ls2 := [(0, .ref 100000), (1, .ref v1), (2, .ref v2), (3, .int (gI v3)), (4, .int (gI v4)), (6, .int (gI v6))]) [0, 1, 2, 3, 4, 6] rfl ?_
      refine gx_kup (kc2 := (kc + 169)) (ks2 := (ks + 1014)) (by show (kc + 106) ≤ (kc + 169); omega) (by show (ks + 636) ≤ (ks + 1014); omega) ?_
      exact zb_L_law_868 hkc hks hr24 e
    · refine gy_if_gt (tgt := 868) (gi_rgS g32) dL_law_858 (by decide) (fun z => absurd z c33) (fun _ => ?_)
      refine gx_aload_n dL_law_861 rfl 1 rfl ?_
      refine gx_bE e (fun q43 hq43 e => ?_)
      refine gx_callS (n := 1) (st := []) (As := [.ref v1]) dL_law_862 (z_L_tables hq43) rfl ⟨rfl, gw_cw_L_tables, gw_0, gp_L_tables, ⟨Nat.le_of_ble_eq_true rfl, Nat.le_of_ble_eq_true rfl⟩⟩ gw_961 gw_962 ⟨by show (kc + 169) ≤ _; omega, by show (ks + 1014) ≤ _; omega⟩ (Nat.le_of_ble_eq_true rfl) (gy_k1 (x := .int (gI q43.1)) (kc2 := (kc + 169)) (ks2 := (ks + 1014)) ⟨rfl, rfl⟩ ?_) gy_kn
      refine gx_bE e (fun _ g44 e => ?_)
      refine gx_iE e (fun c45 e => ?_) (fun c45 e => ?_)
      · refine gy_if_eq (tgt := 899) (gi_rgS g44) dL_law_865 (by decide) (fun _ => ?_) (fun z => absurd c45 z)
        refine gx_sub (ls2 := [(0, .ref 100000), (1, .ref v1), (2, .ref v2), (3, .int (gI v3)), (4, .int (gI v4)), (6, .int (gI v6))]) [0, 1, 2, 3, 4, 6] rfl ?_
        refine gx_kup (kc2 := (kc + 619)) (ks2 := (ks + 3714)) (by show (kc + 169) ≤ (kc + 619); omega) (by show (ks + 1014) ≤ (ks + 3714); omega) ?_
        exact zb_L_law_899 hkc hks hr24 e
      · refine gy_if_eq (tgt := 899) (gi_rgS g44) dL_law_865 (by decide) (fun z => absurd z c45) (fun _ => ?_)
        refine gx_sub (ls2 := [(0, .ref 100000), (1, .ref v1), (2, .ref v2), (3, .int (gI v3)), (4, .int (gI v4)), (6, .int (gI v6))]) [0, 1, 2, 3, 4, 6] rfl ?_
        exact zb_L_law_868 hkc hks hr24 e
set_option maxRecDepth 100000 in
def b_L_law_381 (n : Nat) (L : Nat) (xs : Nat → Int) (r24 : Nat → Nat → Int → Int → Int → Int → gi_H → Option (Int × gi_H)) (v1 : Nat) (v2 : Nat) (v3 : Int) (v4 : Int) (v6 : Int) (s0 : Int) (h : gi_H) : Option (Int × gi_H) :=
  b_L_law_849 n L xs r24 v1 v2 v3 v4 s0 v6 h
set_option maxRecDepth 100000 in
theorem zb_L_law_381 {n : Nat} {L : Nat} {xs : Nat → Int} {r24 : Nat → Nat → Int → Int → Int → Int → gi_H → Option (Int × gi_H)} {res : Int} {h1 : gi_H} {kc ks k : Nat} (hkc : kc + (k + 1) * 2000 ≤ 54186) (hks : ks + (k + 1) * 12000 ≤ 388187) (hr24 : ∀ (kc ks : Nat) (x1 : Nat) (x2 : Nat) (x3 : Int) (x4 : Int) (x5 : Int) (x6 : Int) (hh : gi_H), kc + k * 2000 ≤ 54186 → ks + k * 12000 ≤ 388187 → r24 x1 x2 x3 x4 x5 x6 hh = some (res, h1) → gx_Z (mL_law L xs) false false kc ks 24 [(0, .ref 100000), (1, .ref x1), (2, .ref x2), (3, .int (gI x3)), (4, .int (gI x4)), (5, .int (gI x5)), (6, .int (gI x6))] [] (gi_cv hh) (.inl (some (.int (gI res)))) (gi_cv h1)) {v1 : Nat} {v2 : Nat} {v3 : Int} {v4 : Int} {v6 : Int} {s0 : Int} {h : gi_H} (e : b_L_law_381 n L xs r24 v1 v2 v3 v4 v6 s0 h = some (res, h1)) : gx_Z (mL_law L xs) false false (kc + 1) (ks + 6) 381 [(0, .ref 100000), (1, .ref v1), (2, .ref v2), (3, .int (gI v3)), (4, .int (gI v4)), (6, .int (gI v6))] [.int (gI s0)] (gi_cv h) (.inl (some (.int (gI res)))) (gi_cv h1) := by
  have hKc : 54186 ≤ (gx_rm (mL_law L xs)).cells := Nat.le_of_ble_eq_true rfl
  have hKs : 388187 ≤ (gx_rm (mL_law L xs)).slots := Nat.le_of_ble_eq_true rfl
  refine gx_istore (ls2 := [(5, .int (gI s0)), (0, .ref 100000), (1, .ref v1), (2, .ref v2), (3, .int (gI v3)), (4, .int (gI v4)), (6, .int (gI v6))]) dL_law_381 (Nat.le_of_ble_eq_true rfl) rfl ?_
  refine gx_goto (tgt := 849) dL_law_383 (by decide) ?_
  refine gx_sub (ls2 := [(0, .ref 100000), (1, .ref v1), (2, .ref v2), (3, .int (gI v3)), (4, .int (gI v4)), (5, .int (gI s0)), (6, .int (gI v6))]) [1, 2, 3, 4, 5, 0, 6] rfl ?_
  refine gx_kup (kc2 := (kc + 106)) (ks2 := (ks + 636)) (by show (kc + 1) ≤ (kc + 106); omega) (by show (ks + 6) ≤ (ks + 636); omega) ?_
  exact zb_L_law_849 hkc hks hr24 e
set_option maxRecDepth 100000 in
def b_L_law_380 (n : Nat) (L : Nat) (xs : Nat → Int) (r24 : Nat → Nat → Int → Int → Int → Int → gi_H → Option (Int × gi_H)) (v1 : Nat) (v2 : Nat) (v3 : Int) (v4 : Int) (v6 : Int)  (h : gi_H) : Option (Int × gi_H) :=
  b_L_law_381 n L xs r24 v1 v2 v3 v4 v6 (0 : Int) h
set_option maxRecDepth 100000 in
theorem zb_L_law_380 {n : Nat} {L : Nat} {xs : Nat → Int} {r24 : Nat → Nat → Int → Int → Int → Int → gi_H → Option (Int × gi_H)} {res : Int} {h1 : gi_H} {kc ks k : Nat} (hkc : kc + (k + 1) * 2000 ≤ 54186) (hks : ks + (k + 1) * 12000 ≤ 388187) (hr24 : ∀ (kc ks : Nat) (x1 : Nat) (x2 : Nat) (x3 : Int) (x4 : Int) (x5 : Int) (x6 : Int) (hh : gi_H), kc + k * 2000 ≤ 54186 → ks + k * 12000 ≤ 388187 → r24 x1 x2 x3 x4 x5 x6 hh = some (res, h1) → gx_Z (mL_law L xs) false false kc ks 24 [(0, .ref 100000), (1, .ref x1), (2, .ref x2), (3, .int (gI x3)), (4, .int (gI x4)), (5, .int (gI x5)), (6, .int (gI x6))] [] (gi_cv hh) (.inl (some (.int (gI res)))) (gi_cv h1)) {v1 : Nat} {v2 : Nat} {v3 : Int} {v4 : Int} {v6 : Int}  {h : gi_H} (e : b_L_law_380 n L xs r24 v1 v2 v3 v4 v6 h = some (res, h1)) : gx_Z (mL_law L xs) false false (kc + 1) (ks + 6) 380 [(0, .ref 100000), (1, .ref v1), (2, .ref v2), (3, .int (gI v3)), (4, .int (gI v4)), (6, .int (gI v6))] [] (gi_cv h) (.inl (some (.int (gI res)))) (gi_cv h1) := by
  have hKc : 54186 ≤ (gx_rm (mL_law L xs)).cells := Nat.le_of_ble_eq_true rfl
  have hKs : 388187 ≤ (gx_rm (mL_law L xs)).slots := Nat.le_of_ble_eq_true rfl
  refine gy_iconst dL_law_380 ?_
  exact zb_L_law_381 hkc hks hr24 e
set_option maxRecDepth 100000 in
def b_L_law_409 (n : Nat) (L : Nat) (xs : Nat → Int) (r24 : Nat → Nat → Int → Int → Int → Int → gi_H → Option (Int × gi_H)) (v1 : Nat) (v2 : Nat) (v4 : Int) (v6 : Int) (v8 : Int) (s0 : Int) (h : gi_H) : Option (Int × gi_H) :=
  Option.bind (gi_dg v8 (2 : Int)) fun _ => gx_nm (v8 % (2 : Int)) fun t60 => b_L_law_849 n L xs r24 v1 v2 t60 v4 s0 v6 h
set_option maxRecDepth 100000 in
theorem zb_L_law_409 {n : Nat} {L : Nat} {xs : Nat → Int} {r24 : Nat → Nat → Int → Int → Int → Int → gi_H → Option (Int × gi_H)} {res : Int} {h1 : gi_H} {kc ks k : Nat} (hkc : kc + (k + 1) * 2000 ≤ 54186) (hks : ks + (k + 1) * 12000 ≤ 388187) (hr24 : ∀ (kc ks : Nat) (x1 : Nat) (x2 : Nat) (x3 : Int) (x4 : Int) (x5 : Int) (x6 : Int) (hh : gi_H), kc + k * 2000 ≤ 54186 → ks + k * 12000 ≤ 388187 → r24 x1 x2 x3 x4 x5 x6 hh = some (res, h1) → gx_Z (mL_law L xs) false false kc ks 24 [(0, .ref 100000), (1, .ref x1), (2, .ref x2), (3, .int (gI x3)), (4, .int (gI x4)), (5, .int (gI x5)), (6, .int (gI x6))] [] (gi_cv hh) (.inl (some (.int (gI res)))) (gi_cv h1)) {v1 : Nat} {v2 : Nat} {v4 : Int} {v6 : Int} {v8 : Int} {s0 : Int} {h : gi_H} (e : b_L_law_409 n L xs r24 v1 v2 v4 v6 v8 s0 h = some (res, h1)) : gx_Z (mL_law L xs) false false (kc + 1) (ks + 6) 409 [(0, .ref 100000), (1, .ref v1), (2, .ref v2), (4, .int (gI v4)), (6, .int (gI v6)), (8, .int (gI v8))] [.int (gI s0)] (gi_cv h) (.inl (some (.int (gI res)))) (gi_cv h1) := by
  have hKc : 54186 ≤ (gx_rm (mL_law L xs)).cells := Nat.le_of_ble_eq_true rfl
  have hKs : 388187 ≤ (gx_rm (mL_law L xs)).slots := Nat.le_of_ble_eq_true rfl
  refine gx_istore (ls2 := [(5, .int (gI s0)), (0, .ref 100000), (1, .ref v1), (2, .ref v2), (4, .int (gI v4)), (6, .int (gI v6)), (8, .int (gI v8))]) dL_law_409 (Nat.le_of_ble_eq_true rfl) rfl ?_
  refine gx_iload dL_law_411 6 rfl ?_
  refine gy_iconst dL_law_413 ?_
  refine gx_bE e (fun _ hu59 e => ?_)
  refine gy_irem hu59 dL_law_414 ?_
  refine gx_nE e (fun t60 ht60 e => ?_)
  rw [ht60]
  refine gx_istore_n (ls2 := [(3, .int (gI t60)), (5, .int (gI s0)), (0, .ref 100000), (1, .ref v1), (2, .ref v2), (4, .int (gI v4)), (6, .int (gI v6)), (8, .int (gI v8))]) dL_law_415 rfl (Nat.le_of_ble_eq_true rfl) rfl ?_
  refine gx_goto (tgt := 849) dL_law_416 (by decide) ?_
  refine gx_sub (ls2 := [(0, .ref 100000), (1, .ref v1), (2, .ref v2), (3, .int (gI t60)), (4, .int (gI v4)), (5, .int (gI s0)), (6, .int (gI v6))]) [2, 3, 4, 0, 5, 1, 6] rfl ?_
  refine gx_kup (kc2 := (kc + 106)) (ks2 := (ks + 636)) (by show (kc + 1) ≤ (kc + 106); omega) (by show (ks + 6) ≤ (ks + 636); omega) ?_
  exact zb_L_law_849 hkc hks hr24 e
set_option maxRecDepth 100000 in
def b_L_law_498 (n : Nat) (L : Nat) (xs : Nat → Int) (r24 : Nat → Nat → Int → Int → Int → Int → gi_H → Option (Int × gi_H)) (v1 : Nat) (v2 : Nat) (v3 : Int) (v4 : Int) (v6 : Int) (s0 : Int) (h : gi_H) : Option (Int × gi_H) :=
  b_L_law_849 n L xs r24 v1 v2 v3 v4 s0 v6 h
set_option maxRecDepth 100000 in
theorem zb_L_law_498 {n : Nat} {L : Nat} {xs : Nat → Int} {r24 : Nat → Nat → Int → Int → Int → Int → gi_H → Option (Int × gi_H)} {res : Int} {h1 : gi_H} {kc ks k : Nat} (hkc : kc + (k + 1) * 2000 ≤ 54186) (hks : ks + (k + 1) * 12000 ≤ 388187) (hr24 : ∀ (kc ks : Nat) (x1 : Nat) (x2 : Nat) (x3 : Int) (x4 : Int) (x5 : Int) (x6 : Int) (hh : gi_H), kc + k * 2000 ≤ 54186 → ks + k * 12000 ≤ 388187 → r24 x1 x2 x3 x4 x5 x6 hh = some (res, h1) → gx_Z (mL_law L xs) false false kc ks 24 [(0, .ref 100000), (1, .ref x1), (2, .ref x2), (3, .int (gI x3)), (4, .int (gI x4)), (5, .int (gI x5)), (6, .int (gI x6))] [] (gi_cv hh) (.inl (some (.int (gI res)))) (gi_cv h1)) {v1 : Nat} {v2 : Nat} {v3 : Int} {v4 : Int} {v6 : Int} {s0 : Int} {h : gi_H} (e : b_L_law_498 n L xs r24 v1 v2 v3 v4 v6 s0 h = some (res, h1)) : gx_Z (mL_law L xs) false false (kc + 1) (ks + 6) 498 [(0, .ref 100000), (1, .ref v1), (2, .ref v2), (3, .int (gI v3)), (4, .int (gI v4)), (6, .int (gI v6))] [.int (gI s0)] (gi_cv h) (.inl (some (.int (gI res)))) (gi_cv h1) := by
  have hKc : 54186 ≤ (gx_rm (mL_law L xs)).cells := Nat.le_of_ble_eq_true rfl
  have hKs : 388187 ≤ (gx_rm (mL_law L xs)).slots := Nat.le_of_ble_eq_true rfl
  refine gx_istore (ls2 := [(5, .int (gI s0)), (0, .ref 100000), (1, .ref v1), (2, .ref v2), (3, .int (gI v3)), (4, .int (gI v4)), (6, .int (gI v6))]) dL_law_498 (Nat.le_of_ble_eq_true rfl) rfl ?_
  refine gx_goto (tgt := 849) dL_law_500 (by decide) ?_
  refine gx_sub (ls2 := [(0, .ref 100000), (1, .ref v1), (2, .ref v2), (3, .int (gI v3)), (4, .int (gI v4)), (5, .int (gI s0)), (6, .int (gI v6))]) [1, 2, 3, 4, 5, 0, 6] rfl ?_
  refine gx_kup (kc2 := (kc + 106)) (ks2 := (ks + 636)) (by show (kc + 1) ≤ (kc + 106); omega) (by show (ks + 6) ≤ (ks + 636); omega) ?_
  exact zb_L_law_849 hkc hks hr24 e
set_option maxRecDepth 100000 in
def b_L_law_497 (n : Nat) (L : Nat) (xs : Nat → Int) (r24 : Nat → Nat → Int → Int → Int → Int → gi_H → Option (Int × gi_H)) (v1 : Nat) (v2 : Nat) (v3 : Int) (v4 : Int) (v6 : Int)  (h : gi_H) : Option (Int × gi_H) :=
  b_L_law_498 n L xs r24 v1 v2 v3 v4 v6 (0 : Int) h
set_option maxRecDepth 100000 in
theorem zb_L_law_497 {n : Nat} {L : Nat} {xs : Nat → Int} {r24 : Nat → Nat → Int → Int → Int → Int → gi_H → Option (Int × gi_H)} {res : Int} {h1 : gi_H} {kc ks k : Nat} (hkc : kc + (k + 1) * 2000 ≤ 54186) (hks : ks + (k + 1) * 12000 ≤ 388187) (hr24 : ∀ (kc ks : Nat) (x1 : Nat) (x2 : Nat) (x3 : Int) (x4 : Int) (x5 : Int) (x6 : Int) (hh : gi_H), kc + k * 2000 ≤ 54186 → ks + k * 12000 ≤ 388187 → r24 x1 x2 x3 x4 x5 x6 hh = some (res, h1) → gx_Z (mL_law L xs) false false kc ks 24 [(0, .ref 100000), (1, .ref x1), (2, .ref x2), (3, .int (gI x3)), (4, .int (gI x4)), (5, .int (gI x5)), (6, .int (gI x6))] [] (gi_cv hh) (.inl (some (.int (gI res)))) (gi_cv h1)) {v1 : Nat} {v2 : Nat} {v3 : Int} {v4 : Int} {v6 : Int}  {h : gi_H} (e : b_L_law_497 n L xs r24 v1 v2 v3 v4 v6 h = some (res, h1)) : gx_Z (mL_law L xs) false false (kc + 1) (ks + 6) 497 [(0, .ref 100000), (1, .ref v1), (2, .ref v2), (3, .int (gI v3)), (4, .int (gI v4)), (6, .int (gI v6))] [] (gi_cv h) (.inl (some (.int (gI res)))) (gi_cv h1) := by
  have hKc : 54186 ≤ (gx_rm (mL_law L xs)).cells := Nat.le_of_ble_eq_true rfl
  have hKs : 388187 ≤ (gx_rm (mL_law L xs)).slots := Nat.le_of_ble_eq_true rfl
  refine gy_iconst dL_law_497 ?_
  exact zb_L_law_498 hkc hks hr24 e
set_option maxRecDepth 100000 in
def b_L_law_541 (n : Nat) (L : Nat) (xs : Nat → Int) (r24 : Nat → Nat → Int → Int → Int → Int → gi_H → Option (Int × gi_H)) (v1 : Nat) (v2 : Nat) (v3 : Int) (v4 : Int) (v6 : Int) (s0 : Int) (h : gi_H) : Option (Int × gi_H) :=
  b_L_law_849 n L xs r24 v1 v2 v3 v4 s0 v6 h
set_option maxRecDepth 100000 in
theorem zb_L_law_541 {n : Nat} {L : Nat} {xs : Nat → Int} {r24 : Nat → Nat → Int → Int → Int → Int → gi_H → Option (Int × gi_H)} {res : Int} {h1 : gi_H} {kc ks k : Nat} (hkc : kc + (k + 1) * 2000 ≤ 54186) (hks : ks + (k + 1) * 12000 ≤ 388187) (hr24 : ∀ (kc ks : Nat) (x1 : Nat) (x2 : Nat) (x3 : Int) (x4 : Int) (x5 : Int) (x6 : Int) (hh : gi_H), kc + k * 2000 ≤ 54186 → ks + k * 12000 ≤ 388187 → r24 x1 x2 x3 x4 x5 x6 hh = some (res, h1) → gx_Z (mL_law L xs) false false kc ks 24 [(0, .ref 100000), (1, .ref x1), (2, .ref x2), (3, .int (gI x3)), (4, .int (gI x4)), (5, .int (gI x5)), (6, .int (gI x6))] [] (gi_cv hh) (.inl (some (.int (gI res)))) (gi_cv h1)) {v1 : Nat} {v2 : Nat} {v3 : Int} {v4 : Int} {v6 : Int} {s0 : Int} {h : gi_H} (e : b_L_law_541 n L xs r24 v1 v2 v3 v4 v6 s0 h = some (res, h1)) : gx_Z (mL_law L xs) false false (kc + 2) (ks + 12) 541 [(0, .ref 100000), (1, .ref v1), (2, .ref v2), (3, .int (gI v3)), (4, .int (gI v4)), (6, .int (gI v6))] [.int (gI s0)] (gi_cv h) (.inl (some (.int (gI res)))) (gi_cv h1) := by
  have hKc : 54186 ≤ (gx_rm (mL_law L xs)).cells := Nat.le_of_ble_eq_true rfl
  have hKs : 388187 ≤ (gx_rm (mL_law L xs)).slots := Nat.le_of_ble_eq_true rfl
  refine gx_istore (ls2 := [(5, .int (gI s0)), (0, .ref 100000), (1, .ref v1), (2, .ref v2), (3, .int (gI v3)), (4, .int (gI v4)), (6, .int (gI v6))]) dL_law_541 (Nat.le_of_ble_eq_true rfl) rfl ?_
  refine gx_goto (tgt := 849) dL_law_543 (by decide) ?_
  refine gx_sub (ls2 := [(0, .ref 100000), (1, .ref v1), (2, .ref v2), (3, .int (gI v3)), (4, .int (gI v4)), (5, .int (gI s0)), (6, .int (gI v6))]) [1, 2, 3, 4, 5, 0, 6] rfl ?_
  refine gx_kup (kc2 := (kc + 106)) (ks2 := (ks + 636)) (by show (kc + 2) ≤ (kc + 106); omega) (by show (ks + 12) ≤ (ks + 636); omega) ?_
  exact zb_L_law_849 hkc hks hr24 e
set_option maxRecDepth 100000 in
def b_L_law_540 (n : Nat) (L : Nat) (xs : Nat → Int) (r24 : Nat → Nat → Int → Int → Int → Int → gi_H → Option (Int × gi_H)) (v1 : Nat) (v2 : Nat) (v3 : Int) (v4 : Int) (v6 : Int)  (h : gi_H) : Option (Int × gi_H) :=
  b_L_law_541 n L xs r24 v1 v2 v3 v4 v6 (0 : Int) h
set_option maxRecDepth 100000 in
theorem zb_L_law_540 {n : Nat} {L : Nat} {xs : Nat → Int} {r24 : Nat → Nat → Int → Int → Int → Int → gi_H → Option (Int × gi_H)} {res : Int} {h1 : gi_H} {kc ks k : Nat} (hkc : kc + (k + 1) * 2000 ≤ 54186) (hks : ks + (k + 1) * 12000 ≤ 388187) (hr24 : ∀ (kc ks : Nat) (x1 : Nat) (x2 : Nat) (x3 : Int) (x4 : Int) (x5 : Int) (x6 : Int) (hh : gi_H), kc + k * 2000 ≤ 54186 → ks + k * 12000 ≤ 388187 → r24 x1 x2 x3 x4 x5 x6 hh = some (res, h1) → gx_Z (mL_law L xs) false false kc ks 24 [(0, .ref 100000), (1, .ref x1), (2, .ref x2), (3, .int (gI x3)), (4, .int (gI x4)), (5, .int (gI x5)), (6, .int (gI x6))] [] (gi_cv hh) (.inl (some (.int (gI res)))) (gi_cv h1)) {v1 : Nat} {v2 : Nat} {v3 : Int} {v4 : Int} {v6 : Int}  {h : gi_H} (e : b_L_law_540 n L xs r24 v1 v2 v3 v4 v6 h = some (res, h1)) : gx_Z (mL_law L xs) false false (kc + 2) (ks + 12) 540 [(0, .ref 100000), (1, .ref v1), (2, .ref v2), (3, .int (gI v3)), (4, .int (gI v4)), (6, .int (gI v6))] [] (gi_cv h) (.inl (some (.int (gI res)))) (gi_cv h1) := by
  have hKc : 54186 ≤ (gx_rm (mL_law L xs)).cells := Nat.le_of_ble_eq_true rfl
  have hKs : 388187 ≤ (gx_rm (mL_law L xs)).slots := Nat.le_of_ble_eq_true rfl
  refine gy_iconst dL_law_540 ?_
  exact zb_L_law_541 hkc hks hr24 e
set_option maxRecDepth 100000 in
def b_L_law_615 (n : Nat) (L : Nat) (xs : Nat → Int) (r24 : Nat → Nat → Int → Int → Int → Int → gi_H → Option (Int × gi_H)) (v1 : Nat) (v2 : Nat) (v3 : Int) (v4 : Int) (v6 : Int) (s0 : Int) (h : gi_H) : Option (Int × gi_H) :=
  b_L_law_849 n L xs r24 v1 v2 v3 v4 s0 v6 h
set_option maxRecDepth 100000 in
theorem zb_L_law_615 {n : Nat} {L : Nat} {xs : Nat → Int} {r24 : Nat → Nat → Int → Int → Int → Int → gi_H → Option (Int × gi_H)} {res : Int} {h1 : gi_H} {kc ks k : Nat} (hkc : kc + (k + 1) * 2000 ≤ 54186) (hks : ks + (k + 1) * 12000 ≤ 388187) (hr24 : ∀ (kc ks : Nat) (x1 : Nat) (x2 : Nat) (x3 : Int) (x4 : Int) (x5 : Int) (x6 : Int) (hh : gi_H), kc + k * 2000 ≤ 54186 → ks + k * 12000 ≤ 388187 → r24 x1 x2 x3 x4 x5 x6 hh = some (res, h1) → gx_Z (mL_law L xs) false false kc ks 24 [(0, .ref 100000), (1, .ref x1), (2, .ref x2), (3, .int (gI x3)), (4, .int (gI x4)), (5, .int (gI x5)), (6, .int (gI x6))] [] (gi_cv hh) (.inl (some (.int (gI res)))) (gi_cv h1)) {v1 : Nat} {v2 : Nat} {v3 : Int} {v4 : Int} {v6 : Int} {s0 : Int} {h : gi_H} (e : b_L_law_615 n L xs r24 v1 v2 v3 v4 v6 s0 h = some (res, h1)) : gx_Z (mL_law L xs) false false (kc + 2) (ks + 12) 615 [(0, .ref 100000), (1, .ref v1), (2, .ref v2), (3, .int (gI v3)), (4, .int (gI v4)), (6, .int (gI v6))] [.int (gI s0)] (gi_cv h) (.inl (some (.int (gI res)))) (gi_cv h1) := by
  have hKc : 54186 ≤ (gx_rm (mL_law L xs)).cells := Nat.le_of_ble_eq_true rfl
  have hKs : 388187 ≤ (gx_rm (mL_law L xs)).slots := Nat.le_of_ble_eq_true rfl
  refine gx_istore (ls2 := [(5, .int (gI s0)), (0, .ref 100000), (1, .ref v1), (2, .ref v2), (3, .int (gI v3)), (4, .int (gI v4)), (6, .int (gI v6))]) dL_law_615 (Nat.le_of_ble_eq_true rfl) rfl ?_
  refine gx_goto (tgt := 849) dL_law_617 (by decide) ?_
  refine gx_sub (ls2 := [(0, .ref 100000), (1, .ref v1), (2, .ref v2), (3, .int (gI v3)), (4, .int (gI v4)), (5, .int (gI s0)), (6, .int (gI v6))]) [1, 2, 3, 4, 5, 0, 6] rfl ?_
  refine gx_kup (kc2 := (kc + 106)) (ks2 := (ks + 636)) (by show (kc + 2) ≤ (kc + 106); omega) (by show (ks + 12) ≤ (ks + 636); omega) ?_
  exact zb_L_law_849 hkc hks hr24 e
set_option maxRecDepth 100000 in
def b_L_law_614 (n : Nat) (L : Nat) (xs : Nat → Int) (r24 : Nat → Nat → Int → Int → Int → Int → gi_H → Option (Int × gi_H)) (v1 : Nat) (v2 : Nat) (v3 : Int) (v4 : Int) (v6 : Int)  (h : gi_H) : Option (Int × gi_H) :=
  b_L_law_615 n L xs r24 v1 v2 v3 v4 v6 (0 : Int) h
set_option maxRecDepth 100000 in
theorem zb_L_law_614 {n : Nat} {L : Nat} {xs : Nat → Int} {r24 : Nat → Nat → Int → Int → Int → Int → gi_H → Option (Int × gi_H)} {res : Int} {h1 : gi_H} {kc ks k : Nat} (hkc : kc + (k + 1) * 2000 ≤ 54186) (hks : ks + (k + 1) * 12000 ≤ 388187) (hr24 : ∀ (kc ks : Nat) (x1 : Nat) (x2 : Nat) (x3 : Int) (x4 : Int) (x5 : Int) (x6 : Int) (hh : gi_H), kc + k * 2000 ≤ 54186 → ks + k * 12000 ≤ 388187 → r24 x1 x2 x3 x4 x5 x6 hh = some (res, h1) → gx_Z (mL_law L xs) false false kc ks 24 [(0, .ref 100000), (1, .ref x1), (2, .ref x2), (3, .int (gI x3)), (4, .int (gI x4)), (5, .int (gI x5)), (6, .int (gI x6))] [] (gi_cv hh) (.inl (some (.int (gI res)))) (gi_cv h1)) {v1 : Nat} {v2 : Nat} {v3 : Int} {v4 : Int} {v6 : Int}  {h : gi_H} (e : b_L_law_614 n L xs r24 v1 v2 v3 v4 v6 h = some (res, h1)) : gx_Z (mL_law L xs) false false (kc + 2) (ks + 12) 614 [(0, .ref 100000), (1, .ref v1), (2, .ref v2), (3, .int (gI v3)), (4, .int (gI v4)), (6, .int (gI v6))] [] (gi_cv h) (.inl (some (.int (gI res)))) (gi_cv h1) := by
  have hKc : 54186 ≤ (gx_rm (mL_law L xs)).cells := Nat.le_of_ble_eq_true rfl
  have hKs : 388187 ≤ (gx_rm (mL_law L xs)).slots := Nat.le_of_ble_eq_true rfl
  refine gy_iconst dL_law_614 ?_
  exact zb_L_law_615 hkc hks hr24 e
set_option maxRecDepth 100000 in
def b_L_law_847 (n : Nat) (L : Nat) (xs : Nat → Int) (r24 : Nat → Nat → Int → Int → Int → Int → gi_H → Option (Int × gi_H)) (v1 : Nat) (v2 : Nat) (v3 : Int) (v4 : Int) (v6 : Int) (s0 : Int) (h : gi_H) : Option (Int × gi_H) :=
  b_L_law_849 n L xs r24 v1 v2 v3 v4 s0 v6 h
set_option maxRecDepth 100000 in
theorem zb_L_law_847 {n : Nat} {L : Nat} {xs : Nat → Int} {r24 : Nat → Nat → Int → Int → Int → Int → gi_H → Option (Int × gi_H)} {res : Int} {h1 : gi_H} {kc ks k : Nat} (hkc : kc + (k + 1) * 2000 ≤ 54186) (hks : ks + (k + 1) * 12000 ≤ 388187) (hr24 : ∀ (kc ks : Nat) (x1 : Nat) (x2 : Nat) (x3 : Int) (x4 : Int) (x5 : Int) (x6 : Int) (hh : gi_H), kc + k * 2000 ≤ 54186 → ks + k * 12000 ≤ 388187 → r24 x1 x2 x3 x4 x5 x6 hh = some (res, h1) → gx_Z (mL_law L xs) false false kc ks 24 [(0, .ref 100000), (1, .ref x1), (2, .ref x2), (3, .int (gI x3)), (4, .int (gI x4)), (5, .int (gI x5)), (6, .int (gI x6))] [] (gi_cv hh) (.inl (some (.int (gI res)))) (gi_cv h1)) {v1 : Nat} {v2 : Nat} {v3 : Int} {v4 : Int} {v6 : Int} {s0 : Int} {h : gi_H} (e : b_L_law_847 n L xs r24 v1 v2 v3 v4 v6 s0 h = some (res, h1)) : gx_Z (mL_law L xs) false false (kc + 1) (ks + 6) 847 [(0, .ref 100000), (1, .ref v1), (2, .ref v2), (3, .int (gI v3)), (4, .int (gI v4)), (6, .int (gI v6))] [.int (gI s0)] (gi_cv h) (.inl (some (.int (gI res)))) (gi_cv h1) := by
  have hKc : 54186 ≤ (gx_rm (mL_law L xs)).cells := Nat.le_of_ble_eq_true rfl
  have hKs : 388187 ≤ (gx_rm (mL_law L xs)).slots := Nat.le_of_ble_eq_true rfl
  refine gx_istore (ls2 := [(5, .int (gI s0)), (0, .ref 100000), (1, .ref v1), (2, .ref v2), (3, .int (gI v3)), (4, .int (gI v4)), (6, .int (gI v6))]) dL_law_847 (Nat.le_of_ble_eq_true rfl) rfl ?_
  refine gx_sub (ls2 := [(0, .ref 100000), (1, .ref v1), (2, .ref v2), (3, .int (gI v3)), (4, .int (gI v4)), (5, .int (gI s0)), (6, .int (gI v6))]) [1, 2, 3, 4, 5, 0, 6] rfl ?_
  refine gx_kup (kc2 := (kc + 106)) (ks2 := (ks + 636)) (by show (kc + 1) ≤ (kc + 106); omega) (by show (ks + 6) ≤ (ks + 636); omega) ?_
  exact zb_L_law_849 hkc hks hr24 e
set_option maxRecDepth 100000 in
def b_L_law_846 (n : Nat) (L : Nat) (xs : Nat → Int) (r24 : Nat → Nat → Int → Int → Int → Int → gi_H → Option (Int × gi_H)) (v1 : Nat) (v2 : Nat) (v3 : Int) (v4 : Int) (v6 : Int)  (h : gi_H) : Option (Int × gi_H) :=
  b_L_law_847 n L xs r24 v1 v2 v3 v4 v6 (0 : Int) h
set_option maxRecDepth 100000 in
theorem zb_L_law_846 {n : Nat} {L : Nat} {xs : Nat → Int} {r24 : Nat → Nat → Int → Int → Int → Int → gi_H → Option (Int × gi_H)} {res : Int} {h1 : gi_H} {kc ks k : Nat} (hkc : kc + (k + 1) * 2000 ≤ 54186) (hks : ks + (k + 1) * 12000 ≤ 388187) (hr24 : ∀ (kc ks : Nat) (x1 : Nat) (x2 : Nat) (x3 : Int) (x4 : Int) (x5 : Int) (x6 : Int) (hh : gi_H), kc + k * 2000 ≤ 54186 → ks + k * 12000 ≤ 388187 → r24 x1 x2 x3 x4 x5 x6 hh = some (res, h1) → gx_Z (mL_law L xs) false false kc ks 24 [(0, .ref 100000), (1, .ref x1), (2, .ref x2), (3, .int (gI x3)), (4, .int (gI x4)), (5, .int (gI x5)), (6, .int (gI x6))] [] (gi_cv hh) (.inl (some (.int (gI res)))) (gi_cv h1)) {v1 : Nat} {v2 : Nat} {v3 : Int} {v4 : Int} {v6 : Int}  {h : gi_H} (e : b_L_law_846 n L xs r24 v1 v2 v3 v4 v6 h = some (res, h1)) : gx_Z (mL_law L xs) false false (kc + 1) (ks + 6) 846 [(0, .ref 100000), (1, .ref v1), (2, .ref v2), (3, .int (gI v3)), (4, .int (gI v4)), (6, .int (gI v6))] [] (gi_cv h) (.inl (some (.int (gI res)))) (gi_cv h1) := by
  have hKc : 54186 ≤ (gx_rm (mL_law L xs)).cells := Nat.le_of_ble_eq_true rfl
  have hKs : 388187 ≤ (gx_rm (mL_law L xs)).slots := Nat.le_of_ble_eq_true rfl
  refine gy_iconst dL_law_846 ?_
  exact zb_L_law_847 hkc hks hr24 e
set_option maxRecDepth 100000 in
def b_L_law_842 (n : Nat) (L : Nat) (xs : Nat → Int) (r24 : Nat → Nat → Int → Int → Int → Int → gi_H → Option (Int × gi_H)) (v1 : Nat) (v2 : Nat) (v3 : Int) (v4 : Int) (v6 : Int)  (h : gi_H) : Option (Int × gi_H) :=
  b_L_law_847 n L xs r24 v1 v2 v3 v4 v6 (1 : Int) h
set_option maxRecDepth 100000 in
theorem zb_L_law_842 {n : Nat} {L : Nat} {xs : Nat → Int} {r24 : Nat → Nat → Int → Int → Int → Int → gi_H → Option (Int × gi_H)} {res : Int} {h1 : gi_H} {kc ks k : Nat} (hkc : kc + (k + 1) * 2000 ≤ 54186) (hks : ks + (k + 1) * 12000 ≤ 388187) (hr24 : ∀ (kc ks : Nat) (x1 : Nat) (x2 : Nat) (x3 : Int) (x4 : Int) (x5 : Int) (x6 : Int) (hh : gi_H), kc + k * 2000 ≤ 54186 → ks + k * 12000 ≤ 388187 → r24 x1 x2 x3 x4 x5 x6 hh = some (res, h1) → gx_Z (mL_law L xs) false false kc ks 24 [(0, .ref 100000), (1, .ref x1), (2, .ref x2), (3, .int (gI x3)), (4, .int (gI x4)), (5, .int (gI x5)), (6, .int (gI x6))] [] (gi_cv hh) (.inl (some (.int (gI res)))) (gi_cv h1)) {v1 : Nat} {v2 : Nat} {v3 : Int} {v4 : Int} {v6 : Int}  {h : gi_H} (e : b_L_law_842 n L xs r24 v1 v2 v3 v4 v6 h = some (res, h1)) : gx_Z (mL_law L xs) false false (kc + 1) (ks + 6) 842 [(0, .ref 100000), (1, .ref v1), (2, .ref v2), (3, .int (gI v3)), (4, .int (gI v4)), (6, .int (gI v6))] [] (gi_cv h) (.inl (some (.int (gI res)))) (gi_cv h1) := by
  have hKc : 54186 ≤ (gx_rm (mL_law L xs)).cells := Nat.le_of_ble_eq_true rfl
  have hKs : 388187 ≤ (gx_rm (mL_law L xs)).slots := Nat.le_of_ble_eq_true rfl
  refine gy_iconst dL_law_842 ?_
  refine gx_goto (tgt := 847) dL_law_843 (by decide) ?_
  exact zb_L_law_847 hkc hks hr24 e
set_option maxRecDepth 100000 in
def b_L_law_779 (n : Nat) (L : Nat) (xs : Nat → Int) (r24 : Nat → Nat → Int → Int → Int → Int → gi_H → Option (Int × gi_H)) (v1 : Nat) (v2 : Nat) (v3 : Int) (v4 : Int) (v6 : Int) (v10 : Int) (s0 : Int) (h : gi_H) : Option (Int × gi_H) :=
  gx_nm (v4 + (-1 : Int)) fun t125 => Option.bind (gi_is h v1 9) fun _ => Option.bind (f_X11_repair n v1 h) fun q127 => Option.bind (gi_rg s0) fun _ => if s0 = 0 then (b_L_law_846 n L xs r24 v1 v2 v3 t125 v6 q127.2) else (Option.bind (gi_rg v10) fun _ => if v10 = (-1 : Int) then (Option.bind (gi_rg q127.1) fun _ => if q127.1 = (-1 : Int) then (b_L_law_842 n L xs r24 v1 v2 v3 t125 v6 q127.2) else (b_L_law_846 n L xs r24 v1 v2 v3 t125 v6 q127.2)) else (if v10 = (99 : Int) then (b_L_law_842 n L xs r24 v1 v2 v3 t125 v6 q127.2) else (Option.bind (gi_rg q127.1) fun _ => if q127.1 = (99 : Int) then (b_L_law_842 n L xs r24 v1 v2 v3 t125 v6 q127.2) else (Option.bind (gi_rg (q127.1 - v10)) fun _ => if (1 : Int) < (q127.1 - v10) then (b_L_law_846 n L xs r24 v1 v2 v3 t125 v6 q127.2) else (Option.bind (gi_rg (v10 - q127.1)) fun _ => if (1 : Int) < (v10 - q127.1) then (b_L_law_846 n L xs r24 v1 v2 v3 t125 v6 q127.2) else (b_L_law_842 n L xs r24 v1 v2 v3 t125 v6 q127.2))))))
set_option maxRecDepth 100000 in
theorem zb_L_law_779 {n : Nat} {L : Nat} {xs : Nat → Int} {r24 : Nat → Nat → Int → Int → Int → Int → gi_H → Option (Int × gi_H)} {res : Int} {h1 : gi_H} {kc ks k : Nat} (hkc : kc + (k + 1) * 2000 ≤ 54186) (hks : ks + (k + 1) * 12000 ≤ 388187) (hr24 : ∀ (kc ks : Nat) (x1 : Nat) (x2 : Nat) (x3 : Int) (x4 : Int) (x5 : Int) (x6 : Int) (hh : gi_H), kc + k * 2000 ≤ 54186 → ks + k * 12000 ≤ 388187 → r24 x1 x2 x3 x4 x5 x6 hh = some (res, h1) → gx_Z (mL_law L xs) false false kc ks 24 [(0, .ref 100000), (1, .ref x1), (2, .ref x2), (3, .int (gI x3)), (4, .int (gI x4)), (5, .int (gI x5)), (6, .int (gI x6))] [] (gi_cv hh) (.inl (some (.int (gI res)))) (gi_cv h1)) {v1 : Nat} {v2 : Nat} {v3 : Int} {v4 : Int} {v6 : Int} {v10 : Int} {s0 : Int} {h : gi_H} (e : b_L_law_779 n L xs r24 v1 v2 v3 v4 v6 v10 s0 h = some (res, h1)) : gx_Z (mL_law L xs) false false (kc + 1) (ks + 6) 779 [(0, .ref 100000), (1, .ref v1), (2, .ref v2), (3, .int (gI v3)), (4, .int (gI v4)), (6, .int (gI v6)), (10, .int (gI v10))] [.int (gI s0)] (gi_cv h) (.inl (some (.int (gI res)))) (gi_cv h1) := by
  have hKc : 54186 ≤ (gx_rm (mL_law L xs)).cells := Nat.le_of_ble_eq_true rfl
  have hKs : 388187 ≤ (gx_rm (mL_law L xs)).slots := Nat.le_of_ble_eq_true rfl
  refine gx_istore (ls2 := [(5, .int (gI s0)), (0, .ref 100000), (1, .ref v1), (2, .ref v2), (3, .int (gI v3)), (4, .int (gI v4)), (6, .int (gI v6)), (10, .int (gI v10))]) dL_law_779 (Nat.le_of_ble_eq_true rfl) rfl ?_
  refine gx_nE e (fun t125 ht125 e => ?_)
  refine gy_iinc (v := t125) (ls2 := [(4, .int (gI t125)), (5, .int (gI s0)), (0, .ref 100000), (1, .ref v1), (2, .ref v2), (3, .int (gI v3)), (6, .int (gI v6)), (10, .int (gI v10))]) dL_law_781 5 rfl ht125 (Nat.le_of_ble_eq_true rfl) rfl ?_
  refine gx_aload_n dL_law_784 rfl 3 rfl ?_
  refine gx_bE e (fun _ hu126 e => ?_)
  refine gx_bE e (fun q127 hq127 e => ?_)
  refine gx_callV (n := 0) (st := []) (As := []) (b := v1) dL_law_785 (z_X11_repair hq127) rfl ⟨rfl, gw_cw_X11_repair, gw_1, gp_X11_repair, ⟨Nat.le_of_ble_eq_true rfl, Nat.le_of_ble_eq_true rfl⟩⟩ (gi_isS hu126) (by decide) gw_387 gw_388 gw_389 rfl ⟨by show (kc + 1) ≤ _; omega, by show (ks + 6) ≤ _; omega⟩ (Nat.le_of_ble_eq_true rfl) (gy_k1 (x := .int (gI q127.1)) (kc2 := (kc + 1)) (ks2 := (ks + 6)) ⟨rfl, rfl⟩ ?_) gy_kn
  refine gx_istore (ls2 := [(12, .int (gI q127.1)), (4, .int (gI t125)), (5, .int (gI s0)), (0, .ref 100000), (1, .ref v1), (2, .ref v2), (3, .int (gI v3)), (6, .int (gI v6)), (10, .int (gI v10))]) dL_law_788 (Nat.le_of_ble_eq_true rfl) rfl ?_
  refine gx_iload dL_law_790 2 rfl ?_
  refine gx_bE e (fun _ g128 e => ?_)
  refine gx_iE e (fun c129 e => ?_) (fun c129 e => ?_)
  · refine gy_if_eq (tgt := 846) (gi_rgS g128) dL_law_792 (by decide) (fun _ => ?_) (fun z => absurd c129 z)
    refine gx_sub (ls2 := [(0, .ref 100000), (1, .ref v1), (2, .ref v2), (3, .int (gI v3)), (4, .int (gI t125)), (6, .int (gI v6))]) [3, 4, 5, 6, 1, 7] rfl ?_
    exact zb_L_law_846 hkc hks hr24 e
  · refine gy_if_eq (tgt := 846) (gi_rgS g128) dL_law_792 (by decide) (fun z => absurd z c129) (fun _ => ?_)
    refine gx_iload dL_law_795 8 rfl ?_
    refine gy_iconst dL_law_797 ?_
    refine gx_bE e (fun _ g130 e => ?_)
    refine gx_iE e (fun c131 e => ?_) (fun c131 e => ?_)
    · refine gy_icmp_ne (tgt := 810) (gi_rgS g130) (by decide) dL_law_798 (by decide) (fun z => absurd c131 z) (fun _ => ?_)
      refine gx_iload dL_law_801 0 rfl ?_
      refine gy_iconst dL_law_803 ?_
      refine gx_bE e (fun _ g132 e => ?_)
      refine gx_iE e (fun c133 e => ?_) (fun c133 e => ?_)
      · refine gy_icmp_ne (tgt := 846) (gi_rgS g132) (by decide) dL_law_804 (by decide) (fun z => absurd c133 z) (fun _ => ?_)
        refine gx_goto (tgt := 842) dL_law_807 (by decide) ?_
        refine gx_sub (ls2 := [(0, .ref 100000), (1, .ref v1), (2, .ref v2), (3, .int (gI v3)), (4, .int (gI t125)), (6, .int (gI v6))]) [3, 4, 5, 6, 1, 7] rfl ?_
        exact zb_L_law_842 hkc hks hr24 e
      · refine gy_icmp_ne (tgt := 846) (gi_rgS g132) (by decide) dL_law_804 (by decide) (fun _ => ?_) (fun z => absurd z c133)
        refine gx_sub (ls2 := [(0, .ref 100000), (1, .ref v1), (2, .ref v2), (3, .int (gI v3)), (4, .int (gI t125)), (6, .int (gI v6))]) [3, 4, 5, 6, 1, 7] rfl ?_
        exact zb_L_law_846 hkc hks hr24 e
    · refine gy_icmp_ne (tgt := 810) (gi_rgS g130) (by decide) dL_law_798 (by decide) (fun _ => ?_) (fun z => absurd z c131)
      refine gx_iload dL_law_810 8 rfl ?_
      refine gy_bipush dL_law_812 gcb_99 ?_
      refine gx_iE e (fun c134 e => ?_) (fun c134 e => ?_)
      · refine gy_icmp_eq (tgt := 842) (gi_rgS g130) (by decide) dL_law_814 (by decide) (fun _ => ?_) (fun z => absurd c134 z)
        refine gx_sub (ls2 := [(0, .ref 100000), (1, .ref v1), (2, .ref v2), (3, .int (gI v3)), (4, .int (gI t125)), (6, .int (gI v6))]) [3, 4, 5, 6, 1, 7] rfl ?_
        exact zb_L_law_842 hkc hks hr24 e
      · refine gy_icmp_eq (tgt := 842) (gi_rgS g130) (by decide) dL_law_814 (by decide) (fun z => absurd z c134) (fun _ => ?_)
        refine gx_iload dL_law_817 0 rfl ?_
        refine gy_bipush dL_law_819 gcb_99 ?_
        refine gx_bE e (fun _ g135 e => ?_)
        refine gx_iE e (fun c136 e => ?_) (fun c136 e => ?_)
        · refine gy_icmp_eq (tgt := 842) (gi_rgS g135) (by decide) dL_law_821 (by decide) (fun _ => ?_) (fun z => absurd c136 z)
          refine gx_sub (ls2 := [(0, .ref 100000), (1, .ref v1), (2, .ref v2), (3, .int (gI v3)), (4, .int (gI t125)), (6, .int (gI v6))]) [3, 4, 5, 6, 1, 7] rfl ?_
          exact zb_L_law_842 hkc hks hr24 e
        · refine gy_icmp_eq (tgt := 842) (gi_rgS g135) (by decide) dL_law_821 (by decide) (fun z => absurd z c136) (fun _ => ?_)
          refine gx_iload dL_law_824 0 rfl ?_
          refine gx_iload dL_law_826 8 rfl ?_
          refine gy_isub dL_law_828 ?_
          refine gy_iconst dL_law_829 ?_
          refine gx_bE e (fun _ g137 e => ?_)
          refine gx_iE e (fun c138 e => ?_) (fun c138 e => ?_)
          · refine gy_icmp_gt (tgt := 846) (gi_rgS g137) (by decide) dL_law_830 (by decide) (fun _ => ?_) (fun z => absurd c138 z)
            refine gx_sub (ls2 := [(0, .ref 100000), (1, .ref v1), (2, .ref v2), (3, .int (gI v3)), (4, .int (gI t125)), (6, .int (gI v6))]) [3, 4, 5, 6, 1, 7] rfl ?_
            exact zb_L_law_846 hkc hks hr24 e
          · refine gy_icmp_gt (tgt := 846) (gi_rgS g137) (by decide) dL_law_830 (by decide) (fun z => absurd z c138) (fun _ => ?_)
            refine gx_iload dL_law_833 8 rfl ?_
            refine gx_iload dL_law_835 0 rfl ?_
            refine gy_isub dL_law_837 ?_
            refine gy_iconst dL_law_838 ?_
            refine gx_bE e (fun _ g139 e => ?_)
            refine gx_iE e (fun c140 e => ?_) (fun c140 e => ?_)
            · refine gy_icmp_gt (tgt := 846) (gi_rgS g139) (by decide) dL_law_839 (by decide) (fun _ => ?_) (fun z => absurd c140 z)
              refine gx_sub (ls2 := [(0, .ref 100000), (1, .ref v1), (2, .ref v2), (3, .int (gI v3)), (4, .int (gI t125)), (6, .int (gI v6))]) [3, 4, 5, 6, 1, 7] rfl ?_
              exact zb_L_law_846 hkc hks hr24 e
            · refine gy_icmp_gt (tgt := 846) (gi_rgS g139) (by decide) dL_law_839 (by decide) (fun z => absurd z c140) (fun _ => ?_)
              refine gx_sub (ls2 := [(0, .ref 100000), (1, .ref v1), (2, .ref v2), (3, .int (gI v3)), (4, .int (gI t125)), (6, .int (gI v6))]) [3, 4, 5, 6, 1, 7] rfl ?_
              exact zb_L_law_842 hkc hks hr24 e
set_option maxRecDepth 100000 in
def b_L_law_747 (n : Nat) (L : Nat) (xs : Nat → Int) (r24 : Nat → Nat → Int → Int → Int → Int → gi_H → Option (Int × gi_H)) (v1 : Nat) (v2 : Nat) (v3 : Int) (v4 : Int) (v5 : Int) (v6 : Int) (v8 : Int)  (h : gi_H) : Option (Int × gi_H) :=
  Option.bind (gi_rg v4) fun _ => if v4 ≤ 0 then (b_L_law_849 n L xs r24 v1 v2 v3 v4 v5 v6 h) else (Option.bind (gi_is h v1 9) fun _ => Option.bind (f_X11_repair n v1 h) fun q119 => Option.bind (gi_dg v8 v4) fun _ => gx_nm (v8 % v4) fun t121 => Option.bind (f_L_cut n v1 t121 q119.2) fun q122 => Option.bind (gi_rg q122.1) fun _ => if q122.1 < 0 then (b_L_law_779 n L xs r24 v1 v2 v3 v4 v6 q119.1 (0 : Int) q122.2) else (b_L_law_779 n L xs r24 v1 v2 v3 v4 v6 q119.1 (1 : Int) q122.2))
set_option maxRecDepth 100000 in
theorem zb_L_law_747 {n : Nat} {L : Nat} {xs : Nat → Int} {r24 : Nat → Nat → Int → Int → Int → Int → gi_H → Option (Int × gi_H)} {res : Int} {h1 : gi_H} {kc ks k : Nat} (hkc : kc + (k + 1) * 2000 ≤ 54186) (hks : ks + (k + 1) * 12000 ≤ 388187) (hr24 : ∀ (kc ks : Nat) (x1 : Nat) (x2 : Nat) (x3 : Int) (x4 : Int) (x5 : Int) (x6 : Int) (hh : gi_H), kc + k * 2000 ≤ 54186 → ks + k * 12000 ≤ 388187 → r24 x1 x2 x3 x4 x5 x6 hh = some (res, h1) → gx_Z (mL_law L xs) false false kc ks 24 [(0, .ref 100000), (1, .ref x1), (2, .ref x2), (3, .int (gI x3)), (4, .int (gI x4)), (5, .int (gI x5)), (6, .int (gI x6))] [] (gi_cv hh) (.inl (some (.int (gI res)))) (gi_cv h1)) {v1 : Nat} {v2 : Nat} {v3 : Int} {v4 : Int} {v5 : Int} {v6 : Int} {v8 : Int}  {h : gi_H} (e : b_L_law_747 n L xs r24 v1 v2 v3 v4 v5 v6 v8 h = some (res, h1)) : gx_Z (mL_law L xs) false false kc ks 747 [(0, .ref 100000), (1, .ref v1), (2, .ref v2), (3, .int (gI v3)), (4, .int (gI v4)), (5, .int (gI v5)), (6, .int (gI v6)), (8, .int (gI v8))] [] (gi_cv h) (.inl (some (.int (gI res)))) (gi_cv h1) := by
  have hKc : 54186 ≤ (gx_rm (mL_law L xs)).cells := Nat.le_of_ble_eq_true rfl
  have hKs : 388187 ≤ (gx_rm (mL_law L xs)).slots := Nat.le_of_ble_eq_true rfl
  refine gx_iload dL_law_747 4 rfl ?_
  refine gx_bE e (fun _ g116 e => ?_)
  refine gx_iE e (fun c117 e => ?_) (fun c117 e => ?_)
  · refine gy_if_le (tgt := 849) (gi_rgS g116) dL_law_749 (by decide) (fun _ => ?_) (fun z => absurd c117 z)
    refine gx_sub (ls2 := [(0, .ref 100000), (1, .ref v1), (2, .ref v2), (3, .int (gI v3)), (4, .int (gI v4)), (5, .int (gI v5)), (6, .int (gI v6))]) [0, 1, 2, 3, 4, 5, 6] rfl ?_
    refine gx_kup (kc2 := (kc + 106)) (ks2 := (ks + 636)) (by show kc ≤ (kc + 106); omega) (by show ks ≤ (ks + 636); omega) ?_
    exact zb_L_law_849 hkc hks hr24 e
  · refine gy_if_le (tgt := 849) (gi_rgS g116) dL_law_749 (by decide) (fun z => absurd z c117) (fun _ => ?_)
    refine gx_aload_n dL_law_752 rfl 1 rfl ?_
    refine gx_bE e (fun _ hu118 e => ?_)
    refine gx_bE e (fun q119 hq119 e => ?_)
    refine gx_callV (n := 0) (st := []) (As := []) (b := v1) dL_law_753 (z_X11_repair hq119) rfl ⟨rfl, gw_cw_X11_repair, gw_1, gp_X11_repair, ⟨Nat.le_of_ble_eq_true rfl, Nat.le_of_ble_eq_true rfl⟩⟩ (gi_isS hu118) (by decide) gw_387 gw_388 gw_389 rfl ⟨by show kc ≤ _; omega, by show ks ≤ _; omega⟩ (Nat.le_of_ble_eq_true rfl) (gy_k1 (x := .int (gI q119.1)) (kc2 := kc) (ks2 := ks) ⟨rfl, rfl⟩ ?_) gy_kn
    refine gx_istore (ls2 := [(10, .int (gI q119.1)), (0, .ref 100000), (1, .ref v1), (2, .ref v2), (3, .int (gI v3)), (4, .int (gI v4)), (5, .int (gI v5)), (6, .int (gI v6)), (8, .int (gI v8))]) dL_law_756 (Nat.le_of_ble_eq_true rfl) rfl ?_
    refine gx_iload dL_law_758 8 rfl ?_
    refine gx_iload dL_law_760 5 rfl ?_
    refine gx_bE e (fun _ hu120 e => ?_)
    refine gy_irem hu120 dL_law_762 ?_
    refine gx_nE e (fun t121 ht121 e => ?_)
    rw [ht121]
    refine gx_istore (ls2 := [(11, .int (gI t121)), (10, .int (gI q119.1)), (0, .ref 100000), (1, .ref v1), (2, .ref v2), (3, .int (gI v3)), (4, .int (gI v4)), (5, .int (gI v5)), (6, .int (gI v6)), (8, .int (gI v8))]) dL_law_763 (Nat.le_of_ble_eq_true rfl) rfl ?_
    refine gx_aload_n dL_law_765 rfl 3 rfl ?_
    refine gx_iload dL_law_766 0 rfl ?_
    refine gx_bE e (fun q122 hq122 e => ?_)
    refine gx_callSW (n := 2) (st := []) (As := [.ref v1, .int (gI t121)]) dL_law_768 (z_L_cut hq122) rfl ⟨(by decide +kernel), gw_cw_L_cut, gw_0, gp_L_cut, ⟨Nat.le_of_ble_eq_true rfl, Nat.le_of_ble_eq_true rfl⟩⟩ gw_936 gw_937 ⟨by show (kc + 1) ≤ _; omega, by show (ks + 6) ≤ _; omega⟩ (Nat.le_of_ble_eq_true rfl) (gy_k1 (x := .int (gI q122.1)) (kc2 := (kc + 1)) (ks2 := (ks + 6)) ⟨rfl, rfl⟩ ?_)
    refine gx_bE e (fun _ g123 e => ?_)
    refine gx_iE e (fun c124 e => ?_) (fun c124 e => ?_)
    · refine gy_if_lt (tgt := 778) (gi_rgS g123) dL_law_771 (by decide) (fun _ => ?_) (fun z => absurd c124 z)
      refine gy_iconst dL_law_778 ?_
      refine gx_sub (ls2 := [(0, .ref 100000), (1, .ref v1), (2, .ref v2), (3, .int (gI v3)), (4, .int (gI v4)), (6, .int (gI v6)), (10, .int (gI q119.1))]) [2, 3, 4, 5, 6, 8, 1] rfl ?_
      exact zb_L_law_779 hkc hks hr24 e
    · refine gy_if_lt (tgt := 778) (gi_rgS g123) dL_law_771 (by decide) (fun z => absurd z c124) (fun _ => ?_)
      refine gy_iconst dL_law_774 ?_
      refine gx_goto (tgt := 779) dL_law_775 (by decide) ?_
      refine gx_sub (ls2 := [(0, .ref 100000), (1, .ref v1), (2, .ref v2), (3, .int (gI v3)), (4, .int (gI v4)), (6, .int (gI v6)), (10, .int (gI q119.1))]) [2, 3, 4, 5, 6, 8, 1] rfl ?_
      exact zb_L_law_779 hkc hks hr24 e
set_option maxRecDepth 100000 in
def b_L_law_742 (n : Nat) (L : Nat) (xs : Nat → Int) (r24 : Nat → Nat → Int → Int → Int → Int → gi_H → Option (Int × gi_H)) (v1 : Nat) (v2 : Nat) (v3 : Int) (v4 : Int) (v6 : Int) (s0 : Int) (h : gi_H) : Option (Int × gi_H) :=
  b_L_law_849 n L xs r24 v1 v2 v3 v4 s0 v6 h
set_option maxRecDepth 100000 in
theorem zb_L_law_742 {n : Nat} {L : Nat} {xs : Nat → Int} {r24 : Nat → Nat → Int → Int → Int → Int → gi_H → Option (Int × gi_H)} {res : Int} {h1 : gi_H} {kc ks k : Nat} (hkc : kc + (k + 1) * 2000 ≤ 54186) (hks : ks + (k + 1) * 12000 ≤ 388187) (hr24 : ∀ (kc ks : Nat) (x1 : Nat) (x2 : Nat) (x3 : Int) (x4 : Int) (x5 : Int) (x6 : Int) (hh : gi_H), kc + k * 2000 ≤ 54186 → ks + k * 12000 ≤ 388187 → r24 x1 x2 x3 x4 x5 x6 hh = some (res, h1) → gx_Z (mL_law L xs) false false kc ks 24 [(0, .ref 100000), (1, .ref x1), (2, .ref x2), (3, .int (gI x3)), (4, .int (gI x4)), (5, .int (gI x5)), (6, .int (gI x6))] [] (gi_cv hh) (.inl (some (.int (gI res)))) (gi_cv h1)) {v1 : Nat} {v2 : Nat} {v3 : Int} {v4 : Int} {v6 : Int} {s0 : Int} {h : gi_H} (e : b_L_law_742 n L xs r24 v1 v2 v3 v4 v6 s0 h = some (res, h1)) : gx_Z (mL_law L xs) false false (kc + 1) (ks + 6) 742 [(0, .ref 100000), (1, .ref v1), (2, .ref v2), (3, .int (gI v3)), (4, .int (gI v4)), (6, .int (gI v6))] [.int (gI s0)] (gi_cv h) (.inl (some (.int (gI res)))) (gi_cv h1) := by
  have hKc : 54186 ≤ (gx_rm (mL_law L xs)).cells := Nat.le_of_ble_eq_true rfl
  have hKs : 388187 ≤ (gx_rm (mL_law L xs)).slots := Nat.le_of_ble_eq_true rfl
  refine gx_istore (ls2 := [(5, .int (gI s0)), (0, .ref 100000), (1, .ref v1), (2, .ref v2), (3, .int (gI v3)), (4, .int (gI v4)), (6, .int (gI v6))]) dL_law_742 (Nat.le_of_ble_eq_true rfl) rfl ?_
  refine gx_goto (tgt := 849) dL_law_744 (by decide) ?_
  refine gx_sub (ls2 := [(0, .ref 100000), (1, .ref v1), (2, .ref v2), (3, .int (gI v3)), (4, .int (gI v4)), (5, .int (gI s0)), (6, .int (gI v6))]) [1, 2, 3, 4, 5, 0, 6] rfl ?_
  refine gx_kup (kc2 := (kc + 106)) (ks2 := (ks + 636)) (by show (kc + 1) ≤ (kc + 106); omega) (by show (ks + 6) ≤ (ks + 636); omega) ?_
  exact zb_L_law_849 hkc hks hr24 e
set_option maxRecDepth 100000 in
def b_L_law_741 (n : Nat) (L : Nat) (xs : Nat → Int) (r24 : Nat → Nat → Int → Int → Int → Int → gi_H → Option (Int × gi_H)) (v1 : Nat) (v2 : Nat) (v3 : Int) (v4 : Int) (v6 : Int)  (h : gi_H) : Option (Int × gi_H) :=
  b_L_law_742 n L xs r24 v1 v2 v3 v4 v6 (0 : Int) h
set_option maxRecDepth 100000 in
theorem zb_L_law_741 {n : Nat} {L : Nat} {xs : Nat → Int} {r24 : Nat → Nat → Int → Int → Int → Int → gi_H → Option (Int × gi_H)} {res : Int} {h1 : gi_H} {kc ks k : Nat} (hkc : kc + (k + 1) * 2000 ≤ 54186) (hks : ks + (k + 1) * 12000 ≤ 388187) (hr24 : ∀ (kc ks : Nat) (x1 : Nat) (x2 : Nat) (x3 : Int) (x4 : Int) (x5 : Int) (x6 : Int) (hh : gi_H), kc + k * 2000 ≤ 54186 → ks + k * 12000 ≤ 388187 → r24 x1 x2 x3 x4 x5 x6 hh = some (res, h1) → gx_Z (mL_law L xs) false false kc ks 24 [(0, .ref 100000), (1, .ref x1), (2, .ref x2), (3, .int (gI x3)), (4, .int (gI x4)), (5, .int (gI x5)), (6, .int (gI x6))] [] (gi_cv hh) (.inl (some (.int (gI res)))) (gi_cv h1)) {v1 : Nat} {v2 : Nat} {v3 : Int} {v4 : Int} {v6 : Int}  {h : gi_H} (e : b_L_law_741 n L xs r24 v1 v2 v3 v4 v6 h = some (res, h1)) : gx_Z (mL_law L xs) false false (kc + 1) (ks + 6) 741 [(0, .ref 100000), (1, .ref v1), (2, .ref v2), (3, .int (gI v3)), (4, .int (gI v4)), (6, .int (gI v6))] [] (gi_cv h) (.inl (some (.int (gI res)))) (gi_cv h1) := by
  have hKc : 54186 ≤ (gx_rm (mL_law L xs)).cells := Nat.le_of_ble_eq_true rfl
  have hKs : 388187 ≤ (gx_rm (mL_law L xs)).slots := Nat.le_of_ble_eq_true rfl
  refine gy_iconst dL_law_741 ?_
  exact zb_L_law_742 hkc hks hr24 e
set_option maxRecDepth 100000 in
def b_L_law_737 (n : Nat) (L : Nat) (xs : Nat → Int) (r24 : Nat → Nat → Int → Int → Int → Int → gi_H → Option (Int × gi_H)) (v1 : Nat) (v2 : Nat) (v3 : Int) (v4 : Int) (v6 : Int)  (h : gi_H) : Option (Int × gi_H) :=
  b_L_law_742 n L xs r24 v1 v2 v3 v4 v6 (1 : Int) h
set_option maxRecDepth 100000 in
theorem zb_L_law_737 {n : Nat} {L : Nat} {xs : Nat → Int} {r24 : Nat → Nat → Int → Int → Int → Int → gi_H → Option (Int × gi_H)} {res : Int} {h1 : gi_H} {kc ks k : Nat} (hkc : kc + (k + 1) * 2000 ≤ 54186) (hks : ks + (k + 1) * 12000 ≤ 388187) (hr24 : ∀ (kc ks : Nat) (x1 : Nat) (x2 : Nat) (x3 : Int) (x4 : Int) (x5 : Int) (x6 : Int) (hh : gi_H), kc + k * 2000 ≤ 54186 → ks + k * 12000 ≤ 388187 → r24 x1 x2 x3 x4 x5 x6 hh = some (res, h1) → gx_Z (mL_law L xs) false false kc ks 24 [(0, .ref 100000), (1, .ref x1), (2, .ref x2), (3, .int (gI x3)), (4, .int (gI x4)), (5, .int (gI x5)), (6, .int (gI x6))] [] (gi_cv hh) (.inl (some (.int (gI res)))) (gi_cv h1)) {v1 : Nat} {v2 : Nat} {v3 : Int} {v4 : Int} {v6 : Int}  {h : gi_H} (e : b_L_law_737 n L xs r24 v1 v2 v3 v4 v6 h = some (res, h1)) : gx_Z (mL_law L xs) false false (kc + 1) (ks + 6) 737 [(0, .ref 100000), (1, .ref v1), (2, .ref v2), (3, .int (gI v3)), (4, .int (gI v4)), (6, .int (gI v6))] [] (gi_cv h) (.inl (some (.int (gI res)))) (gi_cv h1) := by
  have hKc : 54186 ≤ (gx_rm (mL_law L xs)).cells := Nat.le_of_ble_eq_true rfl
  have hKs : 388187 ≤ (gx_rm (mL_law L xs)).slots := Nat.le_of_ble_eq_true rfl
  refine gy_iconst dL_law_737 ?_
  refine gx_goto (tgt := 742) dL_law_738 (by decide) ?_
  exact zb_L_law_742 hkc hks hr24 e
set_option maxRecDepth 100000 in
def b_L_law_674 (n : Nat) (L : Nat) (xs : Nat → Int) (r24 : Nat → Nat → Int → Int → Int → Int → gi_H → Option (Int × gi_H)) (v1 : Nat) (v2 : Nat) (v3 : Int) (v4 : Int) (v6 : Int) (v10 : Int) (s0 : Int) (h : gi_H) : Option (Int × gi_H) :=
  gx_nm (v4 + (1 : Int)) fun t153 => Option.bind (gi_is h v1 9) fun _ => Option.bind (f_X11_repair n v1 h) fun q155 => Option.bind (gi_rg s0) fun _ => if s0 = 0 then (b_L_law_741 n L xs r24 v1 v2 v3 t153 v6 q155.2) else (Option.bind (gi_rg v10) fun _ => if v10 = (-1 : Int) then (Option.bind (gi_rg q155.1) fun _ => if q155.1 = (-1 : Int) then (b_L_law_737 n L xs r24 v1 v2 v3 t153 v6 q155.2) else (b_L_law_741 n L xs r24 v1 v2 v3 t153 v6 q155.2)) else (if v10 = (99 : Int) then (b_L_law_737 n L xs r24 v1 v2 v3 t153 v6 q155.2) else (Option.bind (gi_rg q155.1) fun _ => if q155.1 = (99 : Int) then (b_L_law_737 n L xs r24 v1 v2 v3 t153 v6 q155.2) else (Option.bind (gi_rg (q155.1 - v10)) fun _ => if (1 : Int) < (q155.1 - v10) then (b_L_law_741 n L xs r24 v1 v2 v3 t153 v6 q155.2) else (Option.bind (gi_rg (v10 - q155.1)) fun _ => if (1 : Int) < (v10 - q155.1) then (b_L_law_741 n L xs r24 v1 v2 v3 t153 v6 q155.2) else (b_L_law_737 n L xs r24 v1 v2 v3 t153 v6 q155.2))))))
set_option maxRecDepth 100000 in
theorem zb_L_law_674 {n : Nat} {L : Nat} {xs : Nat → Int} {r24 : Nat → Nat → Int → Int → Int → Int → gi_H → Option (Int × gi_H)} {res : Int} {h1 : gi_H} {kc ks k : Nat} (hkc : kc + (k + 1) * 2000 ≤ 54186) (hks : ks + (k + 1) * 12000 ≤ 388187) (hr24 : ∀ (kc ks : Nat) (x1 : Nat) (x2 : Nat) (x3 : Int) (x4 : Int) (x5 : Int) (x6 : Int) (hh : gi_H), kc + k * 2000 ≤ 54186 → ks + k * 12000 ≤ 388187 → r24 x1 x2 x3 x4 x5 x6 hh = some (res, h1) → gx_Z (mL_law L xs) false false kc ks 24 [(0, .ref 100000), (1, .ref x1), (2, .ref x2), (3, .int (gI x3)), (4, .int (gI x4)), (5, .int (gI x5)), (6, .int (gI x6))] [] (gi_cv hh) (.inl (some (.int (gI res)))) (gi_cv h1)) {v1 : Nat} {v2 : Nat} {v3 : Int} {v4 : Int} {v6 : Int} {v10 : Int} {s0 : Int} {h : gi_H} (e : b_L_law_674 n L xs r24 v1 v2 v3 v4 v6 v10 s0 h = some (res, h1)) : gx_Z (mL_law L xs) false false (kc + 1) (ks + 6) 674 [(0, .ref 100000), (1, .ref v1), (2, .ref v2), (3, .int (gI v3)), (4, .int (gI v4)), (6, .int (gI v6)), (10, .int (gI v10))] [.int (gI s0)] (gi_cv h) (.inl (some (.int (gI res)))) (gi_cv h1) := by
  have hKc : 54186 ≤ (gx_rm (mL_law L xs)).cells := Nat.le_of_ble_eq_true rfl
  have hKs : 388187 ≤ (gx_rm (mL_law L xs)).slots := Nat.le_of_ble_eq_true rfl
  refine gx_istore (ls2 := [(5, .int (gI s0)), (0, .ref 100000), (1, .ref v1), (2, .ref v2), (3, .int (gI v3)), (4, .int (gI v4)), (6, .int (gI v6)), (10, .int (gI v10))]) dL_law_674 (Nat.le_of_ble_eq_true rfl) rfl ?_
  refine gx_nE e (fun t153 ht153 e => ?_)
  refine gy_iinc (v := t153) (ls2 := [(4, .int (gI t153)), (5, .int (gI s0)), (0, .ref 100000), (1, .ref v1), (2, .ref v2), (3, .int (gI v3)), (6, .int (gI v6)), (10, .int (gI v10))]) dL_law_676 5 rfl ht153 (Nat.le_of_ble_eq_true rfl) rfl ?_
  refine gx_aload_n dL_law_679 rfl 3 rfl ?_
  refine gx_bE e (fun _ hu154 e => ?_)
  refine gx_bE e (fun q155 hq155 e => ?_)
  refine gx_callV (n := 0) (st := []) (As := []) (b := v1) dL_law_680 (z_X11_repair hq155) rfl ⟨rfl, gw_cw_X11_repair, gw_1, gp_X11_repair, ⟨Nat.le_of_ble_eq_true rfl, Nat.le_of_ble_eq_true rfl⟩⟩ (gi_isS hu154) (by decide) gw_387 gw_388 gw_389 rfl ⟨by show (kc + 1) ≤ _; omega, by show (ks + 6) ≤ _; omega⟩ (Nat.le_of_ble_eq_true rfl) (gy_k1 (x := .int (gI q155.1)) (kc2 := (kc + 1)) (ks2 := (ks + 6)) ⟨rfl, rfl⟩ ?_) gy_kn
  refine gx_istore (ls2 := [(12, .int (gI q155.1)), (4, .int (gI t153)), (5, .int (gI s0)), (0, .ref 100000), (1, .ref v1), (2, .ref v2), (3, .int (gI v3)), (6, .int (gI v6)), (10, .int (gI v10))]) dL_law_683 (Nat.le_of_ble_eq_true rfl) rfl ?_
  refine gx_iload dL_law_685 2 rfl ?_
  refine gx_bE e (fun _ g156 e => ?_)
  refine gx_iE e (fun c157 e => ?_) (fun c157 e => ?_)
  · refine gy_if_eq (tgt := 741) (gi_rgS g156) dL_law_687 (by decide) (fun _ => ?_) (fun z => absurd c157 z)
    refine gx_sub (ls2 := [(0, .ref 100000), (1, .ref v1), (2, .ref v2), (3, .int (gI v3)), (4, .int (gI t153)), (6, .int (gI v6))]) [3, 4, 5, 6, 1, 7] rfl ?_
    exact zb_L_law_741 hkc hks hr24 e
  · refine gy_if_eq (tgt := 741) (gi_rgS g156) dL_law_687 (by decide) (fun z => absurd z c157) (fun _ => ?_)
    refine gx_iload dL_law_690 8 rfl ?_
    refine gy_iconst dL_law_692 ?_
    refine gx_bE e (fun _ g158 e => ?_)
    refine gx_iE e (fun c159 e => ?_) (fun c159 e => ?_)
    · refine gy_icmp_ne (tgt := 705) (gi_rgS g158) (by decide) dL_law_693 (by decide) (fun z => absurd c159 z) (fun _ => ?_)
      refine gx_iload dL_law_696 0 rfl ?_
      refine gy_iconst dL_law_698 ?_
      refine gx_bE e (fun _ g160 e => ?_)
      refine gx_iE e (fun c161 e => ?_) (fun c161 e => ?_)
      · refine gy_icmp_ne (tgt := 741) (gi_rgS g160) (by decide) dL_law_699 (by decide) (fun z => absurd c161 z) (fun _ => ?_)
        refine gx_goto (tgt := 737) dL_law_702 (by decide) ?_
        refine gx_sub (ls2 := [(0, .ref 100000), (1, .ref v1), (2, .ref v2), (3, .int (gI v3)), (4, .int (gI t153)), (6, .int (gI v6))]) [3, 4, 5, 6, 1, 7] rfl ?_
        exact zb_L_law_737 hkc hks hr24 e
      · refine gy_icmp_ne (tgt := 741) (gi_rgS g160) (by decide) dL_law_699 (by decide) (fun _ => ?_) (fun z => absurd z c161)
        refine gx_sub (ls2 := [(0, .ref 100000), (1, .ref v1), (2, .ref v2), (3, .int (gI v3)), (4, .int (gI t153)), (6, .int (gI v6))]) [3, 4, 5, 6, 1, 7] rfl ?_
        exact zb_L_law_741 hkc hks hr24 e
    · refine gy_icmp_ne (tgt := 705) (gi_rgS g158) (by decide) dL_law_693 (by decide) (fun _ => ?_) (fun z => absurd z c159)
      refine gx_iload dL_law_705 8 rfl ?_
      refine gy_bipush dL_law_707 gcb_99 ?_
      refine gx_iE e (fun c162 e => ?_) (fun c162 e => ?_)
      · refine gy_icmp_eq (tgt := 737) (gi_rgS g158) (by decide) dL_law_709 (by decide) (fun _ => ?_) (fun z => absurd c162 z)
        refine gx_sub (ls2 := [(0, .ref 100000), (1, .ref v1), (2, .ref v2), (3, .int (gI v3)), (4, .int (gI t153)), (6, .int (gI v6))]) [3, 4, 5, 6, 1, 7] rfl ?_
        exact zb_L_law_737 hkc hks hr24 e
      · refine gy_icmp_eq (tgt := 737) (gi_rgS g158) (by decide) dL_law_709 (by decide) (fun z => absurd z c162) (fun _ => ?_)
        refine gx_iload dL_law_712 0 rfl ?_
        refine gy_bipush dL_law_714 gcb_99 ?_
        refine gx_bE e (fun _ g163 e => ?_)
        refine gx_iE e (fun c164 e => ?_) (fun c164 e => ?_)
        · refine gy_icmp_eq (tgt := 737) (gi_rgS g163) (by decide) dL_law_716 (by decide) (fun _ => ?_) (fun z => absurd c164 z)
          refine gx_sub (ls2 := [(0, .ref 100000), (1, .ref v1), (2, .ref v2), (3, .int (gI v3)), (4, .int (gI t153)), (6, .int (gI v6))]) [3, 4, 5, 6, 1, 7] rfl ?_
          exact zb_L_law_737 hkc hks hr24 e
        · refine gy_icmp_eq (tgt := 737) (gi_rgS g163) (by decide) dL_law_716 (by decide) (fun z => absurd z c164) (fun _ => ?_)
          refine gx_iload dL_law_719 0 rfl ?_
          refine gx_iload dL_law_721 8 rfl ?_
          refine gy_isub dL_law_723 ?_
          refine gy_iconst dL_law_724 ?_
          refine gx_bE e (fun _ g165 e => ?_)
          refine gx_iE e (fun c166 e => ?_) (fun c166 e => ?_)
          · refine gy_icmp_gt (tgt := 741) (gi_rgS g165) (by decide) dL_law_725 (by decide) (fun _ => ?_) (fun z => absurd c166 z)
            refine gx_sub (ls2 := [(0, .ref 100000), (1, .ref v1), (2, .ref v2), (3, .int (gI v3)), (4, .int (gI t153)), (6, .int (gI v6))]) [3, 4, 5, 6, 1, 7] rfl ?_
            exact zb_L_law_741 hkc hks hr24 e
          · refine gy_icmp_gt (tgt := 741) (gi_rgS g165) (by decide) dL_law_725 (by decide) (fun z => absurd z c166) (fun _ => ?_)
            refine gx_iload dL_law_728 8 rfl ?_
            refine gx_iload dL_law_730 0 rfl ?_
            refine gy_isub dL_law_732 ?_
            refine gy_iconst dL_law_733 ?_
            refine gx_bE e (fun _ g167 e => ?_)
            refine gx_iE e (fun c168 e => ?_) (fun c168 e => ?_)
            · refine gy_icmp_gt (tgt := 741) (gi_rgS g167) (by decide) dL_law_734 (by decide) (fun _ => ?_) (fun z => absurd c168 z)
              refine gx_sub (ls2 := [(0, .ref 100000), (1, .ref v1), (2, .ref v2), (3, .int (gI v3)), (4, .int (gI t153)), (6, .int (gI v6))]) [3, 4, 5, 6, 1, 7] rfl ?_
              exact zb_L_law_741 hkc hks hr24 e
            · refine gy_icmp_gt (tgt := 741) (gi_rgS g167) (by decide) dL_law_734 (by decide) (fun z => absurd z c168) (fun _ => ?_)
              refine gx_sub (ls2 := [(0, .ref 100000), (1, .ref v1), (2, .ref v2), (3, .int (gI v3)), (4, .int (gI t153)), (6, .int (gI v6))]) [3, 4, 5, 6, 1, 7] rfl ?_
              exact zb_L_law_737 hkc hks hr24 e
set_option maxRecDepth 100000 in
def b_L_law_503 (n : Nat) (L : Nat) (xs : Nat → Int) (r24 : Nat → Nat → Int → Int → Int → Int → gi_H → Option (Int × gi_H)) (v1 : Nat) (v2 : Nat) (v3 : Int) (v4 : Int) (v5 : Int) (v6 : Int) (v8 : Int) (v9 : Int)  (h : gi_H) : Option (Int × gi_H) :=
  Option.bind (gi_rg v9) fun _ => if v9 = (7 : Int) then (Option.bind (gi_dg v8 (3 : Int)) fun _ => Option.bind (f_L_start v1 (v8 % (3 : Int)) h) fun q86 => Option.bind (gi_rg q86.1) fun _ => if q86.1 < 0 then (b_L_law_540 n L xs r24 v1 v2 v3 v4 v6 q86.2) else (Option.bind (gi_dg v8 (3 : Int)) fun _ => Option.bind (f_L_start v1 (v8 % (3 : Int)) q86.2) fun q90 => Option.bind (gi_dg v8 (3 : Int)) fun _ => Option.bind (gi_rg q90.1) fun _ => Option.bind (gi_rg (v8 % (3 : Int))) fun _ => if q90.1 = (v8 % (3 : Int)) then (b_L_law_541 n L xs r24 v1 v2 v3 v4 v6 (1 : Int) q90.2) else (b_L_law_540 n L xs r24 v1 v2 v3 v4 v6 q90.2))) else (if v9 = (8 : Int) then (Option.bind (gi_dg v8 (3 : Int)) fun _ => Option.bind (gi_dg v8 (3 : Int)) fun _ => Option.bind (gi_dg (v8 / (3 : Int)) (6 : Int)) fun _ => Option.bind (gi_dg v8 (18 : Int)) fun _ => Option.bind (gi_dg (v8 / (18 : Int)) (3 : Int)) fun _ => Option.bind (f_L_level v1 (v8 % (3 : Int)) ((v8 / (3 : Int)) % (6 : Int)) ((v8 / (18 : Int)) % (3 : Int)) h) fun q101 => Option.bind (gi_rg q101.1) fun _ => if q101.1 < 0 then (b_L_law_614 n L xs r24 v1 v2 v3 v4 v6 q101.2) else (Option.bind (gi_dg v8 (3 : Int)) fun _ => Option.bind (gi_dg v8 (3 : Int)) fun _ => Option.bind (gi_dg (v8 / (3 : Int)) (6 : Int)) fun _ => Option.bind (gi_dg v8 (18 : Int)) fun _ => Option.bind (gi_dg (v8 / (18 : Int)) (3 : Int)) fun _ => Option.bind (f_L_level v1 (v8 % (3 : Int)) ((v8 / (3 : Int)) % (6 : Int)) ((v8 / (18 : Int)) % (3 : Int)) q101.2) fun q109 => Option.bind (gi_dg v8 (3 : Int)) fun _ => Option.bind (gi_dg (v8 / (3 : Int)) (6 : Int)) fun _ => Option.bind (gi_rg q109.1) fun _ => Option.bind (gi_rg ((v8 / (3 : Int)) % (6 : Int))) fun _ => if q109.1 = ((v8 / (3 : Int)) % (6 : Int)) then (b_L_law_615 n L xs r24 v1 v2 v3 v4 v6 (1 : Int) q109.2) else (b_L_law_614 n L xs r24 v1 v2 v3 v4 v6 q109.2))) else (if (13 : Int) ≤ v9 then (b_L_law_747 n L xs r24 v1 v2 v3 v4 v5 v6 v8 h) else (Option.bind (gi_rg v4) fun _ => if (7 : Int) ≤ v4 then (b_L_law_747 n L xs r24 v1 v2 v3 v4 v5 v6 v8 h) else (Option.bind (gi_is h v1 9) fun _ => Option.bind (f_X11_repair n v1 h) fun q144 => Option.bind (gi_dg v8 (v4 + (1 : Int))) fun _ => gx_nm (v8 % (v4 + (1 : Int))) fun t146 => Option.bind (gi_dg v8 (8 : Int)) fun _ => Option.bind (gi_dg (v8 / (8 : Int)) (3 : Int)) fun _ => Option.bind (f_L_put n v1 t146 ((v8 / (8 : Int)) % (3 : Int)) q144.2) fun q149 => Option.bind (gi_rg q149.1) fun _ => Option.bind (gi_rg (v4 + (1 : Int))) fun _ => if q149.1 = (v4 + (1 : Int)) then (b_L_law_674 n L xs r24 v1 v2 v3 v4 v6 q144.1 (1 : Int) q149.2) else (b_L_law_674 n L xs r24 v1 v2 v3 v4 v6 q144.1 (0 : Int) q149.2)))))
set_option maxRecDepth 100000 in
theorem zb_L_law_503 {n : Nat} {L : Nat} {xs : Nat → Int} {r24 : Nat → Nat → Int → Int → Int → Int → gi_H → Option (Int × gi_H)} {res : Int} {h1 : gi_H} {kc ks k : Nat} (hkc : kc + (k + 1) * 2000 ≤ 54186) (hks : ks + (k + 1) * 12000 ≤ 388187) (hr24 : ∀ (kc ks : Nat) (x1 : Nat) (x2 : Nat) (x3 : Int) (x4 : Int) (x5 : Int) (x6 : Int) (hh : gi_H), kc + k * 2000 ≤ 54186 → ks + k * 12000 ≤ 388187 → r24 x1 x2 x3 x4 x5 x6 hh = some (res, h1) → gx_Z (mL_law L xs) false false kc ks 24 [(0, .ref 100000), (1, .ref x1), (2, .ref x2), (3, .int (gI x3)), (4, .int (gI x4)), (5, .int (gI x5)), (6, .int (gI x6))] [] (gi_cv hh) (.inl (some (.int (gI res)))) (gi_cv h1)) {v1 : Nat} {v2 : Nat} {v3 : Int} {v4 : Int} {v5 : Int} {v6 : Int} {v8 : Int} {v9 : Int}  {h : gi_H} (e : b_L_law_503 n L xs r24 v1 v2 v3 v4 v5 v6 v8 v9 h = some (res, h1)) : gx_Z (mL_law L xs) false false kc ks 503 [(0, .ref 100000), (1, .ref v1), (2, .ref v2), (3, .int (gI v3)), (4, .int (gI v4)), (5, .int (gI v5)), (6, .int (gI v6)), (8, .int (gI v8)), (9, .int (gI v9))] [] (gi_cv h) (.inl (some (.int (gI res)))) (gi_cv h1) := by
  have hKc : 54186 ≤ (gx_rm (mL_law L xs)).cells := Nat.le_of_ble_eq_true rfl
  have hKs : 388187 ≤ (gx_rm (mL_law L xs)).slots := Nat.le_of_ble_eq_true rfl
  refine gx_iload dL_law_503 8 rfl ?_
  refine gy_bipush dL_law_505 gcb_7 ?_
  refine gx_bE e (fun _ g83 e => ?_)
  refine gx_iE e (fun c84 e => ?_) (fun c84 e => ?_)
  · refine gy_icmp_ne (tgt := 546) (gi_rgS g83) (by decide) dL_law_507 (by decide) (fun z => absurd c84 z) (fun _ => ?_)
    refine gx_aload_n dL_law_510 rfl 1 rfl ?_
    refine gx_iload dL_law_511 7 rfl ?_
    refine gy_iconst dL_law_513 ?_
    refine gx_bE e (fun _ hu85 e => ?_)
    refine gy_irem hu85 dL_law_514 ?_
    refine gx_bE e (fun q86 hq86 e => ?_)
    refine gx_callSW (n := 2) (st := []) (As := [.ref v1, .int (gI (v8 % (3 : Int)))]) dL_law_515 (z_L_start hq86) rfl ⟨(by decide +kernel), gw_cw_L_start, gw_0, gp_L_start, ⟨Nat.le_of_ble_eq_true rfl, Nat.le_of_ble_eq_true rfl⟩⟩ gw_887 gw_888 ⟨by show (kc + 1) ≤ _; omega, by show (ks + 6) ≤ _; omega⟩ (Nat.le_of_ble_eq_true rfl) (gy_k1 (x := .int (gI q86.1)) (kc2 := (kc + 1)) (ks2 := (ks + 6)) ⟨rfl, rfl⟩ ?_)
    refine gx_bE e (fun _ g87 e => ?_)
    refine gx_iE e (fun c88 e => ?_) (fun c88 e => ?_)
    · refine gy_if_lt (tgt := 540) (gi_rgS g87) dL_law_518 (by decide) (fun _ => ?_) (fun z => absurd c88 z)
      refine gx_sub (ls2 := [(0, .ref 100000), (1, .ref v1), (2, .ref v2), (3, .int (gI v3)), (4, .int (gI v4)), (6, .int (gI v6))]) [0, 1, 2, 3, 4, 6] rfl ?_
      refine gx_kup (kc2 := (kc + 2)) (ks2 := (ks + 12)) (by show (kc + 1) ≤ (kc + 2); omega) (by show (ks + 6) ≤ (ks + 12); omega) ?_
      exact zb_L_law_540 hkc hks hr24 e
    · refine gy_if_lt (tgt := 540) (gi_rgS g87) dL_law_518 (by decide) (fun z => absurd z c88) (fun _ => ?_)
      refine gx_aload_n dL_law_521 rfl 1 rfl ?_
      refine gx_iload dL_law_522 7 rfl ?_
      refine gy_iconst dL_law_524 ?_
      refine gx_bE e (fun _ hu89 e => ?_)
      refine gy_irem hu89 dL_law_525 ?_
      refine gx_bE e (fun q90 hq90 e => ?_)
      refine gx_callSW (n := 2) (st := []) (As := [.ref v1, .int (gI (v8 % (3 : Int)))]) dL_law_526 (z_L_start hq90) rfl ⟨(by decide +kernel), gw_cw_L_start, gw_0, gp_L_start, ⟨Nat.le_of_ble_eq_true rfl, Nat.le_of_ble_eq_true rfl⟩⟩ gw_887 gw_888 ⟨by show (kc + 2) ≤ _; omega, by show (ks + 12) ≤ _; omega⟩ (Nat.le_of_ble_eq_true rfl) (gy_k1 (x := .int (gI q90.1)) (kc2 := (kc + 2)) (ks2 := (ks + 12)) ⟨rfl, rfl⟩ ?_)
      refine gx_iload dL_law_529 7 rfl ?_
      refine gy_iconst dL_law_531 ?_
      refine gx_bE e (fun _ hu91 e => ?_)
      refine gy_irem hu91 dL_law_532 ?_
      refine gx_bE e (fun _ g92 e => ?_)
      refine gx_bE e (fun _ g93 e => ?_)
      refine gx_iE e (fun c94 e => ?_) (fun c94 e => ?_)
      · refine gy_icmp_ne (tgt := 540) (gi_rgS g92) (gi_rgS g93) dL_law_533 (by decide) (fun z => absurd c94 z) (fun _ => ?_)
        refine gy_iconst dL_law_536 ?_
        refine gx_goto (tgt := 541) dL_law_537 (by decide) ?_
        refine gx_sub (ls2 := [(0, .ref 100000), (1, .ref v1), (2, .ref v2), (3, .int (gI v3)), (4, .int (gI v4)), (6, .int (gI v6))]) [0, 1, 2, 3, 4, 6] rfl ?_
        exact zb_L_law_541 hkc hks hr24 e
      · refine gy_icmp_ne (tgt := 540) (gi_rgS g92) (gi_rgS g93) dL_law_533 (by decide) (fun _ => ?_) (fun z => absurd z c94)
        refine gx_sub (ls2 := [(0, .ref 100000), (1, .ref v1), (2, .ref v2), (3, .int (gI v3)), (4, .int (gI v4)), (6, .int (gI v6))]) [0, 1, 2, 3, 4, 6] rfl ?_
        exact zb_L_law_540 hkc hks hr24 e
  · refine gy_icmp_ne (tgt := 546) (gi_rgS g83) (by decide) dL_law_507 (by decide) (fun _ => ?_) (fun z => absurd z c84)
    refine gx_iload dL_law_546 8 rfl ?_
    refine gy_bipush dL_law_548 gcb_8 ?_
    refine gx_iE e (fun c95 e => ?_) (fun c95 e => ?_)
    · refine gy_icmp_ne (tgt := 620) (gi_rgS g83) (by decide) dL_law_550 (by decide) (fun z => absurd c95 z) (fun _ => ?_)
      refine gx_aload_n dL_law_553 rfl 1 rfl ?_
      refine gx_iload dL_law_554 7 rfl ?_
      refine gy_iconst dL_law_556 ?_
      refine gx_bE e (fun _ hu96 e => ?_)
      refine gy_irem hu96 dL_law_557 ?_
      refine gx_iload dL_law_558 7 rfl ?_
      refine gy_iconst dL_law_560 ?_
      refine gx_bE e (fun _ hu97 e => ?_)
      refine gy_idiv hu97 dL_law_561 ?_
      refine gy_bipush dL_law_562 gcb_6 ?_
      refine gx_bE e (fun _ hu98 e => ?_)
      refine gy_irem hu98 dL_law_564 ?_
      refine gx_iload dL_law_565 7 rfl ?_
      refine gy_bipush dL_law_567 gcb_18 ?_
      refine gx_bE e (fun _ hu99 e => ?_)
      refine gy_idiv hu99 dL_law_569 ?_
      refine gy_iconst dL_law_570 ?_
      refine gx_bE e (fun _ hu100 e => ?_)
      refine gy_irem hu100 dL_law_571 ?_
      refine gx_bE e (fun q101 hq101 e => ?_)
      refine gx_callSW (n := 4) (st := []) (As := [.ref v1, .int (gI (v8 % (3 : Int))), .int (gI ((v8 / (3 : Int)) % (6 : Int))), .int (gI ((v8 / (18 : Int)) % (3 : Int)))]) dL_law_572 (z_L_level hq101) rfl ⟨(by decide +kernel), gw_cw_L_level, gw_0, gp_L_level, ⟨Nat.le_of_ble_eq_true rfl, Nat.le_of_ble_eq_true rfl⟩⟩ gw_899 gw_900 ⟨by show (kc + 1) ≤ _; omega, by show (ks + 6) ≤ _; omega⟩ (Nat.le_of_ble_eq_true rfl) (gy_k1 (x := .int (gI q101.1)) (kc2 := (kc + 1)) (ks2 := (ks + 6)) ⟨rfl, rfl⟩ ?_)
      refine gx_bE e (fun _ g102 e => ?_)
      refine gx_iE e (fun c103 e => ?_) (fun c103 e => ?_)
      · refine gy_if_lt (tgt := 614) (gi_rgS g102) dL_law_575 (by decide) (fun _ => ?_) (fun z => absurd c103 z)
        refine gx_sub (ls2 := [(0, .ref 100000), (1, .ref v1), (2, .ref v2), (3, .int (gI v3)), (4, .int (gI v4)), (6, .int (gI v6))]) [0, 1, 2, 3, 4, 6] rfl ?_
        refine gx_kup (kc2 := (kc + 2)) (ks2 := (ks + 12)) (by show (kc + 1) ≤ (kc + 2); omega) (by show (ks + 6) ≤ (ks + 12); omega) ?_
        exact zb_L_law_614 hkc hks hr24 e
      · refine gy_if_lt (tgt := 614) (gi_rgS g102) dL_law_575 (by decide) (fun z => absurd z c103) (fun _ => ?_)
        refine gx_aload_n dL_law_578 rfl 1 rfl ?_
        refine gx_iload dL_law_579 7 rfl ?_
        refine gy_iconst dL_law_581 ?_
        refine gx_bE e (fun _ hu104 e => ?_)
        refine gy_irem hu104 dL_law_582 ?_
        refine gx_iload dL_law_583 7 rfl ?_
        refine gy_iconst dL_law_585 ?_
        refine gx_bE e (fun _ hu105 e => ?_)
        refine gy_idiv hu105 dL_law_586 ?_
        refine gy_bipush dL_law_587 gcb_6 ?_
        refine gx_bE e (fun _ hu106 e => ?_)
        refine gy_irem hu106 dL_law_589 ?_
        refine gx_iload dL_law_590 7 rfl ?_
        refine gy_bipush dL_law_592 gcb_18 ?_
        refine gx_bE e (fun _ hu107 e => ?_)
        refine gy_idiv hu107 dL_law_594 ?_
        refine gy_iconst dL_law_595 ?_
        refine gx_bE e (fun _ hu108 e => ?_)
        refine gy_irem hu108 dL_law_596 ?_
        refine gx_bE e (fun q109 hq109 e => ?_)
        refine gx_callSW (n := 4) (st := []) (As := [.ref v1, .int (gI (v8 % (3 : Int))), .int (gI ((v8 / (3 : Int)) % (6 : Int))), .int (gI ((v8 / (18 : Int)) % (3 : Int)))]) dL_law_597 (z_L_level hq109) rfl ⟨(by decide +kernel), gw_cw_L_level, gw_0, gp_L_level, ⟨Nat.le_of_ble_eq_true rfl, Nat.le_of_ble_eq_true rfl⟩⟩ gw_899 gw_900 ⟨by show (kc + 2) ≤ _; omega, by show (ks + 12) ≤ _; omega⟩ (Nat.le_of_ble_eq_true rfl) (gy_k1 (x := .int (gI q109.1)) (kc2 := (kc + 2)) (ks2 := (ks + 12)) ⟨rfl, rfl⟩ ?_)
        refine gx_iload dL_law_600 7 rfl ?_
        refine gy_iconst dL_law_602 ?_
        refine gx_bE e (fun _ hu110 e => ?_)
        refine gy_idiv hu110 dL_law_603 ?_
        refine gy_bipush dL_law_604 gcb_6 ?_
        refine gx_bE e (fun _ hu111 e => ?_)
        refine gy_irem hu111 dL_law_606 ?_
        refine gx_bE e (fun _ g112 e => ?_)
        refine gx_bE e (fun _ g113 e => ?_)
        refine gx_iE e (fun c114 e => ?_) (fun c114 e => ?_)
        · refine gy_icmp_ne (tgt := 614) (gi_rgS g112) (gi_rgS g113) dL_law_607 (by decide) (fun z => absurd c114 z) (fun _ => ?_)
          refine gy_iconst dL_law_610 ?_
          refine gx_goto (tgt := 615) dL_law_611 (by decide) ?_
          refine gx_sub (ls2 := [(0, .ref 100000), (1, .ref v1), (2, .ref v2), (3, .int (gI v3)), (4, .int (gI v4)), (6, .int (gI v6))]) [0, 1, 2, 3, 4, 6] rfl ?_
          exact zb_L_law_615 hkc hks hr24 e
        · refine gy_icmp_ne (tgt := 614) (gi_rgS g112) (gi_rgS g113) dL_law_607 (by decide) (fun _ => ?_) (fun z => absurd z c114)
          refine gx_sub (ls2 := [(0, .ref 100000), (1, .ref v1), (2, .ref v2), (3, .int (gI v3)), (4, .int (gI v4)), (6, .int (gI v6))]) [0, 1, 2, 3, 4, 6] rfl ?_
          exact zb_L_law_614 hkc hks hr24 e
    · refine gy_icmp_ne (tgt := 620) (gi_rgS g83) (by decide) dL_law_550 (by decide) (fun _ => ?_) (fun z => absurd z c95)
      refine gx_iload dL_law_620 8 rfl ?_
      refine gy_bipush dL_law_622 gcb_13 ?_
      refine gx_iE e (fun c115 e => ?_) (fun c115 e => ?_)
      · refine gy_icmp_ge (tgt := 747) (gi_rgS g83) (by decide) dL_law_624 (by decide) (fun _ => ?_) (fun z => absurd c115 z)
        refine gx_sub (ls2 := [(0, .ref 100000), (1, .ref v1), (2, .ref v2), (3, .int (gI v3)), (4, .int (gI v4)), (5, .int (gI v5)), (6, .int (gI v6)), (8, .int (gI v8))]) [0, 1, 2, 3, 4, 5, 6, 7] rfl ?_
        exact zb_L_law_747 hkc hks hr24 e
      · refine gy_icmp_ge (tgt := 747) (gi_rgS g83) (by decide) dL_law_624 (by decide) (fun z => absurd z c115) (fun _ => ?_)
        refine gx_iload dL_law_627 4 rfl ?_
        refine gy_bipush dL_law_629 gcb_7 ?_
        refine gx_bE e (fun _ g141 e => ?_)
        refine gx_iE e (fun c142 e => ?_) (fun c142 e => ?_)
        · refine gy_icmp_ge (tgt := 747) (gi_rgS g141) (by decide) dL_law_631 (by decide) (fun _ => ?_) (fun z => absurd c142 z)
          refine gx_sub (ls2 := [(0, .ref 100000), (1, .ref v1), (2, .ref v2), (3, .int (gI v3)), (4, .int (gI v4)), (5, .int (gI v5)), (6, .int (gI v6)), (8, .int (gI v8))]) [0, 1, 2, 3, 4, 5, 6, 7] rfl ?_
          exact zb_L_law_747 hkc hks hr24 e
        · refine gy_icmp_ge (tgt := 747) (gi_rgS g141) (by decide) dL_law_631 (by decide) (fun z => absurd z c142) (fun _ => ?_)
          refine gx_aload_n dL_law_634 rfl 1 rfl ?_
          refine gx_bE e (fun _ hu143 e => ?_)
          refine gx_bE e (fun q144 hq144 e => ?_)
          refine gx_callV (n := 0) (st := []) (As := []) (b := v1) dL_law_635 (z_X11_repair hq144) rfl ⟨rfl, gw_cw_X11_repair, gw_1, gp_X11_repair, ⟨Nat.le_of_ble_eq_true rfl, Nat.le_of_ble_eq_true rfl⟩⟩ (gi_isS hu143) (by decide) gw_387 gw_388 gw_389 rfl ⟨by show kc ≤ _; omega, by show ks ≤ _; omega⟩ (Nat.le_of_ble_eq_true rfl) (gy_k1 (x := .int (gI q144.1)) (kc2 := kc) (ks2 := ks) ⟨rfl, rfl⟩ ?_) gy_kn
          refine gx_istore (ls2 := [(10, .int (gI q144.1)), (0, .ref 100000), (1, .ref v1), (2, .ref v2), (3, .int (gI v3)), (4, .int (gI v4)), (5, .int (gI v5)), (6, .int (gI v6)), (8, .int (gI v8)), (9, .int (gI v9))]) dL_law_638 (Nat.le_of_ble_eq_true rfl) rfl ?_
          refine gx_iload dL_law_640 8 rfl ?_
          refine gx_iload dL_law_642 5 rfl ?_
          refine gy_iconst dL_law_644 ?_
          refine gy_iadd dL_law_645 ?_
          refine gx_bE e (fun _ hu145 e => ?_)
          refine gy_irem hu145 dL_law_646 ?_
          refine gx_nE e (fun t146 ht146 e => ?_)
          rw [ht146]
          refine gx_istore (ls2 := [(11, .int (gI t146)), (10, .int (gI q144.1)), (0, .ref 100000), (1, .ref v1), (2, .ref v2), (3, .int (gI v3)), (4, .int (gI v4)), (5, .int (gI v5)), (6, .int (gI v6)), (8, .int (gI v8)), (9, .int (gI v9))]) dL_law_647 (Nat.le_of_ble_eq_true rfl) rfl ?_
          refine gx_aload_n dL_law_649 rfl 3 rfl ?_
          refine gx_iload dL_law_650 0 rfl ?_
          refine gx_iload dL_law_652 9 rfl ?_
          refine gy_bipush dL_law_654 gcb_8 ?_
          refine gx_bE e (fun _ hu147 e => ?_)
          refine gy_idiv hu147 dL_law_656 ?_
          refine gy_iconst dL_law_657 ?_
          refine gx_bE e (fun _ hu148 e => ?_)
          refine gy_irem hu148 dL_law_658 ?_
          refine gx_bE e (fun q149 hq149 e => ?_)
          refine gx_callSW (n := 3) (st := []) (As := [.ref v1, .int (gI t146), .int (gI ((v8 / (8 : Int)) % (3 : Int)))]) dL_law_659 (z_L_put hq149) rfl ⟨(by decide +kernel), gw_cw_L_put, gw_0, gp_L_put, ⟨Nat.le_of_ble_eq_true rfl, Nat.le_of_ble_eq_true rfl⟩⟩ gw_927 gw_928 ⟨by show (kc + 1) ≤ _; omega, by show (ks + 6) ≤ _; omega⟩ (Nat.le_of_ble_eq_true rfl) (gy_k1 (x := .int (gI q149.1)) (kc2 := (kc + 1)) (ks2 := (ks + 6)) ⟨rfl, rfl⟩ ?_)
          refine gx_iload dL_law_662 6 rfl ?_
          refine gy_iconst dL_law_664 ?_
          refine gy_iadd dL_law_665 ?_
          refine gx_bE e (fun _ g150 e => ?_)
          refine gx_bE e (fun _ g151 e => ?_)
          refine gx_iE e (fun c152 e => ?_) (fun c152 e => ?_)
          · refine gy_icmp_ne (tgt := 673) (gi_rgS g150) (gi_rgS g151) dL_law_666 (by decide) (fun z => absurd c152 z) (fun _ => ?_)
            refine gy_iconst dL_law_669 ?_
            refine gx_goto (tgt := 674) dL_law_670 (by decide) ?_
            refine gx_sub (ls2 := [(0, .ref 100000), (1, .ref v1), (2, .ref v2), (3, .int (gI v3)), (4, .int (gI v4)), (6, .int (gI v6)), (10, .int (gI q144.1))]) [2, 3, 4, 5, 6, 8, 1] rfl ?_
            exact zb_L_law_674 hkc hks hr24 e
          · refine gy_icmp_ne (tgt := 673) (gi_rgS g150) (gi_rgS g151) dL_law_666 (by decide) (fun _ => ?_) (fun z => absurd z c152)
            refine gy_iconst dL_law_673 ?_
            refine gx_sub (ls2 := [(0, .ref 100000), (1, .ref v1), (2, .ref v2), (3, .int (gI v3)), (4, .int (gI v4)), (6, .int (gI v6)), (10, .int (gI q144.1))]) [2, 3, 4, 5, 6, 8, 1] rfl ?_
            exact zb_L_law_674 hkc hks hr24 e
set_option maxRecDepth 100000 in
def b_L_law_314 (n : Nat) (L : Nat) (xs : Nat → Int) (r24 : Nat → Nat → Int → Int → Int → Int → gi_H → Option (Int × gi_H)) (v1 : Nat) (v2 : Nat) (v3 : Int) (v4 : Int) (v5 : Int) (v6 : Int)  (h : gi_H) : Option (Int × gi_H) :=
  b_L_law_849 n L xs r24 v1 v2 v3 v4 v5 v6 h
set_option maxRecDepth 100000 in
theorem zb_L_law_314 {n : Nat} {L : Nat} {xs : Nat → Int} {r24 : Nat → Nat → Int → Int → Int → Int → gi_H → Option (Int × gi_H)} {res : Int} {h1 : gi_H} {kc ks k : Nat} (hkc : kc + (k + 1) * 2000 ≤ 54186) (hks : ks + (k + 1) * 12000 ≤ 388187) (hr24 : ∀ (kc ks : Nat) (x1 : Nat) (x2 : Nat) (x3 : Int) (x4 : Int) (x5 : Int) (x6 : Int) (hh : gi_H), kc + k * 2000 ≤ 54186 → ks + k * 12000 ≤ 388187 → r24 x1 x2 x3 x4 x5 x6 hh = some (res, h1) → gx_Z (mL_law L xs) false false kc ks 24 [(0, .ref 100000), (1, .ref x1), (2, .ref x2), (3, .int (gI x3)), (4, .int (gI x4)), (5, .int (gI x5)), (6, .int (gI x6))] [] (gi_cv hh) (.inl (some (.int (gI res)))) (gi_cv h1)) {v1 : Nat} {v2 : Nat} {v3 : Int} {v4 : Int} {v5 : Int} {v6 : Int}  {h : gi_H} (e : b_L_law_314 n L xs r24 v1 v2 v3 v4 v5 v6 h = some (res, h1)) : gx_Z (mL_law L xs) false false (kc + 106) (ks + 636) 314 [(0, .ref 100000), (1, .ref v1), (2, .ref v2), (3, .int (gI v3)), (4, .int (gI v4)), (5, .int (gI v5)), (6, .int (gI v6))] [] (gi_cv h) (.inl (some (.int (gI res)))) (gi_cv h1) := by
  have hKc : 54186 ≤ (gx_rm (mL_law L xs)).cells := Nat.le_of_ble_eq_true rfl
  have hKs : 388187 ≤ (gx_rm (mL_law L xs)).slots := Nat.le_of_ble_eq_true rfl
  refine gx_goto (tgt := 849) dL_law_314 (by decide) ?_
  exact zb_L_law_849 hkc hks hr24 e
set_option maxRecDepth 100000 in
def b_L_law_312 (n : Nat) (L : Nat) (xs : Nat → Int) (r24 : Nat → Nat → Int → Int → Int → Int → gi_H → Option (Int × gi_H)) (v1 : Nat) (v2 : Nat) (v3 : Int) (v4 : Int) (v6 : Int) (s0 : Int) (h : gi_H) : Option (Int × gi_H) :=
  b_L_law_314 n L xs r24 v1 v2 v3 v4 s0 v6 h
set_option maxRecDepth 100000 in
theorem zb_L_law_312 {n : Nat} {L : Nat} {xs : Nat → Int} {r24 : Nat → Nat → Int → Int → Int → Int → gi_H → Option (Int × gi_H)} {res : Int} {h1 : gi_H} {kc ks k : Nat} (hkc : kc + (k + 1) * 2000 ≤ 54186) (hks : ks + (k + 1) * 12000 ≤ 388187) (hr24 : ∀ (kc ks : Nat) (x1 : Nat) (x2 : Nat) (x3 : Int) (x4 : Int) (x5 : Int) (x6 : Int) (hh : gi_H), kc + k * 2000 ≤ 54186 → ks + k * 12000 ≤ 388187 → r24 x1 x2 x3 x4 x5 x6 hh = some (res, h1) → gx_Z (mL_law L xs) false false kc ks 24 [(0, .ref 100000), (1, .ref x1), (2, .ref x2), (3, .int (gI x3)), (4, .int (gI x4)), (5, .int (gI x5)), (6, .int (gI x6))] [] (gi_cv hh) (.inl (some (.int (gI res)))) (gi_cv h1)) {v1 : Nat} {v2 : Nat} {v3 : Int} {v4 : Int} {v6 : Int} {s0 : Int} {h : gi_H} (e : b_L_law_312 n L xs r24 v1 v2 v3 v4 v6 s0 h = some (res, h1)) : gx_Z (mL_law L xs) false false (kc + 57) (ks + 342) 312 [(0, .ref 100000), (1, .ref v1), (2, .ref v2), (3, .int (gI v3)), (4, .int (gI v4)), (6, .int (gI v6))] [.int (gI s0)] (gi_cv h) (.inl (some (.int (gI res)))) (gi_cv h1) := by
  have hKc : 54186 ≤ (gx_rm (mL_law L xs)).cells := Nat.le_of_ble_eq_true rfl
  have hKs : 388187 ≤ (gx_rm (mL_law L xs)).slots := Nat.le_of_ble_eq_true rfl
  refine gx_istore (ls2 := [(5, .int (gI s0)), (0, .ref 100000), (1, .ref v1), (2, .ref v2), (3, .int (gI v3)), (4, .int (gI v4)), (6, .int (gI v6))]) dL_law_312 (Nat.le_of_ble_eq_true rfl) rfl ?_
  refine gx_sub (ls2 := [(0, .ref 100000), (1, .ref v1), (2, .ref v2), (3, .int (gI v3)), (4, .int (gI v4)), (5, .int (gI s0)), (6, .int (gI v6))]) [1, 2, 3, 4, 5, 0, 6] rfl ?_
  refine gx_kup (kc2 := (kc + 106)) (ks2 := (ks + 636)) (by show (kc + 57) ≤ (kc + 106); omega) (by show (ks + 342) ≤ (ks + 636); omega) ?_
  exact zb_L_law_314 hkc hks hr24 e
set_option maxRecDepth 100000 in
def b_L_law_311 (n : Nat) (L : Nat) (xs : Nat → Int) (r24 : Nat → Nat → Int → Int → Int → Int → gi_H → Option (Int × gi_H)) (v1 : Nat) (v2 : Nat) (v3 : Int) (v4 : Int) (v6 : Int)  (h : gi_H) : Option (Int × gi_H) :=
  b_L_law_312 n L xs r24 v1 v2 v3 v4 v6 (0 : Int) h
set_option maxRecDepth 100000 in
theorem zb_L_law_311 {n : Nat} {L : Nat} {xs : Nat → Int} {r24 : Nat → Nat → Int → Int → Int → Int → gi_H → Option (Int × gi_H)} {res : Int} {h1 : gi_H} {kc ks k : Nat} (hkc : kc + (k + 1) * 2000 ≤ 54186) (hks : ks + (k + 1) * 12000 ≤ 388187) (hr24 : ∀ (kc ks : Nat) (x1 : Nat) (x2 : Nat) (x3 : Int) (x4 : Int) (x5 : Int) (x6 : Int) (hh : gi_H), kc + k * 2000 ≤ 54186 → ks + k * 12000 ≤ 388187 → r24 x1 x2 x3 x4 x5 x6 hh = some (res, h1) → gx_Z (mL_law L xs) false false kc ks 24 [(0, .ref 100000), (1, .ref x1), (2, .ref x2), (3, .int (gI x3)), (4, .int (gI x4)), (5, .int (gI x5)), (6, .int (gI x6))] [] (gi_cv hh) (.inl (some (.int (gI res)))) (gi_cv h1)) {v1 : Nat} {v2 : Nat} {v3 : Int} {v4 : Int} {v6 : Int}  {h : gi_H} (e : b_L_law_311 n L xs r24 v1 v2 v3 v4 v6 h = some (res, h1)) : gx_Z (mL_law L xs) false false (kc + 57) (ks + 342) 311 [(0, .ref 100000), (1, .ref v1), (2, .ref v2), (3, .int (gI v3)), (4, .int (gI v4)), (6, .int (gI v6))] [] (gi_cv h) (.inl (some (.int (gI res)))) (gi_cv h1) := by
  have hKc : 54186 ≤ (gx_rm (mL_law L xs)).cells := Nat.le_of_ble_eq_true rfl
  have hKs : 388187 ≤ (gx_rm (mL_law L xs)).slots := Nat.le_of_ble_eq_true rfl
  refine gy_iconst dL_law_311 ?_
  exact zb_L_law_312 hkc hks hr24 e
set_option maxRecDepth 100000 in
def b_L_law_307 (n : Nat) (L : Nat) (xs : Nat → Int) (r24 : Nat → Nat → Int → Int → Int → Int → gi_H → Option (Int × gi_H)) (v1 : Nat) (v2 : Nat) (v3 : Int) (v4 : Int) (v6 : Int)  (h : gi_H) : Option (Int × gi_H) :=
  b_L_law_312 n L xs r24 v1 v2 v3 v4 v6 (1 : Int) h
set_option maxRecDepth 100000 in
theorem zb_L_law_307 {n : Nat} {L : Nat} {xs : Nat → Int} {r24 : Nat → Nat → Int → Int → Int → Int → gi_H → Option (Int × gi_H)} {res : Int} {h1 : gi_H} {kc ks k : Nat} (hkc : kc + (k + 1) * 2000 ≤ 54186) (hks : ks + (k + 1) * 12000 ≤ 388187) (hr24 : ∀ (kc ks : Nat) (x1 : Nat) (x2 : Nat) (x3 : Int) (x4 : Int) (x5 : Int) (x6 : Int) (hh : gi_H), kc + k * 2000 ≤ 54186 → ks + k * 12000 ≤ 388187 → r24 x1 x2 x3 x4 x5 x6 hh = some (res, h1) → gx_Z (mL_law L xs) false false kc ks 24 [(0, .ref 100000), (1, .ref x1), (2, .ref x2), (3, .int (gI x3)), (4, .int (gI x4)), (5, .int (gI x5)), (6, .int (gI x6))] [] (gi_cv hh) (.inl (some (.int (gI res)))) (gi_cv h1)) {v1 : Nat} {v2 : Nat} {v3 : Int} {v4 : Int} {v6 : Int}  {h : gi_H} (e : b_L_law_307 n L xs r24 v1 v2 v3 v4 v6 h = some (res, h1)) : gx_Z (mL_law L xs) false false (kc + 57) (ks + 342) 307 [(0, .ref 100000), (1, .ref v1), (2, .ref v2), (3, .int (gI v3)), (4, .int (gI v4)), (6, .int (gI v6))] [] (gi_cv h) (.inl (some (.int (gI res)))) (gi_cv h1) := by
  have hKc : 54186 ≤ (gx_rm (mL_law L xs)).cells := Nat.le_of_ble_eq_true rfl
  have hKs : 388187 ≤ (gx_rm (mL_law L xs)).slots := Nat.le_of_ble_eq_true rfl
  refine gy_iconst dL_law_307 ?_
  refine gx_goto (tgt := 312) dL_law_308 (by decide) ?_
  exact zb_L_law_312 hkc hks hr24 e
set_option maxRecDepth 100000 in
def b_L_law_277 (n : Nat) (L : Nat) (xs : Nat → Int) (r24 : Nat → Nat → Int → Int → Int → Int → gi_H → Option (Int × gi_H)) (v1 : Nat) (v2 : Nat) (v3 : Int) (v4 : Int) (v6 : Int) (v12 : Int) (v13 : Int) (s0 : Int) (h : gi_H) : Option (Int × gi_H) :=
  Option.bind (gi_rg s0) fun _ => if s0 = 0 then (b_L_law_311 n L xs r24 v1 v2 v3 v4 v6 h) else (Option.bind (gi_rg v13) fun _ => if v13 < 0 then (b_L_law_307 n L xs r24 v1 v2 v3 v4 v6 h) else (Option.bind (f_L_undo v1 h) fun q192 => Option.bind (gi_rg q192.1) fun _ => Option.bind (gi_rg v12) fun _ => if q192.1 = v12 then (Option.bind (f_L_enter n v1 q192.2) fun q196 => Option.bind (gi_rg q196.1) fun _ => if q196.1 = v13 then (b_L_law_307 n L xs r24 v1 v2 v3 v4 v6 q196.2) else (b_L_law_311 n L xs r24 v1 v2 v3 v4 v6 q196.2)) else (b_L_law_311 n L xs r24 v1 v2 v3 v4 v6 q192.2)))
set_option maxRecDepth 100000 in
theorem zb_L_law_277 {n : Nat} {L : Nat} {xs : Nat → Int} {r24 : Nat → Nat → Int → Int → Int → Int → gi_H → Option (Int × gi_H)} {res : Int} {h1 : gi_H} {kc ks k : Nat} (hkc : kc + (k + 1) * 2000 ≤ 54186) (hks : ks + (k + 1) * 12000 ≤ 388187) (hr24 : ∀ (kc ks : Nat) (x1 : Nat) (x2 : Nat) (x3 : Int) (x4 : Int) (x5 : Int) (x6 : Int) (hh : gi_H), kc + k * 2000 ≤ 54186 → ks + k * 12000 ≤ 388187 → r24 x1 x2 x3 x4 x5 x6 hh = some (res, h1) → gx_Z (mL_law L xs) false false kc ks 24 [(0, .ref 100000), (1, .ref x1), (2, .ref x2), (3, .int (gI x3)), (4, .int (gI x4)), (5, .int (gI x5)), (6, .int (gI x6))] [] (gi_cv hh) (.inl (some (.int (gI res)))) (gi_cv h1)) {v1 : Nat} {v2 : Nat} {v3 : Int} {v4 : Int} {v6 : Int} {v12 : Int} {v13 : Int} {s0 : Int} {h : gi_H} (e : b_L_law_277 n L xs r24 v1 v2 v3 v4 v6 v12 v13 s0 h = some (res, h1)) : gx_Z (mL_law L xs) false false (kc + 55) (ks + 330) 277 [(0, .ref 100000), (1, .ref v1), (2, .ref v2), (3, .int (gI v3)), (4, .int (gI v4)), (6, .int (gI v6)), (12, .int (gI v12)), (13, .int (gI v13))] [.int (gI s0)] (gi_cv h) (.inl (some (.int (gI res)))) (gi_cv h1) := by
  have hKc : 54186 ≤ (gx_rm (mL_law L xs)).cells := Nat.le_of_ble_eq_true rfl
  have hKs : 388187 ≤ (gx_rm (mL_law L xs)).slots := Nat.le_of_ble_eq_true rfl
  refine gx_istore (ls2 := [(5, .int (gI s0)), (0, .ref 100000), (1, .ref v1), (2, .ref v2), (3, .int (gI v3)), (4, .int (gI v4)), (6, .int (gI v6)), (12, .int (gI v12)), (13, .int (gI v13))]) dL_law_277 (Nat.le_of_ble_eq_true rfl) rfl ?_
  refine gx_iload dL_law_279 0 rfl ?_
  refine gx_bE e (fun _ g188 e => ?_)
  refine gx_iE e (fun c189 e => ?_) (fun c189 e => ?_)
  · refine gy_if_eq (tgt := 311) (gi_rgS g188) dL_law_281 (by decide) (fun _ => ?_) (fun z => absurd c189 z)
    refine gx_sub (ls2 := [(0, .ref 100000), (1, .ref v1), (2, .ref v2), (3, .int (gI v3)), (4, .int (gI v4)), (6, .int (gI v6))]) [1, 2, 3, 4, 5, 6] rfl ?_
    refine gx_kup (kc2 := (kc + 57)) (ks2 := (ks + 342)) (by show (kc + 55) ≤ (kc + 57); omega) (by show (ks + 330) ≤ (ks + 342); omega) ?_
    exact zb_L_law_311 hkc hks hr24 e
  · refine gy_if_eq (tgt := 311) (gi_rgS g188) dL_law_281 (by decide) (fun z => absurd z c189) (fun _ => ?_)
    refine gx_iload dL_law_284 8 rfl ?_
    refine gx_bE e (fun _ g190 e => ?_)
    refine gx_iE e (fun c191 e => ?_) (fun c191 e => ?_)
    · refine gy_if_lt (tgt := 307) (gi_rgS g190) dL_law_286 (by decide) (fun _ => ?_) (fun z => absurd c191 z)
      refine gx_sub (ls2 := [(0, .ref 100000), (1, .ref v1), (2, .ref v2), (3, .int (gI v3)), (4, .int (gI v4)), (6, .int (gI v6))]) [1, 2, 3, 4, 5, 6] rfl ?_
      refine gx_kup (kc2 := (kc + 57)) (ks2 := (ks + 342)) (by show (kc + 55) ≤ (kc + 57); omega) (by show (ks + 330) ≤ (ks + 342); omega) ?_
      exact zb_L_law_307 hkc hks hr24 e
    · refine gy_if_lt (tgt := 307) (gi_rgS g190) dL_law_286 (by decide) (fun z => absurd z c191) (fun _ => ?_)
      refine gx_aload_n dL_law_289 rfl 2 rfl ?_
      refine gx_bE e (fun q192 hq192 e => ?_)
      refine gx_callSW (n := 1) (st := []) (As := [.ref v1]) dL_law_290 (z_L_undo hq192) rfl ⟨(by decide +kernel), gw_cw_L_undo, gw_0, gp_L_undo, ⟨Nat.le_of_ble_eq_true rfl, Nat.le_of_ble_eq_true rfl⟩⟩ gw_833 gw_834 ⟨by show (kc + 56) ≤ _; omega, by show (ks + 336) ≤ _; omega⟩ (Nat.le_of_ble_eq_true rfl) (gy_k1 (x := .int (gI q192.1)) (kc2 := (kc + 56)) (ks2 := (ks + 336)) ⟨rfl, rfl⟩ ?_)
      refine gx_iload dL_law_293 7 rfl ?_
      refine gx_bE e (fun _ g193 e => ?_)
      refine gx_bE e (fun _ g194 e => ?_)
      refine gx_iE e (fun c195 e => ?_) (fun c195 e => ?_)
      · refine gy_icmp_ne (tgt := 311) (gi_rgS g193) (gi_rgS g194) dL_law_295 (by decide) (fun z => absurd c195 z) (fun _ => ?_)
        refine gx_aload_n dL_law_298 rfl 2 rfl ?_
        refine gx_bE e (fun q196 hq196 e => ?_)
        refine gx_callSW (n := 1) (st := []) (As := [.ref v1]) dL_law_299 (z_L_enter hq196) rfl ⟨(by decide +kernel), gw_cw_L_enter, gw_0, gp_L_enter, ⟨Nat.le_of_ble_eq_true rfl, Nat.le_of_ble_eq_true rfl⟩⟩ gw_758 gw_759 ⟨by show (kc + 57) ≤ _; omega, by show (ks + 342) ≤ _; omega⟩ (Nat.le_of_ble_eq_true rfl) (gy_k1 (x := .int (gI q196.1)) (kc2 := (kc + 57)) (ks2 := (ks + 342)) ⟨rfl, rfl⟩ ?_)
        refine gx_iload dL_law_302 8 rfl ?_
        refine gx_bE e (fun _ g197 e => ?_)
        refine gx_iE e (fun c198 e => ?_) (fun c198 e => ?_)
        · refine gy_icmp_ne (tgt := 311) (gi_rgS g197) (gi_rgS g190) dL_law_304 (by decide) (fun z => absurd c198 z) (fun _ => ?_)
          refine gx_sub (ls2 := [(0, .ref 100000), (1, .ref v1), (2, .ref v2), (3, .int (gI v3)), (4, .int (gI v4)), (6, .int (gI v6))]) [1, 2, 3, 4, 5, 6] rfl ?_
          exact zb_L_law_307 hkc hks hr24 e
        · refine gy_icmp_ne (tgt := 311) (gi_rgS g197) (gi_rgS g190) dL_law_304 (by decide) (fun _ => ?_) (fun z => absurd z c198)
          refine gx_sub (ls2 := [(0, .ref 100000), (1, .ref v1), (2, .ref v2), (3, .int (gI v3)), (4, .int (gI v4)), (6, .int (gI v6))]) [1, 2, 3, 4, 5, 6] rfl ?_
          exact zb_L_law_311 hkc hks hr24 e
      · refine gy_icmp_ne (tgt := 311) (gi_rgS g193) (gi_rgS g194) dL_law_295 (by decide) (fun _ => ?_) (fun z => absurd z c195)
        refine gx_sub (ls2 := [(0, .ref 100000), (1, .ref v1), (2, .ref v2), (3, .int (gI v3)), (4, .int (gI v4)), (6, .int (gI v6))]) [1, 2, 3, 4, 5, 6] rfl ?_
        refine gx_kup (kc2 := (kc + 57)) (ks2 := (ks + 342)) (by show (kc + 56) ≤ (kc + 57); omega) (by show (ks + 336) ≤ (ks + 342); omega) ?_
        exact zb_L_law_311 hkc hks hr24 e
set_option maxRecDepth 100000 in
def b_L_law_276 (n : Nat) (L : Nat) (xs : Nat → Int) (r24 : Nat → Nat → Int → Int → Int → Int → gi_H → Option (Int × gi_H)) (v1 : Nat) (v2 : Nat) (v3 : Int) (v4 : Int) (v6 : Int) (v12 : Int) (v13 : Int)  (h : gi_H) : Option (Int × gi_H) :=
  b_L_law_277 n L xs r24 v1 v2 v3 v4 v6 v12 v13 (0 : Int) h
set_option maxRecDepth 100000 in
theorem zb_L_law_276 {n : Nat} {L : Nat} {xs : Nat → Int} {r24 : Nat → Nat → Int → Int → Int → Int → gi_H → Option (Int × gi_H)} {res : Int} {h1 : gi_H} {kc ks k : Nat} (hkc : kc + (k + 1) * 2000 ≤ 54186) (hks : ks + (k + 1) * 12000 ≤ 388187) (hr24 : ∀ (kc ks : Nat) (x1 : Nat) (x2 : Nat) (x3 : Int) (x4 : Int) (x5 : Int) (x6 : Int) (hh : gi_H), kc + k * 2000 ≤ 54186 → ks + k * 12000 ≤ 388187 → r24 x1 x2 x3 x4 x5 x6 hh = some (res, h1) → gx_Z (mL_law L xs) false false kc ks 24 [(0, .ref 100000), (1, .ref x1), (2, .ref x2), (3, .int (gI x3)), (4, .int (gI x4)), (5, .int (gI x5)), (6, .int (gI x6))] [] (gi_cv hh) (.inl (some (.int (gI res)))) (gi_cv h1)) {v1 : Nat} {v2 : Nat} {v3 : Int} {v4 : Int} {v6 : Int} {v12 : Int} {v13 : Int}  {h : gi_H} (e : b_L_law_276 n L xs r24 v1 v2 v3 v4 v6 v12 v13 h = some (res, h1)) : gx_Z (mL_law L xs) false false (kc + 55) (ks + 330) 276 [(0, .ref 100000), (1, .ref v1), (2, .ref v2), (3, .int (gI v3)), (4, .int (gI v4)), (6, .int (gI v6)), (12, .int (gI v12)), (13, .int (gI v13))] [] (gi_cv h) (.inl (some (.int (gI res)))) (gi_cv h1) := by
  have hKc : 54186 ≤ (gx_rm (mL_law L xs)).cells := Nat.le_of_ble_eq_true rfl
  have hKs : 388187 ≤ (gx_rm (mL_law L xs)).slots := Nat.le_of_ble_eq_true rfl
  refine gy_iconst dL_law_276 ?_
  exact zb_L_law_277 hkc hks hr24 e
set_option maxRecDepth 100000 in
def b_L_law_187 (n : Nat) (L : Nat) (xs : Nat → Int) (r24 : Nat → Nat → Int → Int → Int → Int → gi_H → Option (Int × gi_H)) (v1 : Nat) (v2 : Nat) (v3 : Int) (v4 : Int) (v5 : Int) (v6 : Int)  (h : gi_H) : Option (Int × gi_H) :=
  Option.bind (gi_rg v5) fun _ => if v5 = 0 then (b_L_law_314 n L xs r24 v1 v2 v3 v4 v5 v6 h) else (Option.bind (gi_is h v1 9) fun _ => Option.bind (f_X11_productions v1 h) fun q179 => Option.bind (f_L_enter n v1 h) fun q180 => Option.bind (gi_rg q180.1) fun _ => if q180.1 = (-103 : Int) then (Option.bind (gi_is q180.2 v1 9) fun _ => Option.bind (f_X11_productions v1 q180.2) fun q184 => Option.bind (gi_rg q184) fun _ => Option.bind (gi_rg q179) fun _ => if q184 = q179 then (b_L_law_277 n L xs r24 v1 v2 v3 v4 v6 q179 q180.1 (1 : Int) q180.2) else (b_L_law_277 n L xs r24 v1 v2 v3 v4 v6 q179 q180.1 (0 : Int) q180.2)) else (Option.bind (gi_rg q179) fun _ => if q180.1 ≤ q179 then (b_L_law_276 n L xs r24 v1 v2 v3 v4 v6 q179 q180.1 q180.2) else (Option.bind (gi_is q180.2 v1 9) fun _ => Option.bind (f_X11_productions v1 q180.2) fun q202 => Option.bind (gi_rg q202) fun _ => if q202 = q180.1 then (Option.bind (f_L_left v1 (q180.1 - (1 : Int)) q180.2) fun q205 => Option.bind (gi_aI q205.2 1 v2 (0 : Int)) fun t206 => Option.bind (gi_rg q205.1) fun _ => Option.bind (gi_rg (t206 - (65 : Int))) fun _ => if q205.1 = (t206 - (65 : Int)) then (Option.bind (f_L_left v1 q180.1 q205.2) fun q210 => Option.bind (gi_rg q210.1) fun _ => if q210.1 = (-101 : Int) then (b_L_law_277 n L xs r24 v1 v2 v3 v4 v6 q179 q180.1 (1 : Int) q210.2) else (b_L_law_276 n L xs r24 v1 v2 v3 v4 v6 q179 q180.1 q210.2)) else (b_L_law_276 n L xs r24 v1 v2 v3 v4 v6 q179 q180.1 q205.2)) else (b_L_law_276 n L xs r24 v1 v2 v3 v4 v6 q179 q180.1 q180.2))))
set_option maxRecDepth 100000 in
theorem zb_L_law_187 {n : Nat} {L : Nat} {xs : Nat → Int} {r24 : Nat → Nat → Int → Int → Int → Int → gi_H → Option (Int × gi_H)} {res : Int} {h1 : gi_H} {kc ks k : Nat} (hkc : kc + (k + 1) * 2000 ≤ 54186) (hks : ks + (k + 1) * 12000 ≤ 388187) (hr24 : ∀ (kc ks : Nat) (x1 : Nat) (x2 : Nat) (x3 : Int) (x4 : Int) (x5 : Int) (x6 : Int) (hh : gi_H), kc + k * 2000 ≤ 54186 → ks + k * 12000 ≤ 388187 → r24 x1 x2 x3 x4 x5 x6 hh = some (res, h1) → gx_Z (mL_law L xs) false false kc ks 24 [(0, .ref 100000), (1, .ref x1), (2, .ref x2), (3, .int (gI x3)), (4, .int (gI x4)), (5, .int (gI x5)), (6, .int (gI x6))] [] (gi_cv hh) (.inl (some (.int (gI res)))) (gi_cv h1)) {v1 : Nat} {v2 : Nat} {v3 : Int} {v4 : Int} {v5 : Int} {v6 : Int}  {h : gi_H} (e : b_L_law_187 n L xs r24 v1 v2 v3 v4 v5 v6 h = some (res, h1)) : gx_Z (mL_law L xs) false false (kc + 52) (ks + 312) 187 [(0, .ref 100000), (1, .ref v1), (2, .ref v2), (3, .int (gI v3)), (4, .int (gI v4)), (5, .int (gI v5)), (6, .int (gI v6))] [] (gi_cv h) (.inl (some (.int (gI res)))) (gi_cv h1) := by
  have hKc : 54186 ≤ (gx_rm (mL_law L xs)).cells := Nat.le_of_ble_eq_true rfl
  have hKs : 388187 ≤ (gx_rm (mL_law L xs)).slots := Nat.le_of_ble_eq_true rfl
  refine gx_iload dL_law_187 5 rfl ?_
  refine gx_bE e (fun _ g176 e => ?_)
  refine gx_iE e (fun c177 e => ?_) (fun c177 e => ?_)
  · refine gy_if_eq (tgt := 314) (gi_rgS g176) dL_law_189 (by decide) (fun _ => ?_) (fun z => absurd c177 z)
    refine gx_kup (kc2 := (kc + 106)) (ks2 := (ks + 636)) (by show (kc + 52) ≤ (kc + 106); omega) (by show (ks + 312) ≤ (ks + 636); omega) ?_
    exact zb_L_law_314 hkc hks hr24 e
  · refine gy_if_eq (tgt := 314) (gi_rgS g176) dL_law_189 (by decide) (fun z => absurd z c177) (fun _ => ?_)
    refine gx_aload_n dL_law_192 rfl 1 rfl ?_
    refine gx_bE e (fun _ hu178 e => ?_)
    refine gx_bE e (fun q179 hq179 e => ?_)
    refine gx_callV (n := 0) (st := []) (As := []) (b := v1) dL_law_193 (z_X11_productions hq179) rfl ⟨rfl, gw_cw_X11_productions, gw_1, gp_X11_productions, ⟨Nat.le_of_ble_eq_true rfl, Nat.le_of_ble_eq_true rfl⟩⟩ (gi_isS hu178) (by decide) gw_379 gw_380 gw_381 rfl ⟨by show (kc + 52) ≤ _; omega, by show (ks + 312) ≤ _; omega⟩ (Nat.le_of_ble_eq_true rfl) (gy_k1 (x := .int (gI q179)) (kc2 := (kc + 52)) (ks2 := (ks + 312)) ⟨rfl, rfl⟩ ?_) gy_kn
    refine gx_istore (ls2 := [(12, .int (gI q179)), (0, .ref 100000), (1, .ref v1), (2, .ref v2), (3, .int (gI v3)), (4, .int (gI v4)), (5, .int (gI v5)), (6, .int (gI v6))]) dL_law_196 (Nat.le_of_ble_eq_true rfl) rfl ?_
    refine gx_aload_n dL_law_198 rfl 2 rfl ?_
    refine gx_bE e (fun q180 hq180 e => ?_)
    refine gx_callSW (n := 1) (st := []) (As := [.ref v1]) dL_law_199 (z_L_enter hq180) rfl ⟨(by decide +kernel), gw_cw_L_enter, gw_0, gp_L_enter, ⟨Nat.le_of_ble_eq_true rfl, Nat.le_of_ble_eq_true rfl⟩⟩ gw_758 gw_759 ⟨by show (kc + 53) ≤ _; omega, by show (ks + 318) ≤ _; omega⟩ (Nat.le_of_ble_eq_true rfl) (gy_k1 (x := .int (gI q180.1)) (kc2 := (kc + 53)) (ks2 := (ks + 318)) ⟨rfl, rfl⟩ ?_)
    refine gx_istore (ls2 := [(13, .int (gI q180.1)), (12, .int (gI q179)), (0, .ref 100000), (1, .ref v1), (2, .ref v2), (3, .int (gI v3)), (4, .int (gI v4)), (5, .int (gI v5)), (6, .int (gI v6))]) dL_law_202 (Nat.le_of_ble_eq_true rfl) rfl ?_
    refine gx_iload dL_law_204 0 rfl ?_
    refine gy_bipush dL_law_206 gcb_m103 ?_
    refine gx_bE e (fun _ g181 e => ?_)
    refine gx_iE e (fun c182 e => ?_) (fun c182 e => ?_)
    · refine gy_icmp_ne (tgt := 228) (gi_rgS g181) (by decide) dL_law_208 (by decide) (fun z => absurd c182 z) (fun _ => ?_)
      refine gx_aload_n dL_law_211 rfl 3 rfl ?_
      refine gx_bE e (fun _ hu183 e => ?_)
      refine gx_bE e (fun q184 hq184 e => ?_)
      refine gx_callV (n := 0) (st := []) (As := []) (b := v1) dL_law_212 (z_X11_productions hq184) rfl ⟨rfl, gw_cw_X11_productions, gw_1, gp_X11_productions, ⟨Nat.le_of_ble_eq_true rfl, Nat.le_of_ble_eq_true rfl⟩⟩ (gi_isS hu183) (by decide) gw_379 gw_380 gw_381 rfl ⟨by show (kc + 53) ≤ _; omega, by show (ks + 318) ≤ _; omega⟩ (Nat.le_of_ble_eq_true rfl) (gy_k1 (x := .int (gI q184)) (kc2 := (kc + 53)) (ks2 := (ks + 318)) ⟨rfl, rfl⟩ ?_) gy_kn
      refine gx_iload dL_law_215 1 rfl ?_
      refine gx_bE e (fun _ g185 e => ?_)
      refine gx_bE e (fun _ g186 e => ?_)
      refine gx_iE e (fun c187 e => ?_) (fun c187 e => ?_)
      · refine gy_icmp_ne (tgt := 224) (gi_rgS g185) (gi_rgS g186) dL_law_217 (by decide) (fun z => absurd c187 z) (fun _ => ?_)
        refine gy_iconst dL_law_220 ?_
        refine gx_goto (tgt := 277) dL_law_221 (by decide) ?_
        refine gx_sub (ls2 := [(0, .ref 100000), (1, .ref v1), (2, .ref v2), (3, .int (gI v3)), (4, .int (gI v4)), (6, .int (gI v6)), (12, .int (gI q179)), (13, .int (gI q180.1))]) [2, 3, 4, 5, 6, 8, 1, 0] rfl ?_
        refine gx_kup (kc2 := (kc + 55)) (ks2 := (ks + 330)) (by show (kc + 53) ≤ (kc + 55); omega) (by show (ks + 318) ≤ (ks + 330); omega) ?_
        exact zb_L_law_277 hkc hks hr24 e
      · refine gy_icmp_ne (tgt := 224) (gi_rgS g185) (gi_rgS g186) dL_law_217 (by decide) (fun _ => ?_) (fun z => absurd z c187)
        refine gy_iconst dL_law_224 ?_
        refine gx_goto (tgt := 277) dL_law_225 (by decide) ?_
        refine gx_sub (ls2 := [(0, .ref 100000), (1, .ref v1), (2, .ref v2), (3, .int (gI v3)), (4, .int (gI v4)), (6, .int (gI v6)), (12, .int (gI q179)), (13, .int (gI q180.1))]) [2, 3, 4, 5, 6, 8, 1, 0] rfl ?_
        refine gx_kup (kc2 := (kc + 55)) (ks2 := (ks + 330)) (by show (kc + 53) ≤ (kc + 55); omega) (by show (ks + 318) ≤ (ks + 330); omega) ?_
        exact zb_L_law_277 hkc hks hr24 e
    · refine gy_icmp_ne (tgt := 228) (gi_rgS g181) (by decide) dL_law_208 (by decide) (fun _ => ?_) (fun z => absurd z c182)
      refine gx_iload dL_law_228 0 rfl ?_
      refine gx_iload dL_law_230 1 rfl ?_
      refine gx_bE e (fun _ g199 e => ?_)
      refine gx_iE e (fun c200 e => ?_) (fun c200 e => ?_)
      · refine gy_icmp_le (tgt := 276) (gi_rgS g181) (gi_rgS g199) dL_law_232 (by decide) (fun _ => ?_) (fun z => absurd c200 z)
        refine gx_sub (ls2 := [(0, .ref 100000), (1, .ref v1), (2, .ref v2), (3, .int (gI v3)), (4, .int (gI v4)), (6, .int (gI v6)), (12, .int (gI q179)), (13, .int (gI q180.1))]) [2, 3, 4, 5, 6, 8, 1, 0] rfl ?_
        refine gx_kup (kc2 := (kc + 55)) (ks2 := (ks + 330)) (by show (kc + 53) ≤ (kc + 55); omega) (by show (ks + 318) ≤ (ks + 330); omega) ?_
        exact zb_L_law_276 hkc hks hr24 e
      · refine gy_icmp_le (tgt := 276) (gi_rgS g181) (gi_rgS g199) dL_law_232 (by decide) (fun z => absurd z c200) (fun _ => ?_)
        refine gx_aload_n dL_law_235 rfl 3 rfl ?_
        refine gx_bE e (fun _ hu201 e => ?_)
        refine gx_bE e (fun q202 hq202 e => ?_)
        refine gx_callV (n := 0) (st := []) (As := []) (b := v1) dL_law_236 (z_X11_productions hq202) rfl ⟨rfl, gw_cw_X11_productions, gw_1, gp_X11_productions, ⟨Nat.le_of_ble_eq_true rfl, Nat.le_of_ble_eq_true rfl⟩⟩ (gi_isS hu201) (by decide) gw_379 gw_380 gw_381 rfl ⟨by show (kc + 53) ≤ _; omega, by show (ks + 318) ≤ _; omega⟩ (Nat.le_of_ble_eq_true rfl) (gy_k1 (x := .int (gI q202)) (kc2 := (kc + 53)) (ks2 := (ks + 318)) ⟨rfl, rfl⟩ ?_) gy_kn
        refine gx_iload dL_law_239 0 rfl ?_
        refine gx_bE e (fun _ g203 e => ?_)
        refine gx_iE e (fun c204 e => ?_) (fun c204 e => ?_)
        · refine gy_icmp_ne (tgt := 276) (gi_rgS g203) (gi_rgS g181) dL_law_241 (by decide) (fun z => absurd c204 z) (fun _ => ?_)
          refine gx_aload_n dL_law_244 rfl 3 rfl ?_
          refine gx_iload dL_law_245 0 rfl ?_
          refine gy_iconst dL_law_247 ?_
          refine gy_isub dL_law_248 ?_
          refine gx_bE e (fun q205 hq205 e => ?_)
          refine gx_callSW (n := 2) (st := []) (As := [.ref v1, .int (gI (q180.1 - (1 : Int)))]) dL_law_249 (z_L_left hq205) rfl ⟨(by decide +kernel), gw_cw_L_left, gw_0, gp_L_left, ⟨Nat.le_of_ble_eq_true rfl, Nat.le_of_ble_eq_true rfl⟩⟩ gw_909 gw_910 ⟨by show (kc + 54) ≤ _; omega, by show (ks + 324) ≤ _; omega⟩ (Nat.le_of_ble_eq_true rfl) (gy_k1 (x := .int (gI q205.1)) (kc2 := (kc + 54)) (ks2 := (ks + 324)) ⟨rfl, rfl⟩ ?_)
          refine gx_aload_n dL_law_252 rfl 4 rfl ?_
          refine gy_iconst dL_law_253 ?_
          refine gx_bE e (fun t206 ht206 e => ?_)
          refine gy_l1 ht206 dL_law_254 ?_
          refine gy_bipush dL_law_255 gcb_65 ?_
          refine gy_isub dL_law_257 ?_
          refine gx_bE e (fun _ g207 e => ?_)
          refine gx_bE e (fun _ g208 e => ?_)
          refine gx_iE e (fun c209 e => ?_) (fun c209 e => ?_)
          · refine gy_icmp_ne (tgt := 276) (gi_rgS g207) (gi_rgS g208) dL_law_258 (by decide) (fun z => absurd c209 z) (fun _ => ?_)
            refine gx_aload_n dL_law_261 rfl 3 rfl ?_
            refine gx_iload dL_law_262 0 rfl ?_
            refine gx_bE e (fun q210 hq210 e => ?_)
            refine gx_callSW (n := 2) (st := []) (As := [.ref v1, .int (gI q180.1)]) dL_law_264 (z_L_left hq210) rfl ⟨(by decide +kernel), gw_cw_L_left, gw_0, gp_L_left, ⟨Nat.le_of_ble_eq_true rfl, Nat.le_of_ble_eq_true rfl⟩⟩ gw_909 gw_910 ⟨by show (kc + 55) ≤ _; omega, by show (ks + 330) ≤ _; omega⟩ (Nat.le_of_ble_eq_true rfl) (gy_k1 (x := .int (gI q210.1)) (kc2 := (kc + 55)) (ks2 := (ks + 330)) ⟨rfl, rfl⟩ ?_)
            refine gy_bipush dL_law_267 gcb_m101 ?_
            refine gx_bE e (fun _ g211 e => ?_)
            refine gx_iE e (fun c212 e => ?_) (fun c212 e => ?_)
            · refine gy_icmp_ne (tgt := 276) (gi_rgS g211) (by decide) dL_law_269 (by decide) (fun z => absurd c212 z) (fun _ => ?_)
              refine gy_iconst dL_law_272 ?_
              refine gx_goto (tgt := 277) dL_law_273 (by decide) ?_
              refine gx_sub (ls2 := [(0, .ref 100000), (1, .ref v1), (2, .ref v2), (3, .int (gI v3)), (4, .int (gI v4)), (6, .int (gI v6)), (12, .int (gI q179)), (13, .int (gI q180.1))]) [2, 3, 4, 5, 6, 8, 1, 0] rfl ?_
              exact zb_L_law_277 hkc hks hr24 e
            · refine gy_icmp_ne (tgt := 276) (gi_rgS g211) (by decide) dL_law_269 (by decide) (fun _ => ?_) (fun z => absurd z c212)
              refine gx_sub (ls2 := [(0, .ref 100000), (1, .ref v1), (2, .ref v2), (3, .int (gI v3)), (4, .int (gI v4)), (6, .int (gI v6)), (12, .int (gI q179)), (13, .int (gI q180.1))]) [2, 3, 4, 5, 6, 8, 1, 0] rfl ?_
              exact zb_L_law_276 hkc hks hr24 e
          · refine gy_icmp_ne (tgt := 276) (gi_rgS g207) (gi_rgS g208) dL_law_258 (by decide) (fun _ => ?_) (fun z => absurd z c209)
            refine gx_sub (ls2 := [(0, .ref 100000), (1, .ref v1), (2, .ref v2), (3, .int (gI v3)), (4, .int (gI v4)), (6, .int (gI v6)), (12, .int (gI q179)), (13, .int (gI q180.1))]) [2, 3, 4, 5, 6, 8, 1, 0] rfl ?_
            refine gx_kup (kc2 := (kc + 55)) (ks2 := (ks + 330)) (by show (kc + 54) ≤ (kc + 55); omega) (by show (ks + 324) ≤ (ks + 330); omega) ?_
            exact zb_L_law_276 hkc hks hr24 e
        · refine gy_icmp_ne (tgt := 276) (gi_rgS g203) (gi_rgS g181) dL_law_241 (by decide) (fun _ => ?_) (fun z => absurd z c204)
          refine gx_sub (ls2 := [(0, .ref 100000), (1, .ref v1), (2, .ref v2), (3, .int (gI v3)), (4, .int (gI v4)), (6, .int (gI v6)), (12, .int (gI q179)), (13, .int (gI q180.1))]) [2, 3, 4, 5, 6, 8, 1, 0] rfl ?_
          refine gx_kup (kc2 := (kc + 55)) (ks2 := (ks + 330)) (by show (kc + 53) ≤ (kc + 55); omega) (by show (ks + 318) ≤ (ks + 330); omega) ?_
          exact zb_L_law_276 hkc hks hr24 e
set_option maxRecDepth 100000 in
def b_L_law_182 (n : Nat) (L : Nat) (xs : Nat → Int) (r24 : Nat → Nat → Int → Int → Int → Int → gi_H → Option (Int × gi_H)) (v1 : Nat) (v2 : Nat) (v3 : Int) (v4 : Int) (v6 : Int) (s0 : Int) (h : gi_H) : Option (Int × gi_H) :=
  b_L_law_314 n L xs r24 v1 v2 v3 v4 s0 v6 h
set_option maxRecDepth 100000 in
theorem zb_L_law_182 {n : Nat} {L : Nat} {xs : Nat → Int} {r24 : Nat → Nat → Int → Int → Int → Int → gi_H → Option (Int × gi_H)} {res : Int} {h1 : gi_H} {kc ks k : Nat} (hkc : kc + (k + 1) * 2000 ≤ 54186) (hks : ks + (k + 1) * 12000 ≤ 388187) (hr24 : ∀ (kc ks : Nat) (x1 : Nat) (x2 : Nat) (x3 : Int) (x4 : Int) (x5 : Int) (x6 : Int) (hh : gi_H), kc + k * 2000 ≤ 54186 → ks + k * 12000 ≤ 388187 → r24 x1 x2 x3 x4 x5 x6 hh = some (res, h1) → gx_Z (mL_law L xs) false false kc ks 24 [(0, .ref 100000), (1, .ref x1), (2, .ref x2), (3, .int (gI x3)), (4, .int (gI x4)), (5, .int (gI x5)), (6, .int (gI x6))] [] (gi_cv hh) (.inl (some (.int (gI res)))) (gi_cv h1)) {v1 : Nat} {v2 : Nat} {v3 : Int} {v4 : Int} {v6 : Int} {s0 : Int} {h : gi_H} (e : b_L_law_182 n L xs r24 v1 v2 v3 v4 v6 s0 h = some (res, h1)) : gx_Z (mL_law L xs) false false (kc + 106) (ks + 636) 182 [(0, .ref 100000), (1, .ref v1), (2, .ref v2), (3, .int (gI v3)), (4, .int (gI v4)), (6, .int (gI v6))] [.int (gI s0)] (gi_cv h) (.inl (some (.int (gI res)))) (gi_cv h1) := by
  have hKc : 54186 ≤ (gx_rm (mL_law L xs)).cells := Nat.le_of_ble_eq_true rfl
  have hKs : 388187 ≤ (gx_rm (mL_law L xs)).slots := Nat.le_of_ble_eq_true rfl
  refine gx_istore (ls2 := [(5, .int (gI s0)), (0, .ref 100000), (1, .ref v1), (2, .ref v2), (3, .int (gI v3)), (4, .int (gI v4)), (6, .int (gI v6))]) dL_law_182 (Nat.le_of_ble_eq_true rfl) rfl ?_
  refine gx_goto (tgt := 314) dL_law_184 (by decide) ?_
  refine gx_sub (ls2 := [(0, .ref 100000), (1, .ref v1), (2, .ref v2), (3, .int (gI v3)), (4, .int (gI v4)), (5, .int (gI s0)), (6, .int (gI v6))]) [1, 2, 3, 4, 5, 0, 6] rfl ?_
  exact zb_L_law_314 hkc hks hr24 e
set_option maxRecDepth 100000 in
def b_L_law_181 (n : Nat) (L : Nat) (xs : Nat → Int) (r24 : Nat → Nat → Int → Int → Int → Int → gi_H → Option (Int × gi_H)) (v1 : Nat) (v2 : Nat) (v3 : Int) (v4 : Int) (v6 : Int)  (h : gi_H) : Option (Int × gi_H) :=
  b_L_law_182 n L xs r24 v1 v2 v3 v4 v6 (0 : Int) h
set_option maxRecDepth 100000 in
theorem zb_L_law_181 {n : Nat} {L : Nat} {xs : Nat → Int} {r24 : Nat → Nat → Int → Int → Int → Int → gi_H → Option (Int × gi_H)} {res : Int} {h1 : gi_H} {kc ks k : Nat} (hkc : kc + (k + 1) * 2000 ≤ 54186) (hks : ks + (k + 1) * 12000 ≤ 388187) (hr24 : ∀ (kc ks : Nat) (x1 : Nat) (x2 : Nat) (x3 : Int) (x4 : Int) (x5 : Int) (x6 : Int) (hh : gi_H), kc + k * 2000 ≤ 54186 → ks + k * 12000 ≤ 388187 → r24 x1 x2 x3 x4 x5 x6 hh = some (res, h1) → gx_Z (mL_law L xs) false false kc ks 24 [(0, .ref 100000), (1, .ref x1), (2, .ref x2), (3, .int (gI x3)), (4, .int (gI x4)), (5, .int (gI x5)), (6, .int (gI x6))] [] (gi_cv hh) (.inl (some (.int (gI res)))) (gi_cv h1)) {v1 : Nat} {v2 : Nat} {v3 : Int} {v4 : Int} {v6 : Int}  {h : gi_H} (e : b_L_law_181 n L xs r24 v1 v2 v3 v4 v6 h = some (res, h1)) : gx_Z (mL_law L xs) false false (kc + 106) (ks + 636) 181 [(0, .ref 100000), (1, .ref v1), (2, .ref v2), (3, .int (gI v3)), (4, .int (gI v4)), (6, .int (gI v6))] [] (gi_cv h) (.inl (some (.int (gI res)))) (gi_cv h1) := by
  have hKc : 54186 ≤ (gx_rm (mL_law L xs)).cells := Nat.le_of_ble_eq_true rfl
  have hKs : 388187 ≤ (gx_rm (mL_law L xs)).slots := Nat.le_of_ble_eq_true rfl
  refine gy_iconst dL_law_181 ?_
  exact zb_L_law_182 hkc hks hr24 e
set_option maxRecDepth 100000 in
def b_L_law_177 (n : Nat) (L : Nat) (xs : Nat → Int) (r24 : Nat → Nat → Int → Int → Int → Int → gi_H → Option (Int × gi_H)) (v1 : Nat) (v2 : Nat) (v3 : Int) (v4 : Int) (v6 : Int)  (h : gi_H) : Option (Int × gi_H) :=
  b_L_law_182 n L xs r24 v1 v2 v3 v4 v6 (1 : Int) h
set_option maxRecDepth 100000 in
theorem zb_L_law_177 {n : Nat} {L : Nat} {xs : Nat → Int} {r24 : Nat → Nat → Int → Int → Int → Int → gi_H → Option (Int × gi_H)} {res : Int} {h1 : gi_H} {kc ks k : Nat} (hkc : kc + (k + 1) * 2000 ≤ 54186) (hks : ks + (k + 1) * 12000 ≤ 388187) (hr24 : ∀ (kc ks : Nat) (x1 : Nat) (x2 : Nat) (x3 : Int) (x4 : Int) (x5 : Int) (x6 : Int) (hh : gi_H), kc + k * 2000 ≤ 54186 → ks + k * 12000 ≤ 388187 → r24 x1 x2 x3 x4 x5 x6 hh = some (res, h1) → gx_Z (mL_law L xs) false false kc ks 24 [(0, .ref 100000), (1, .ref x1), (2, .ref x2), (3, .int (gI x3)), (4, .int (gI x4)), (5, .int (gI x5)), (6, .int (gI x6))] [] (gi_cv hh) (.inl (some (.int (gI res)))) (gi_cv h1)) {v1 : Nat} {v2 : Nat} {v3 : Int} {v4 : Int} {v6 : Int}  {h : gi_H} (e : b_L_law_177 n L xs r24 v1 v2 v3 v4 v6 h = some (res, h1)) : gx_Z (mL_law L xs) false false (kc + 106) (ks + 636) 177 [(0, .ref 100000), (1, .ref v1), (2, .ref v2), (3, .int (gI v3)), (4, .int (gI v4)), (6, .int (gI v6))] [] (gi_cv h) (.inl (some (.int (gI res)))) (gi_cv h1) := by
  have hKc : 54186 ≤ (gx_rm (mL_law L xs)).cells := Nat.le_of_ble_eq_true rfl
  have hKs : 388187 ≤ (gx_rm (mL_law L xs)).slots := Nat.le_of_ble_eq_true rfl
  refine gy_iconst dL_law_177 ?_
  refine gx_goto (tgt := 182) dL_law_178 (by decide) ?_
  exact zb_L_law_182 hkc hks hr24 e
set_option maxRecDepth 100000 in
def b_L_law_146 (n : Nat) (L : Nat) (xs : Nat → Int) (r24 : Nat → Nat → Int → Int → Int → Int → gi_H → Option (Int × gi_H)) (v1 : Nat) (v2 : Nat) (v3 : Int) (v4 : Int) (v6 : Int) (v10 : Int) (v11 : Int)  (h : gi_H) : Option (Int × gi_H) :=
  Option.bind (gi_rg v11) fun _ => Option.bind (gi_rg v10) fun _ => if v11 = v10 then (b_L_law_177 n L xs r24 v1 v2 v3 v4 v6 h) else (Option.bind (gi_aI h 1 v2 v11) fun t228 => Option.bind (f_L_type v1 t228 h) fun q229 => Option.bind (gi_rg q229.1) fun _ => Option.bind (gi_rg (v11 + (1 : Int))) fun _ => if q229.1 = (v11 + (1 : Int)) then (Option.bind (gi_is q229.2 v1 9) fun _ => Option.bind (f_X11_fault n v1 q229.2) fun q234 => Option.bind (gi_rg q234) fun _ => if q234 = v11 then (b_L_law_177 n L xs r24 v1 v2 v3 v4 v6 q229.2) else (b_L_law_181 n L xs r24 v1 v2 v3 v4 v6 q229.2)) else (b_L_law_181 n L xs r24 v1 v2 v3 v4 v6 q229.2))
set_option maxRecDepth 100000 in
theorem zb_L_law_146 {n : Nat} {L : Nat} {xs : Nat → Int} {r24 : Nat → Nat → Int → Int → Int → Int → gi_H → Option (Int × gi_H)} {res : Int} {h1 : gi_H} {kc ks k : Nat} (hkc : kc + (k + 1) * 2000 ≤ 54186) (hks : ks + (k + 1) * 12000 ≤ 388187) (hr24 : ∀ (kc ks : Nat) (x1 : Nat) (x2 : Nat) (x3 : Int) (x4 : Int) (x5 : Int) (x6 : Int) (hh : gi_H), kc + k * 2000 ≤ 54186 → ks + k * 12000 ≤ 388187 → r24 x1 x2 x3 x4 x5 x6 hh = some (res, h1) → gx_Z (mL_law L xs) false false kc ks 24 [(0, .ref 100000), (1, .ref x1), (2, .ref x2), (3, .int (gI x3)), (4, .int (gI x4)), (5, .int (gI x5)), (6, .int (gI x6))] [] (gi_cv hh) (.inl (some (.int (gI res)))) (gi_cv h1)) {v1 : Nat} {v2 : Nat} {v3 : Int} {v4 : Int} {v6 : Int} {v10 : Int} {v11 : Int}  {h : gi_H} (e : b_L_law_146 n L xs r24 v1 v2 v3 v4 v6 v10 v11 h = some (res, h1)) : gx_Z (mL_law L xs) false false (kc + 105) (ks + 630) 146 [(0, .ref 100000), (1, .ref v1), (2, .ref v2), (3, .int (gI v3)), (4, .int (gI v4)), (6, .int (gI v6)), (10, .int (gI v10)), (11, .int (gI v11))] [] (gi_cv h) (.inl (some (.int (gI res)))) (gi_cv h1) := by
  have hKc : 54186 ≤ (gx_rm (mL_law L xs)).cells := Nat.le_of_ble_eq_true rfl
  have hKs : 388187 ≤ (gx_rm (mL_law L xs)).slots := Nat.le_of_ble_eq_true rfl
  refine gx_iload dL_law_146 7 rfl ?_
  refine gx_iload dL_law_148 6 rfl ?_
  refine gx_bE e (fun _ g225 e => ?_)
  refine gx_bE e (fun _ g226 e => ?_)
  refine gx_iE e (fun c227 e => ?_) (fun c227 e => ?_)
  · refine gy_icmp_eq (tgt := 177) (gi_rgS g225) (gi_rgS g226) dL_law_150 (by decide) (fun _ => ?_) (fun z => absurd c227 z)
    refine gx_sub (ls2 := [(0, .ref 100000), (1, .ref v1), (2, .ref v2), (3, .int (gI v3)), (4, .int (gI v4)), (6, .int (gI v6))]) [0, 1, 2, 3, 4, 5] rfl ?_
    refine gx_kup (kc2 := (kc + 106)) (ks2 := (ks + 636)) (by show (kc + 105) ≤ (kc + 106); omega) (by show (ks + 630) ≤ (ks + 636); omega) ?_
    exact zb_L_law_177 hkc hks hr24 e
  · refine gy_icmp_eq (tgt := 177) (gi_rgS g225) (gi_rgS g226) dL_law_150 (by decide) (fun z => absurd z c227) (fun _ => ?_)
    refine gx_aload_n dL_law_153 rfl 1 rfl ?_
    refine gx_aload_n dL_law_154 rfl 2 rfl ?_
    refine gx_iload dL_law_155 7 rfl ?_
    refine gx_bE e (fun t228 ht228 e => ?_)
    refine gy_l1 ht228 dL_law_157 ?_
    refine gx_bE e (fun q229 hq229 e => ?_)
    refine gx_callSW (n := 2) (st := []) (As := [.ref v1, .int (gI t228)]) dL_law_158 (z_L_type hq229) rfl ⟨(by decide +kernel), gw_cw_L_type, gw_0, gp_L_type, ⟨Nat.le_of_ble_eq_true rfl, Nat.le_of_ble_eq_true rfl⟩⟩ gw_651 gw_652 ⟨by show (kc + 106) ≤ _; omega, by show (ks + 636) ≤ _; omega⟩ (Nat.le_of_ble_eq_true rfl) (gy_k1 (x := .int (gI q229.1)) (kc2 := (kc + 106)) (ks2 := (ks + 636)) ⟨rfl, rfl⟩ ?_)
    refine gx_iload dL_law_161 7 rfl ?_
    refine gy_iconst dL_law_163 ?_
    refine gy_iadd dL_law_164 ?_
    refine gx_bE e (fun _ g230 e => ?_)
    refine gx_bE e (fun _ g231 e => ?_)
    refine gx_iE e (fun c232 e => ?_) (fun c232 e => ?_)
    · refine gy_icmp_ne (tgt := 181) (gi_rgS g230) (gi_rgS g231) dL_law_165 (by decide) (fun z => absurd c232 z) (fun _ => ?_)
      refine gx_aload_n dL_law_168 rfl 1 rfl ?_
      refine gx_bE e (fun _ hu233 e => ?_)
      refine gx_bE e (fun q234 hq234 e => ?_)
      refine gx_callV (n := 0) (st := []) (As := []) (b := v1) dL_law_169 (z_X11_fault hq234) rfl ⟨rfl, gw_cw_X11_fault, gw_1, gp_X11_fault, ⟨Nat.le_of_ble_eq_true rfl, Nat.le_of_ble_eq_true rfl⟩⟩ (gi_isS hu233) (by decide) gw_352 gw_353 gw_354 rfl ⟨by show (kc + 106) ≤ _; omega, by show (ks + 636) ≤ _; omega⟩ (Nat.le_of_ble_eq_true rfl) (gy_k1 (x := .int (gI q234)) (kc2 := (kc + 106)) (ks2 := (ks + 636)) ⟨rfl, rfl⟩ ?_) gy_kn
      refine gx_iload dL_law_172 7 rfl ?_
      refine gx_bE e (fun _ g235 e => ?_)
      refine gx_iE e (fun c236 e => ?_) (fun c236 e => ?_)
      · refine gy_icmp_ne (tgt := 181) (gi_rgS g235) (gi_rgS g225) dL_law_174 (by decide) (fun z => absurd c236 z) (fun _ => ?_)
        refine gx_sub (ls2 := [(0, .ref 100000), (1, .ref v1), (2, .ref v2), (3, .int (gI v3)), (4, .int (gI v4)), (6, .int (gI v6))]) [0, 1, 2, 3, 4, 5] rfl ?_
        exact zb_L_law_177 hkc hks hr24 e
      · refine gy_icmp_ne (tgt := 181) (gi_rgS g235) (gi_rgS g225) dL_law_174 (by decide) (fun _ => ?_) (fun z => absurd z c236)
        refine gx_sub (ls2 := [(0, .ref 100000), (1, .ref v1), (2, .ref v2), (3, .int (gI v3)), (4, .int (gI v4)), (6, .int (gI v6))]) [0, 1, 2, 3, 4, 5] rfl ?_
        exact zb_L_law_181 hkc hks hr24 e
    · refine gy_icmp_ne (tgt := 181) (gi_rgS g230) (gi_rgS g231) dL_law_165 (by decide) (fun _ => ?_) (fun z => absurd z c232)
      refine gx_sub (ls2 := [(0, .ref 100000), (1, .ref v1), (2, .ref v2), (3, .int (gI v3)), (4, .int (gI v4)), (6, .int (gI v6))]) [0, 1, 2, 3, 4, 5] rfl ?_
      exact zb_L_law_181 hkc hks hr24 e
set_option maxRecDepth 100000 in
def b_L_law_66 (n : Nat) (L : Nat) (xs : Nat → Int) (r24 : Nat → Nat → Int → Int → Int → Int → gi_H → Option (Int × gi_H)) (v1 : Nat) (v2 : Nat) (v3 : Int) (v4 : Int) (v5 : Int) (v6 : Int) (v8 : Int) (s0 : Int) (h : gi_H) : Option (Int × gi_H) :=
  Option.bind (gi_rg s0) fun _ => if (4 : Int) ≤ s0 then (if s0 = (4 : Int) then (Option.bind (gi_is h v1 9) fun _ => Option.bind (f_X11_productions v1 h) fun q22 => Option.bind (f_L_undo v1 h) fun q23 => Option.bind (gi_rg q22) fun _ => if q22 = 0 then (Option.bind (gi_rg q23.1) fun _ => if q23.1 = (-103 : Int) then (b_L_law_381 n L xs r24 v1 v2 v3 v4 v6 (1 : Int) q23.2) else (b_L_law_381 n L xs r24 v1 v2 v3 v4 v6 (0 : Int) q23.2)) else (Option.bind (gi_rg q23.1) fun _ => if q23.1 < 0 then (b_L_law_380 n L xs r24 v1 v2 v3 v4 v6 q23.2) else (if q22 ≤ q23.1 then (b_L_law_380 n L xs r24 v1 v2 v3 v4 v6 q23.2) else (Option.bind (gi_is q23.2 v1 9) fun _ => Option.bind (f_X11_productions v1 q23.2) fun q50 => Option.bind (gi_rg q50) fun _ => if q50 = q23.1 then (b_L_law_381 n L xs r24 v1 v2 v3 v4 v6 (1 : Int) q23.2) else (b_L_law_380 n L xs r24 v1 v2 v3 v4 v6 q23.2))))) else (if s0 = (5 : Int) then (Option.bind (gi_dg v8 (2 : Int)) fun _ => Option.bind (f_L_use v1 (v8 % (2 : Int)) h) fun q55 => Option.bind (gi_rg q55.1) fun _ => Option.bind (gi_rg v3) fun _ => if q55.1 = v3 then (b_L_law_409 n L xs r24 v1 v2 v4 v6 v8 (1 : Int) q55.2) else (b_L_law_409 n L xs r24 v1 v2 v4 v6 v8 (0 : Int) q55.2)) else (if s0 = (6 : Int) then (Option.bind (gi_dg v8 (2 : Int)) fun _ => Option.bind (gi_rg (v8 % (2 : Int))) fun _ => if (v8 % (2 : Int)) = 0 then (Option.bind (gi_is h v1 9) fun _ => Option.bind (f_X11_productions v1 h) fun q66 => Option.bind (gi_dg v8 (2 : Int)) fun _ => Option.bind (gi_dg (v8 / (2 : Int)) (8 : Int)) fun _ => Option.bind (f_L_bring n v1 ((v8 / (2 : Int)) % (8 : Int)) h) fun q69 => Option.bind (gi_rg q69.1) fun _ => if q69.1 = (-103 : Int) then (Option.bind (gi_is q69.2 v1 9) fun _ => Option.bind (f_X11_productions v1 q69.2) fun q73 => Option.bind (gi_rg q73) fun _ => Option.bind (gi_rg q66) fun _ => if q73 = q66 then (b_L_law_498 n L xs r24 v1 v2 v3 v4 v6 (1 : Int) q69.2) else (b_L_law_498 n L xs r24 v1 v2 v3 v4 v6 (0 : Int) q69.2)) else (if q69.1 < 0 then (b_L_law_497 n L xs r24 v1 v2 v3 v4 v6 q69.2) else (Option.bind (gi_is q69.2 v1 9) fun _ => Option.bind (f_X11_productions v1 q69.2) fun q79 => Option.bind (gi_rg q79) fun _ => Option.bind (gi_rg (q66 + q69.1)) fun _ => if q79 < (q66 + q69.1) then (b_L_law_497 n L xs r24 v1 v2 v3 v4 v6 q69.2) else (b_L_law_498 n L xs r24 v1 v2 v3 v4 v6 (1 : Int) q69.2)))) else (b_L_law_503 n L xs r24 v1 v2 v3 v4 v5 v6 v8 s0 h)) else (b_L_law_503 n L xs r24 v1 v2 v3 v4 v5 v6 v8 s0 h)))) else (Option.bind (gi_mk h) fun _ => Option.bind (f_L_draws n L xs v2 v6 v8 h) fun q169 => Option.bind (f_L_types n v1 v2 q169.1 q169.2) fun q171 => Option.bind (gi_is q171.2 v1 9) fun _ => Option.bind (f_X11_fault n v1 q171.2) fun q173 => Option.bind (gi_rg q171.1) fun _ => if q171.1 = 0 then (b_L_law_187 n L xs r24 v1 v2 v3 v4 q171.1 v6 q171.2) else (Option.bind (gi_rg q173) fun _ => if q173 < 0 then (b_L_law_187 n L xs r24 v1 v2 v3 v4 q171.1 v6 q171.2) else (Option.bind (f_L_enter n v1 q171.2) fun q215 => Option.bind (gi_rg q215.1) fun _ => if q215.1 = (-102 : Int) then (Option.bind (f_L_types n v1 v2 q173 q215.2) fun q218 => Option.bind (gi_rg q218.1) fun _ => if q218.1 = 0 then (b_L_law_181 n L xs r24 v1 v2 v3 v4 v6 q218.2) else (Option.bind (gi_is q218.2 v1 9) fun _ => Option.bind (f_X11_fault n v1 q218.2) fun q222 => Option.bind (gi_rg q222) fun _ => if q222 = (-1 : Int) then (b_L_law_146 n L xs r24 v1 v2 v3 v4 v6 q169.1 q173 q218.2) else (Option.bind (gi_is q218.2 v1 9) fun _ => Option.bind (f_X11_fault n v1 q218.2) fun q238 => Option.bind (gi_rg q238) fun _ => if q238 = q173 then (b_L_law_146 n L xs r24 v1 v2 v3 v4 v6 q169.1 q173 q218.2) else (b_L_law_181 n L xs r24 v1 v2 v3 v4 v6 q218.2)))) else (b_L_law_181 n L xs r24 v1 v2 v3 v4 v6 q215.2))))
set_option maxRecDepth 100000 in
theorem zb_L_law_66 {n : Nat} {L : Nat} {xs : Nat → Int} {r24 : Nat → Nat → Int → Int → Int → Int → gi_H → Option (Int × gi_H)} {res : Int} {h1 : gi_H} {kc ks k : Nat} (hkc : kc + (k + 1) * 2000 ≤ 54186) (hks : ks + (k + 1) * 12000 ≤ 388187) (hr24 : ∀ (kc ks : Nat) (x1 : Nat) (x2 : Nat) (x3 : Int) (x4 : Int) (x5 : Int) (x6 : Int) (hh : gi_H), kc + k * 2000 ≤ 54186 → ks + k * 12000 ≤ 388187 → r24 x1 x2 x3 x4 x5 x6 hh = some (res, h1) → gx_Z (mL_law L xs) false false kc ks 24 [(0, .ref 100000), (1, .ref x1), (2, .ref x2), (3, .int (gI x3)), (4, .int (gI x4)), (5, .int (gI x5)), (6, .int (gI x6))] [] (gi_cv hh) (.inl (some (.int (gI res)))) (gi_cv h1)) {v1 : Nat} {v2 : Nat} {v3 : Int} {v4 : Int} {v5 : Int} {v6 : Int} {v8 : Int} {s0 : Int} {h : gi_H} (e : b_L_law_66 n L xs r24 v1 v2 v3 v4 v5 v6 v8 s0 h = some (res, h1)) : gx_Z (mL_law L xs) false false kc ks 66 [(0, .ref 100000), (1, .ref v1), (2, .ref v2), (3, .int (gI v3)), (4, .int (gI v4)), (5, .int (gI v5)), (6, .int (gI v6)), (8, .int (gI v8))] [.int (gI s0)] (gi_cv h) (.inl (some (.int (gI res)))) (gi_cv h1) := by
  have hKc : 54186 ≤ (gx_rm (mL_law L xs)).cells := Nat.le_of_ble_eq_true rfl
  have hKs : 388187 ≤ (gx_rm (mL_law L xs)).slots := Nat.le_of_ble_eq_true rfl
  refine gx_istore (ls2 := [(9, .int (gI s0)), (0, .ref 100000), (1, .ref v1), (2, .ref v2), (3, .int (gI v3)), (4, .int (gI v4)), (5, .int (gI v5)), (6, .int (gI v6)), (8, .int (gI v8))]) dL_law_66 (Nat.le_of_ble_eq_true rfl) rfl ?_
  refine gx_iload dL_law_68 0 rfl ?_
  refine gy_iconst dL_law_70 ?_
  refine gx_bE e (fun _ g18 e => ?_)
  refine gx_iE e (fun c19 e => ?_) (fun c19 e => ?_)
  · refine gy_icmp_ge (tgt := 317) (gi_rgS g18) (by decide) dL_law_71 (by decide) (fun _ => ?_) (fun z => absurd c19 z)
    refine gx_iload dL_law_317 0 rfl ?_
    refine gy_iconst dL_law_319 ?_
    refine gx_iE e (fun c20 e => ?_) (fun c20 e => ?_)
    · refine gy_icmp_ne (tgt := 386) (gi_rgS g18) (by decide) dL_law_320 (by decide) (fun z => absurd c20 z) (fun _ => ?_)
      refine gx_aload_n dL_law_323 rfl 2 rfl ?_
      refine gx_bE e (fun _ hu21 e => ?_)
      refine gx_bE e (fun q22 hq22 e => ?_)
      refine gx_callV (n := 0) (st := []) (As := []) (b := v1) dL_law_324 (z_X11_productions hq22) rfl ⟨rfl, gw_cw_X11_productions, gw_1, gp_X11_productions, ⟨Nat.le_of_ble_eq_true rfl, Nat.le_of_ble_eq_true rfl⟩⟩ (gi_isS hu21) (by decide) gw_379 gw_380 gw_381 rfl ⟨by show kc ≤ _; omega, by show ks ≤ _; omega⟩ (Nat.le_of_ble_eq_true rfl) (gy_k1 (x := .int (gI q22)) (kc2 := kc) (ks2 := ks) ⟨rfl, rfl⟩ ?_) gy_kn
      refine gx_istore (ls2 := [(10, .int (gI q22)), (9, .int (gI s0)), (0, .ref 100000), (1, .ref v1), (2, .ref v2), (3, .int (gI v3)), (4, .int (gI v4)), (5, .int (gI v5)), (6, .int (gI v6)), (8, .int (gI v8))]) dL_law_327 (Nat.le_of_ble_eq_true rfl) rfl ?_
      refine gx_aload_n dL_law_329 rfl 3 rfl ?_
      refine gx_bE e (fun q23 hq23 e => ?_)
      refine gx_callSW (n := 1) (st := []) (As := [.ref v1]) dL_law_330 (z_L_undo hq23) rfl ⟨(by decide +kernel), gw_cw_L_undo, gw_0, gp_L_undo, ⟨Nat.le_of_ble_eq_true rfl, Nat.le_of_ble_eq_true rfl⟩⟩ gw_833 gw_834 ⟨by show (kc + 1) ≤ _; omega, by show (ks + 6) ≤ _; omega⟩ (Nat.le_of_ble_eq_true rfl) (gy_k1 (x := .int (gI q23.1)) (kc2 := (kc + 1)) (ks2 := (ks + 6)) ⟨rfl, rfl⟩ ?_)
      refine gx_istore (ls2 := [(11, .int (gI q23.1)), (10, .int (gI q22)), (9, .int (gI s0)), (0, .ref 100000), (1, .ref v1), (2, .ref v2), (3, .int (gI v3)), (4, .int (gI v4)), (5, .int (gI v5)), (6, .int (gI v6)), (8, .int (gI v8))]) dL_law_333 (Nat.le_of_ble_eq_true rfl) rfl ?_
      refine gx_iload dL_law_335 1 rfl ?_
      refine gx_bE e (fun _ g24 e => ?_)
      refine gx_iE e (fun c25 e => ?_) (fun c25 e => ?_)
      · refine gy_if_ne (tgt := 355) (gi_rgS g24) dL_law_337 (by decide) (fun z => absurd c25 z) (fun _ => ?_)
        refine gx_iload dL_law_340 0 rfl ?_
        refine gy_bipush dL_law_342 gcb_m103 ?_
        refine gx_bE e (fun _ g26 e => ?_)
        refine gx_iE e (fun c27 e => ?_) (fun c27 e => ?_)
        · refine gy_icmp_ne (tgt := 351) (gi_rgS g26) (by decide) dL_law_344 (by decide) (fun z => absurd c27 z) (fun _ => ?_)
          refine gy_iconst dL_law_347 ?_
          refine gx_goto (tgt := 381) dL_law_348 (by decide) ?_
          refine gx_sub (ls2 := [(0, .ref 100000), (1, .ref v1), (2, .ref v2), (3, .int (gI v3)), (4, .int (gI v4)), (6, .int (gI v6))]) [3, 4, 5, 6, 7, 9] rfl ?_
          exact zb_L_law_381 hkc hks hr24 e
        · refine gy_icmp_ne (tgt := 351) (gi_rgS g26) (by decide) dL_law_344 (by decide) (fun _ => ?_) (fun z => absurd z c27)
          refine gy_iconst dL_law_351 ?_
          refine gx_goto (tgt := 381) dL_law_352 (by decide) ?_
          refine gx_sub (ls2 := [(0, .ref 100000), (1, .ref v1), (2, .ref v2), (3, .int (gI v3)), (4, .int (gI v4)), (6, .int (gI v6))]) [3, 4, 5, 6, 7, 9] rfl ?_
          exact zb_L_law_381 hkc hks hr24 e
      · refine gy_if_ne (tgt := 355) (gi_rgS g24) dL_law_337 (by decide) (fun _ => ?_) (fun z => absurd z c25)
        refine gx_iload dL_law_355 0 rfl ?_
        refine gx_bE e (fun _ g46 e => ?_)
        refine gx_iE e (fun c47 e => ?_) (fun c47 e => ?_)
        · refine gy_if_lt (tgt := 380) (gi_rgS g46) dL_law_357 (by decide) (fun _ => ?_) (fun z => absurd c47 z)
          refine gx_sub (ls2 := [(0, .ref 100000), (1, .ref v1), (2, .ref v2), (3, .int (gI v3)), (4, .int (gI v4)), (6, .int (gI v6))]) [3, 4, 5, 6, 7, 9] rfl ?_
          exact zb_L_law_380 hkc hks hr24 e
        · refine gy_if_lt (tgt := 380) (gi_rgS g46) dL_law_357 (by decide) (fun z => absurd z c47) (fun _ => ?_)
          refine gx_iload dL_law_360 0 rfl ?_
          refine gx_iload dL_law_362 1 rfl ?_
          refine gx_iE e (fun c48 e => ?_) (fun c48 e => ?_)
          · refine gy_icmp_ge (tgt := 380) (gi_rgS g46) (gi_rgS g24) dL_law_364 (by decide) (fun _ => ?_) (fun z => absurd c48 z)
            refine gx_sub (ls2 := [(0, .ref 100000), (1, .ref v1), (2, .ref v2), (3, .int (gI v3)), (4, .int (gI v4)), (6, .int (gI v6))]) [3, 4, 5, 6, 7, 9] rfl ?_
            exact zb_L_law_380 hkc hks hr24 e
          · refine gy_icmp_ge (tgt := 380) (gi_rgS g46) (gi_rgS g24) dL_law_364 (by decide) (fun z => absurd z c48) (fun _ => ?_)
            refine gx_aload_n dL_law_367 rfl 4 rfl ?_
            refine gx_bE e (fun _ hu49 e => ?_)
            refine gx_bE e (fun q50 hq50 e => ?_)
            refine gx_callV (n := 0) (st := []) (As := []) (b := v1) dL_law_368 (z_X11_productions hq50) rfl ⟨rfl, gw_cw_X11_productions, gw_1, gp_X11_productions, ⟨Nat.le_of_ble_eq_true rfl, Nat.le_of_ble_eq_true rfl⟩⟩ (gi_isS hu49) (by decide) gw_379 gw_380 gw_381 rfl ⟨by show (kc + 1) ≤ _; omega, by show (ks + 6) ≤ _; omega⟩ (Nat.le_of_ble_eq_true rfl) (gy_k1 (x := .int (gI q50)) (kc2 := (kc + 1)) (ks2 := (ks + 6)) ⟨rfl, rfl⟩ ?_) gy_kn
            refine gx_iload dL_law_371 0 rfl ?_
            refine gx_bE e (fun _ g51 e => ?_)
            refine gx_iE e (fun c52 e => ?_) (fun c52 e => ?_)
            · refine gy_icmp_ne (tgt := 380) (gi_rgS g51) (gi_rgS g46) dL_law_373 (by decide) (fun z => absurd c52 z) (fun _ => ?_)
              refine gy_iconst dL_law_376 ?_
              refine gx_goto (tgt := 381) dL_law_377 (by decide) ?_
              refine gx_sub (ls2 := [(0, .ref 100000), (1, .ref v1), (2, .ref v2), (3, .int (gI v3)), (4, .int (gI v4)), (6, .int (gI v6))]) [3, 4, 5, 6, 7, 9] rfl ?_
              exact zb_L_law_381 hkc hks hr24 e
            · refine gy_icmp_ne (tgt := 380) (gi_rgS g51) (gi_rgS g46) dL_law_373 (by decide) (fun _ => ?_) (fun z => absurd z c52)
              refine gx_sub (ls2 := [(0, .ref 100000), (1, .ref v1), (2, .ref v2), (3, .int (gI v3)), (4, .int (gI v4)), (6, .int (gI v6))]) [3, 4, 5, 6, 7, 9] rfl ?_
              exact zb_L_law_380 hkc hks hr24 e
    · refine gy_icmp_ne (tgt := 386) (gi_rgS g18) (by decide) dL_law_320 (by decide) (fun _ => ?_) (fun z => absurd z c20)
      refine gx_iload dL_law_386 0 rfl ?_
      refine gy_iconst dL_law_388 ?_
      refine gx_iE e (fun c53 e => ?_) (fun c53 e => ?_)
      · refine gy_icmp_ne (tgt := 419) (gi_rgS g18) (by decide) dL_law_389 (by decide) (fun z => absurd c53 z) (fun _ => ?_)
        refine gx_aload_n dL_law_392 rfl 2 rfl ?_
        refine gx_iload dL_law_393 8 rfl ?_
        refine gy_iconst dL_law_395 ?_
        refine gx_bE e (fun _ hu54 e => ?_)
        refine gy_irem hu54 dL_law_396 ?_
        refine gx_bE e (fun q55 hq55 e => ?_)
        refine gx_callSW (n := 2) (st := []) (As := [.ref v1, .int (gI (v8 % (2 : Int)))]) dL_law_397 (z_L_use hq55) rfl ⟨(by decide +kernel), gw_cw_L_use, gw_0, gp_L_use, ⟨Nat.le_of_ble_eq_true rfl, Nat.le_of_ble_eq_true rfl⟩⟩ gw_863 gw_864 ⟨by show (kc + 1) ≤ _; omega, by show (ks + 6) ≤ _; omega⟩ (Nat.le_of_ble_eq_true rfl) (gy_k1 (x := .int (gI q55.1)) (kc2 := (kc + 1)) (ks2 := (ks + 6)) ⟨rfl, rfl⟩ ?_)
        refine gx_iload_n dL_law_400 rfl 4 rfl ?_
        refine gx_bE e (fun _ g56 e => ?_)
        refine gx_bE e (fun _ g57 e => ?_)
        refine gx_iE e (fun c58 e => ?_) (fun c58 e => ?_)
        · refine gy_icmp_ne (tgt := 408) (gi_rgS g56) (gi_rgS g57) dL_law_401 (by decide) (fun z => absurd c58 z) (fun _ => ?_)
          refine gy_iconst dL_law_404 ?_
          refine gx_goto (tgt := 409) dL_law_405 (by decide) ?_
          refine gx_sub (ls2 := [(0, .ref 100000), (1, .ref v1), (2, .ref v2), (4, .int (gI v4)), (6, .int (gI v6)), (8, .int (gI v8))]) [1, 2, 3, 5, 7, 8] rfl ?_
          exact zb_L_law_409 hkc hks hr24 e
        · refine gy_icmp_ne (tgt := 408) (gi_rgS g56) (gi_rgS g57) dL_law_401 (by decide) (fun _ => ?_) (fun z => absurd z c58)
          refine gy_iconst dL_law_408 ?_
          refine gx_sub (ls2 := [(0, .ref 100000), (1, .ref v1), (2, .ref v2), (4, .int (gI v4)), (6, .int (gI v6)), (8, .int (gI v8))]) [1, 2, 3, 5, 7, 8] rfl ?_
          exact zb_L_law_409 hkc hks hr24 e
      · refine gy_icmp_ne (tgt := 419) (gi_rgS g18) (by decide) dL_law_389 (by decide) (fun _ => ?_) (fun z => absurd z c53)
        refine gx_iload dL_law_419 0 rfl ?_
        refine gy_bipush dL_law_421 gcb_6 ?_
        refine gx_iE e (fun c61 e => ?_) (fun c61 e => ?_)
        · refine gy_icmp_ne (tgt := 503) (gi_rgS g18) (by decide) dL_law_423 (by decide) (fun z => absurd c61 z) (fun _ => ?_)
          refine gx_iload dL_law_426 8 rfl ?_
          refine gy_iconst dL_law_428 ?_
          refine gx_bE e (fun _ hu62 e => ?_)
          refine gy_irem hu62 dL_law_429 ?_
          refine gx_bE e (fun _ g63 e => ?_)
          refine gx_iE e (fun c64 e => ?_) (fun c64 e => ?_)
          · refine gy_if_ne (tgt := 503) (gi_rgS g63) dL_law_430 (by decide) (fun z => absurd c64 z) (fun _ => ?_)
            refine gx_aload_n dL_law_433 rfl 2 rfl ?_
            refine gx_bE e (fun _ hu65 e => ?_)
            refine gx_bE e (fun q66 hq66 e => ?_)
            refine gx_callV (n := 0) (st := []) (As := []) (b := v1) dL_law_434 (z_X11_productions hq66) rfl ⟨rfl, gw_cw_X11_productions, gw_1, gp_X11_productions, ⟨Nat.le_of_ble_eq_true rfl, Nat.le_of_ble_eq_true rfl⟩⟩ (gi_isS hu65) (by decide) gw_379 gw_380 gw_381 rfl ⟨by show kc ≤ _; omega, by show ks ≤ _; omega⟩ (Nat.le_of_ble_eq_true rfl) (gy_k1 (x := .int (gI q66)) (kc2 := kc) (ks2 := ks) ⟨rfl, rfl⟩ ?_) gy_kn
            refine gx_istore (ls2 := [(10, .int (gI q66)), (9, .int (gI s0)), (0, .ref 100000), (1, .ref v1), (2, .ref v2), (3, .int (gI v3)), (4, .int (gI v4)), (5, .int (gI v5)), (6, .int (gI v6)), (8, .int (gI v8))]) dL_law_437 (Nat.le_of_ble_eq_true rfl) rfl ?_
            refine gx_aload_n dL_law_439 rfl 3 rfl ?_
            refine gx_iload dL_law_440 9 rfl ?_
            refine gy_iconst dL_law_442 ?_
            refine gx_bE e (fun _ hu67 e => ?_)
            refine gy_idiv hu67 dL_law_443 ?_
            refine gy_bipush dL_law_444 gcb_8 ?_
            refine gx_bE e (fun _ hu68 e => ?_)
            refine gy_irem hu68 dL_law_446 ?_
            refine gx_bE e (fun q69 hq69 e => ?_)
            refine gx_callSW (n := 2) (st := []) (As := [.ref v1, .int (gI ((v8 / (2 : Int)) % (8 : Int)))]) dL_law_447 (z_L_bring hq69) rfl ⟨(by decide +kernel), gw_cw_L_bring, gw_0, gp_L_bring, ⟨Nat.le_of_ble_eq_true rfl, Nat.le_of_ble_eq_true rfl⟩⟩ gw_845 gw_846 ⟨by show (kc + 1) ≤ _; omega, by show (ks + 6) ≤ _; omega⟩ (Nat.le_of_ble_eq_true rfl) (gy_k1 (x := .int (gI q69.1)) (kc2 := (kc + 1)) (ks2 := (ks + 6)) ⟨rfl, rfl⟩ ?_)
            refine gx_istore (ls2 := [(11, .int (gI q69.1)), (10, .int (gI q66)), (9, .int (gI s0)), (0, .ref 100000), (1, .ref v1), (2, .ref v2), (3, .int (gI v3)), (4, .int (gI v4)), (5, .int (gI v5)), (6, .int (gI v6)), (8, .int (gI v8))]) dL_law_450 (Nat.le_of_ble_eq_true rfl) rfl ?_
            refine gx_iload dL_law_452 0 rfl ?_
            refine gy_bipush dL_law_454 gcb_m103 ?_
            refine gx_bE e (fun _ g70 e => ?_)
            refine gx_iE e (fun c71 e => ?_) (fun c71 e => ?_)
            · refine gy_icmp_ne (tgt := 476) (gi_rgS g70) (by decide) dL_law_456 (by decide) (fun z => absurd c71 z) (fun _ => ?_)
              refine gx_aload_n dL_law_459 rfl 4 rfl ?_
              refine gx_bE e (fun _ hu72 e => ?_)
              refine gx_bE e (fun q73 hq73 e => ?_)
              refine gx_callV (n := 0) (st := []) (As := []) (b := v1) dL_law_460 (z_X11_productions hq73) rfl ⟨rfl, gw_cw_X11_productions, gw_1, gp_X11_productions, ⟨Nat.le_of_ble_eq_true rfl, Nat.le_of_ble_eq_true rfl⟩⟩ (gi_isS hu72) (by decide) gw_379 gw_380 gw_381 rfl ⟨by show (kc + 1) ≤ _; omega, by show (ks + 6) ≤ _; omega⟩ (Nat.le_of_ble_eq_true rfl) (gy_k1 (x := .int (gI q73)) (kc2 := (kc + 1)) (ks2 := (ks + 6)) ⟨rfl, rfl⟩ ?_) gy_kn
              refine gx_iload dL_law_463 1 rfl ?_
              refine gx_bE e (fun _ g74 e => ?_)
              refine gx_bE e (fun _ g75 e => ?_)
              refine gx_iE e (fun c76 e => ?_) (fun c76 e => ?_)
              · refine gy_icmp_ne (tgt := 472) (gi_rgS g74) (gi_rgS g75) dL_law_465 (by decide) (fun z => absurd c76 z) (fun _ => ?_)
                refine gy_iconst dL_law_468 ?_
                refine gx_goto (tgt := 498) dL_law_469 (by decide) ?_
                refine gx_sub (ls2 := [(0, .ref 100000), (1, .ref v1), (2, .ref v2), (3, .int (gI v3)), (4, .int (gI v4)), (6, .int (gI v6))]) [3, 4, 5, 6, 7, 9] rfl ?_
                exact zb_L_law_498 hkc hks hr24 e
              · refine gy_icmp_ne (tgt := 472) (gi_rgS g74) (gi_rgS g75) dL_law_465 (by decide) (fun _ => ?_) (fun z => absurd z c76)
                refine gy_iconst dL_law_472 ?_
                refine gx_goto (tgt := 498) dL_law_473 (by decide) ?_
                refine gx_sub (ls2 := [(0, .ref 100000), (1, .ref v1), (2, .ref v2), (3, .int (gI v3)), (4, .int (gI v4)), (6, .int (gI v6))]) [3, 4, 5, 6, 7, 9] rfl ?_
                exact zb_L_law_498 hkc hks hr24 e
            · refine gy_icmp_ne (tgt := 476) (gi_rgS g70) (by decide) dL_law_456 (by decide) (fun _ => ?_) (fun z => absurd z c71)
              refine gx_iload dL_law_476 0 rfl ?_
              refine gx_iE e (fun c77 e => ?_) (fun c77 e => ?_)
              · refine gy_if_lt (tgt := 497) (gi_rgS g70) dL_law_478 (by decide) (fun _ => ?_) (fun z => absurd c77 z)
                refine gx_sub (ls2 := [(0, .ref 100000), (1, .ref v1), (2, .ref v2), (3, .int (gI v3)), (4, .int (gI v4)), (6, .int (gI v6))]) [3, 4, 5, 6, 7, 9] rfl ?_
                exact zb_L_law_497 hkc hks hr24 e
              · refine gy_if_lt (tgt := 497) (gi_rgS g70) dL_law_478 (by decide) (fun z => absurd z c77) (fun _ => ?_)
                refine gx_aload_n dL_law_481 rfl 4 rfl ?_
                refine gx_bE e (fun _ hu78 e => ?_)
                refine gx_bE e (fun q79 hq79 e => ?_)
                refine gx_callV (n := 0) (st := []) (As := []) (b := v1) dL_law_482 (z_X11_productions hq79) rfl ⟨rfl, gw_cw_X11_productions, gw_1, gp_X11_productions, ⟨Nat.le_of_ble_eq_true rfl, Nat.le_of_ble_eq_true rfl⟩⟩ (gi_isS hu78) (by decide) gw_379 gw_380 gw_381 rfl ⟨by show (kc + 1) ≤ _; omega, by show (ks + 6) ≤ _; omega⟩ (Nat.le_of_ble_eq_true rfl) (gy_k1 (x := .int (gI q79)) (kc2 := (kc + 1)) (ks2 := (ks + 6)) ⟨rfl, rfl⟩ ?_) gy_kn
                refine gx_iload dL_law_485 1 rfl ?_
                refine gx_iload dL_law_487 0 rfl ?_
                refine gy_iadd dL_law_489 ?_
                refine gx_bE e (fun _ g80 e => ?_)
                refine gx_bE e (fun _ g81 e => ?_)
                refine gx_iE e (fun c82 e => ?_) (fun c82 e => ?_)
                · refine gy_icmp_lt (tgt := 497) (gi_rgS g80) (gi_rgS g81) dL_law_490 (by decide) (fun _ => ?_) (fun z => absurd c82 z)
                  refine gx_sub (ls2 := [(0, .ref 100000), (1, .ref v1), (2, .ref v2), (3, .int (gI v3)), (4, .int (gI v4)), (6, .int (gI v6))]) [3, 4, 5, 6, 7, 9] rfl ?_
                  exact zb_L_law_497 hkc hks hr24 e
                · refine gy_icmp_lt (tgt := 497) (gi_rgS g80) (gi_rgS g81) dL_law_490 (by decide) (fun z => absurd z c82) (fun _ => ?_)
                  refine gy_iconst dL_law_493 ?_
                  refine gx_goto (tgt := 498) dL_law_494 (by decide) ?_
                  refine gx_sub (ls2 := [(0, .ref 100000), (1, .ref v1), (2, .ref v2), (3, .int (gI v3)), (4, .int (gI v4)), (6, .int (gI v6))]) [3, 4, 5, 6, 7, 9] rfl ?_
                  exact zb_L_law_498 hkc hks hr24 e
          · refine gy_if_ne (tgt := 503) (gi_rgS g63) dL_law_430 (by decide) (fun _ => ?_) (fun z => absurd z c64)
            refine gx_sub (ls2 := [(0, .ref 100000), (1, .ref v1), (2, .ref v2), (3, .int (gI v3)), (4, .int (gI v4)), (5, .int (gI v5)), (6, .int (gI v6)), (8, .int (gI v8)), (9, .int (gI s0))]) [1, 2, 3, 4, 5, 6, 7, 8, 0] rfl ?_
            exact zb_L_law_503 hkc hks hr24 e
        · refine gy_icmp_ne (tgt := 503) (gi_rgS g18) (by decide) dL_law_423 (by decide) (fun _ => ?_) (fun z => absurd z c61)
          refine gx_sub (ls2 := [(0, .ref 100000), (1, .ref v1), (2, .ref v2), (3, .int (gI v3)), (4, .int (gI v4)), (5, .int (gI v5)), (6, .int (gI v6)), (8, .int (gI v8)), (9, .int (gI s0))]) [1, 2, 3, 4, 5, 6, 7, 8, 0] rfl ?_
          exact zb_L_law_503 hkc hks hr24 e
  · refine gy_icmp_ge (tgt := 317) (gi_rgS g18) (by decide) dL_law_71 (by decide) (fun z => absurd z c19) (fun _ => ?_)
    refine gx_aload_n dL_law_74 rfl 1 rfl ?_
    refine gx_aload_n dL_law_75 rfl 3 rfl ?_
    refine gx_iload dL_law_76 7 rfl ?_
    refine gx_iload dL_law_78 8 rfl ?_
    refine gx_bE e (fun _ g170 e => ?_)
    refine gx_bE e (fun q169 hq169 e => ?_)
    refine gx_callSS (n := 4) (st := []) (As := [.ref 100000, .ref v2, .int (gI v6), .int (gI v8)]) (q := (L, fun j => gI (xs j))) rfl rfl (Nat.le_of_lt (gi_mkS g170)) dL_law_80 (z_L_draws hq169) rfl ⟨rfl, gw_cw_L_draws, gw_0, gp_L_draws, ⟨Nat.le_of_ble_eq_true rfl, Nat.le_of_ble_eq_true rfl⟩⟩ gw_955 gw_956 ⟨by show kc ≤ _; omega, by show ks ≤ _; omega⟩ (Nat.le_of_ble_eq_true rfl) (gy_k1 (x := .int (gI q169.1)) (kc2 := kc) (ks2 := ks) ⟨rfl, rfl⟩ ?_) gy_kn
    refine gx_istore (ls2 := [(10, .int (gI q169.1)), (9, .int (gI s0)), (0, .ref 100000), (1, .ref v1), (2, .ref v2), (3, .int (gI v3)), (4, .int (gI v4)), (5, .int (gI v5)), (6, .int (gI v6)), (8, .int (gI v8))]) dL_law_83 (Nat.le_of_ble_eq_true rfl) rfl ?_
    refine gx_aload_n dL_law_85 rfl 3 rfl ?_
    refine gx_aload_n dL_law_86 rfl 4 rfl ?_
    refine gx_iload dL_law_87 0 rfl ?_
    refine gx_bE e (fun q171 hq171 e => ?_)
    refine gx_callS (n := 3) (st := []) (As := [.ref v1, .ref v2, .int (gI q169.1)]) dL_law_89 (z_L_types hq171) rfl ⟨rfl, gw_cw_L_types, gw_0, gp_L_types, ⟨Nat.le_of_ble_eq_true rfl, Nat.le_of_ble_eq_true rfl⟩⟩ gw_944 gw_945 ⟨by show (kc + 52) ≤ _; omega, by show (ks + 312) ≤ _; omega⟩ (Nat.le_of_ble_eq_true rfl) (gy_k1 (x := .int (gI q171.1)) (kc2 := (kc + 52)) (ks2 := (ks + 312)) ⟨rfl, rfl⟩ ?_) gy_kn
    refine gx_istore (ls2 := [(5, .int (gI q171.1)), (10, .int (gI q169.1)), (9, .int (gI s0)), (0, .ref 100000), (1, .ref v1), (2, .ref v2), (3, .int (gI v3)), (4, .int (gI v4)), (6, .int (gI v6)), (8, .int (gI v8))]) dL_law_92 (Nat.le_of_ble_eq_true rfl) rfl ?_
    refine gx_aload_n dL_law_94 rfl 4 rfl ?_
    refine gx_bE e (fun _ hu172 e => ?_)
    refine gx_bE e (fun q173 hq173 e => ?_)
    refine gx_callV (n := 0) (st := []) (As := []) (b := v1) dL_law_95 (z_X11_fault hq173) rfl ⟨rfl, gw_cw_X11_fault, gw_1, gp_X11_fault, ⟨Nat.le_of_ble_eq_true rfl, Nat.le_of_ble_eq_true rfl⟩⟩ (gi_isS hu172) (by decide) gw_352 gw_353 gw_354 rfl ⟨by show (kc + 52) ≤ _; omega, by show (ks + 312) ≤ _; omega⟩ (Nat.le_of_ble_eq_true rfl) (gy_k1 (x := .int (gI q173)) (kc2 := (kc + 52)) (ks2 := (ks + 312)) ⟨rfl, rfl⟩ ?_) gy_kn
    refine gx_istore (ls2 := [(11, .int (gI q173)), (5, .int (gI q171.1)), (10, .int (gI q169.1)), (9, .int (gI s0)), (0, .ref 100000), (1, .ref v1), (2, .ref v2), (3, .int (gI v3)), (4, .int (gI v4)), (6, .int (gI v6)), (8, .int (gI v8))]) dL_law_98 (Nat.le_of_ble_eq_true rfl) rfl ?_
    refine gx_iload dL_law_100 1 rfl ?_
    refine gx_bE e (fun _ g174 e => ?_)
    refine gx_iE e (fun c175 e => ?_) (fun c175 e => ?_)
    · refine gy_if_eq (tgt := 187) (gi_rgS g174) dL_law_102 (by decide) (fun _ => ?_) (fun z => absurd c175 z)
      refine gx_sub (ls2 := [(0, .ref 100000), (1, .ref v1), (2, .ref v2), (3, .int (gI v3)), (4, .int (gI v4)), (5, .int (gI q171.1)), (6, .int (gI v6))]) [4, 5, 6, 7, 8, 1, 9] rfl ?_
      exact zb_L_law_187 hkc hks hr24 e
    · refine gy_if_eq (tgt := 187) (gi_rgS g174) dL_law_102 (by decide) (fun z => absurd z c175) (fun _ => ?_)
      refine gx_iload dL_law_105 0 rfl ?_
      refine gx_bE e (fun _ g213 e => ?_)
      refine gx_iE e (fun c214 e => ?_) (fun c214 e => ?_)
      · refine gy_if_lt (tgt := 187) (gi_rgS g213) dL_law_107 (by decide) (fun _ => ?_) (fun z => absurd c214 z)
        refine gx_sub (ls2 := [(0, .ref 100000), (1, .ref v1), (2, .ref v2), (3, .int (gI v3)), (4, .int (gI v4)), (5, .int (gI q171.1)), (6, .int (gI v6))]) [4, 5, 6, 7, 8, 1, 9] rfl ?_
        exact zb_L_law_187 hkc hks hr24 e
      · refine gy_if_lt (tgt := 187) (gi_rgS g213) dL_law_107 (by decide) (fun z => absurd z c214) (fun _ => ?_)
        refine gx_aload_n dL_law_110 rfl 5 rfl ?_
        refine gx_bE e (fun q215 hq215 e => ?_)
        refine gx_callSW (n := 1) (st := []) (As := [.ref v1]) dL_law_111 (z_L_enter hq215) rfl ⟨(by decide +kernel), gw_cw_L_enter, gw_0, gp_L_enter, ⟨Nat.le_of_ble_eq_true rfl, Nat.le_of_ble_eq_true rfl⟩⟩ gw_758 gw_759 ⟨by show (kc + 53) ≤ _; omega, by show (ks + 318) ≤ _; omega⟩ (Nat.le_of_ble_eq_true rfl) (gy_k1 (x := .int (gI q215.1)) (kc2 := (kc + 53)) (ks2 := (ks + 318)) ⟨rfl, rfl⟩ ?_)
        refine gy_bipush dL_law_114 gcb_m102 ?_
        refine gx_bE e (fun _ g216 e => ?_)
        refine gx_iE e (fun c217 e => ?_) (fun c217 e => ?_)
        · refine gy_icmp_ne (tgt := 181) (gi_rgS g216) (by decide) dL_law_116 (by decide) (fun z => absurd c217 z) (fun _ => ?_)
          refine gx_aload_n dL_law_119 rfl 5 rfl ?_
          refine gx_aload_n dL_law_120 rfl 6 rfl ?_
          refine gx_iload dL_law_121 0 rfl ?_
          refine gx_bE e (fun q218 hq218 e => ?_)
          refine gx_callS (n := 3) (st := []) (As := [.ref v1, .ref v2, .int (gI q173)]) dL_law_123 (z_L_types hq218) rfl ⟨rfl, gw_cw_L_types, gw_0, gp_L_types, ⟨Nat.le_of_ble_eq_true rfl, Nat.le_of_ble_eq_true rfl⟩⟩ gw_944 gw_945 ⟨by show (kc + 105) ≤ _; omega, by show (ks + 630) ≤ _; omega⟩ (Nat.le_of_ble_eq_true rfl) (gy_k1 (x := .int (gI q218.1)) (kc2 := (kc + 105)) (ks2 := (ks + 630)) ⟨rfl, rfl⟩ ?_) gy_kn
          refine gx_bE e (fun _ g219 e => ?_)
          refine gx_iE e (fun c220 e => ?_) (fun c220 e => ?_)
          · refine gy_if_eq (tgt := 181) (gi_rgS g219) dL_law_126 (by decide) (fun _ => ?_) (fun z => absurd c220 z)
            refine gx_sub (ls2 := [(0, .ref 100000), (1, .ref v1), (2, .ref v2), (3, .int (gI v3)), (4, .int (gI v4)), (6, .int (gI v6))]) [4, 5, 6, 7, 8, 9] rfl ?_
            refine gx_kup (kc2 := (kc + 106)) (ks2 := (ks + 636)) (by show (kc + 105) ≤ (kc + 106); omega) (by show (ks + 630) ≤ (ks + 636); omega) ?_
            exact zb_L_law_181 hkc hks hr24 e
          · refine gy_if_eq (tgt := 181) (gi_rgS g219) dL_law_126 (by decide) (fun z => absurd z c220) (fun _ => ?_)
            refine gx_aload_n dL_law_129 rfl 5 rfl ?_
            refine gx_bE e (fun _ hu221 e => ?_)
            refine gx_bE e (fun q222 hq222 e => ?_)
            refine gx_callV (n := 0) (st := []) (As := []) (b := v1) dL_law_130 (z_X11_fault hq222) rfl ⟨rfl, gw_cw_X11_fault, gw_1, gp_X11_fault, ⟨Nat.le_of_ble_eq_true rfl, Nat.le_of_ble_eq_true rfl⟩⟩ (gi_isS hu221) (by decide) gw_352 gw_353 gw_354 rfl ⟨by show (kc + 105) ≤ _; omega, by show (ks + 630) ≤ _; omega⟩ (Nat.le_of_ble_eq_true rfl) (gy_k1 (x := .int (gI q222)) (kc2 := (kc + 105)) (ks2 := (ks + 630)) ⟨rfl, rfl⟩ ?_) gy_kn
            refine gy_iconst dL_law_133 ?_
            refine gx_bE e (fun _ g223 e => ?_)
            refine gx_iE e (fun c224 e => ?_) (fun c224 e => ?_)
            · refine gy_icmp_eq (tgt := 146) (gi_rgS g223) (by decide) dL_law_134 (by decide) (fun _ => ?_) (fun z => absurd c224 z)
              refine gx_sub (ls2 := [(0, .ref 100000), (1, .ref v1), (2, .ref v2), (3, .int (gI v3)), (4, .int (gI v4)), (6, .int (gI v6)), (10, .int (gI q169.1)), (11, .int (gI q173))]) [4, 5, 6, 7, 8, 9, 2, 0] rfl ?_
              exact zb_L_law_146 hkc hks hr24 e
            · refine gy_icmp_eq (tgt := 146) (gi_rgS g223) (by decide) dL_law_134 (by decide) (fun z => absurd z c224) (fun _ => ?_)
              refine gx_aload_n dL_law_137 rfl 5 rfl ?_
              refine gx_bE e (fun _ hu237 e => ?_)
              refine gx_bE e (fun q238 hq238 e => ?_)
              refine gx_callV (n := 0) (st := []) (As := []) (b := v1) dL_law_138 (z_X11_fault hq238) rfl ⟨rfl, gw_cw_X11_fault, gw_1, gp_X11_fault, ⟨Nat.le_of_ble_eq_true rfl, Nat.le_of_ble_eq_true rfl⟩⟩ (gi_isS hu237) (by decide) gw_352 gw_353 gw_354 rfl ⟨by show (kc + 105) ≤ _; omega, by show (ks + 630) ≤ _; omega⟩ (Nat.le_of_ble_eq_true rfl) (gy_k1 (x := .int (gI q238)) (kc2 := (kc + 105)) (ks2 := (ks + 630)) ⟨rfl, rfl⟩ ?_) gy_kn
              refine gx_iload dL_law_141 0 rfl ?_
              refine gx_bE e (fun _ g239 e => ?_)
              refine gx_iE e (fun c240 e => ?_) (fun c240 e => ?_)
              · refine gy_icmp_ne (tgt := 181) (gi_rgS g239) (gi_rgS g213) dL_law_143 (by decide) (fun z => absurd c240 z) (fun _ => ?_)
                refine gx_sub (ls2 := [(0, .ref 100000), (1, .ref v1), (2, .ref v2), (3, .int (gI v3)), (4, .int (gI v4)), (6, .int (gI v6)), (10, .int (gI q169.1)), (11, .int (gI q173))]) [4, 5, 6, 7, 8, 9, 2, 0] rfl ?_
                exact zb_L_law_146 hkc hks hr24 e
              · refine gy_icmp_ne (tgt := 181) (gi_rgS g239) (gi_rgS g213) dL_law_143 (by decide) (fun _ => ?_) (fun z => absurd z c240)
                refine gx_sub (ls2 := [(0, .ref 100000), (1, .ref v1), (2, .ref v2), (3, .int (gI v3)), (4, .int (gI v4)), (6, .int (gI v6))]) [4, 5, 6, 7, 8, 9] rfl ?_
                refine gx_kup (kc2 := (kc + 106)) (ks2 := (ks + 636)) (by show (kc + 105) ≤ (kc + 106); omega) (by show (ks + 630) ≤ (ks + 636); omega) ?_
                exact zb_L_law_181 hkc hks hr24 e
        · refine gy_icmp_ne (tgt := 181) (gi_rgS g216) (by decide) dL_law_116 (by decide) (fun _ => ?_) (fun z => absurd z c217)
          refine gx_sub (ls2 := [(0, .ref 100000), (1, .ref v1), (2, .ref v2), (3, .int (gI v3)), (4, .int (gI v4)), (6, .int (gI v6))]) [4, 5, 6, 7, 8, 9] rfl ?_
          refine gx_kup (kc2 := (kc + 106)) (ks2 := (ks + 636)) (by show (kc + 53) ≤ (kc + 106); omega) (by show (ks + 318) ≤ (ks + 636); omega) ?_
          exact zb_L_law_181 hkc hks hr24 e
set_option maxRecDepth 100000 in
def b_L_law_24 (n : Nat) (L : Nat) (xs : Nat → Int) (r24 : Nat → Nat → Int → Int → Int → Int → gi_H → Option (Int × gi_H)) (v1 : Nat) (v2 : Nat) (v3 : Int) (v4 : Int) (v5 : Int) (v6 : Int)  (h : gi_H) : Option (Int × gi_H) :=
  Option.bind (gi_rg v6) fun _ => if (26 : Int) ≤ v6 then (Option.bind (gi_zo v5) fun _ => some (v5, h)) else (Option.bind (gi_rg v5) fun _ => if v5 = 0 then (Option.bind (gi_zo v5) fun _ => some (v5, h)) else (Option.bind (gi_mk h) fun _ => Option.bind (f_L_cell L xs v6 h) fun q12 => Option.bind (gi_dg q12 (16 : Int)) fun _ => gx_nm (q12 / (16 : Int)) fun t15 => if (4 : Int) ≤ v6 then (Option.bind (gi_dg q12 (16 : Int)) fun _ => b_L_law_66 n L xs r24 v1 v2 v3 v4 v5 v6 t15 (q12 % (16 : Int)) h) else (b_L_law_66 n L xs r24 v1 v2 v3 v4 v5 v6 t15 (0 : Int) h)))
set_option maxRecDepth 100000 in
theorem zb_L_law_24 {n : Nat} {L : Nat} {xs : Nat → Int} {r24 : Nat → Nat → Int → Int → Int → Int → gi_H → Option (Int × gi_H)} {res : Int} {h1 : gi_H} {kc ks k : Nat} (hkc : kc + (k + 1) * 2000 ≤ 54186) (hks : ks + (k + 1) * 12000 ≤ 388187) (hr24 : ∀ (kc ks : Nat) (x1 : Nat) (x2 : Nat) (x3 : Int) (x4 : Int) (x5 : Int) (x6 : Int) (hh : gi_H), kc + k * 2000 ≤ 54186 → ks + k * 12000 ≤ 388187 → r24 x1 x2 x3 x4 x5 x6 hh = some (res, h1) → gx_Z (mL_law L xs) false false kc ks 24 [(0, .ref 100000), (1, .ref x1), (2, .ref x2), (3, .int (gI x3)), (4, .int (gI x4)), (5, .int (gI x5)), (6, .int (gI x6))] [] (gi_cv hh) (.inl (some (.int (gI res)))) (gi_cv h1)) {v1 : Nat} {v2 : Nat} {v3 : Int} {v4 : Int} {v5 : Int} {v6 : Int}  {h : gi_H} (e : b_L_law_24 n L xs r24 v1 v2 v3 v4 v5 v6 h = some (res, h1)) : gx_Z (mL_law L xs) false false kc ks 24 [(0, .ref 100000), (1, .ref v1), (2, .ref v2), (3, .int (gI v3)), (4, .int (gI v4)), (5, .int (gI v5)), (6, .int (gI v6))] [] (gi_cv h) (.inl (some (.int (gI res)))) (gi_cv h1) := by
  have hKc : 54186 ≤ (gx_rm (mL_law L xs)).cells := Nat.le_of_ble_eq_true rfl
  have hKs : 388187 ≤ (gx_rm (mL_law L xs)).slots := Nat.le_of_ble_eq_true rfl
  refine gx_iload dL_law_24 6 rfl ?_
  refine gy_bipush dL_law_26 gcb_26 ?_
  refine gx_bE e (fun _ g6 e => ?_)
  refine gx_iE e (fun c7 e => ?_) (fun c7 e => ?_)
  · refine gy_icmp_ge (tgt := 908) (gi_rgS g6) (by decide) dL_law_28 (by decide) (fun _ => ?_) (fun z => absurd c7 z)
    refine gx_iload dL_law_908 5 rfl ?_
    refine gx_bE e (fun _ hu8 e => ?_)
    cases e
    exact gx_zret (gi_zoS hu8) dL_law_910 rfl ⟨by show kc ≤ _; omega, by show ks ≤ _; omega⟩ (fun z => by cases z)
  · refine gy_icmp_ge (tgt := 908) (gi_rgS g6) (by decide) dL_law_28 (by decide) (fun z => absurd z c7) (fun _ => ?_)
    refine gx_iload dL_law_31 5 rfl ?_
    refine gx_bE e (fun _ g9 e => ?_)
    refine gx_iE e (fun c10 e => ?_) (fun c10 e => ?_)
    · refine gy_if_eq (tgt := 908) (gi_rgS g9) dL_law_33 (by decide) (fun _ => ?_) (fun z => absurd c10 z)
      refine gx_iload dL_law_908 5 rfl ?_
      refine gx_bE e (fun _ hu11 e => ?_)
      cases e
      exact gx_zret (gi_zoS hu11) dL_law_910 rfl ⟨by show kc ≤ _; omega, by show ks ≤ _; omega⟩ (fun z => by cases z)
    · refine gy_if_eq (tgt := 908) (gi_rgS g9) dL_law_33 (by decide) (fun z => absurd z c10) (fun _ => ?_)
      refine gx_aload_n dL_law_36 rfl 0 rfl ?_
      refine gx_iload dL_law_37 6 rfl ?_
      refine gx_bE e (fun _ g13 e => ?_)
      refine gx_bE e (fun q12 hq12 e => ?_)
      refine gx_callSS (n := 2) (st := []) (As := [.ref 100000, .int (gI v6)]) (q := (L, fun j => gI (xs j))) rfl rfl (Nat.le_of_lt (gi_mkS g13)) dL_law_39 (z_L_cell hq12) rfl ⟨rfl, gw_cw_L_cell, gw_0, gp_L_cell, ⟨Nat.le_of_ble_eq_true rfl, Nat.le_of_ble_eq_true rfl⟩⟩ gw_646 gw_647 ⟨by show kc ≤ _; omega, by show ks ≤ _; omega⟩ (Nat.le_of_ble_eq_true rfl) (gy_k1 (x := .int (gI q12)) (kc2 := kc) (ks2 := ks) ⟨rfl, rfl⟩ ?_) gy_kn
      refine gx_istore (ls2 := [(7, .int (gI q12)), (0, .ref 100000), (1, .ref v1), (2, .ref v2), (3, .int (gI v3)), (4, .int (gI v4)), (5, .int (gI v5)), (6, .int (gI v6))]) dL_law_42 (Nat.le_of_ble_eq_true rfl) rfl ?_
      refine gx_iload dL_law_44 0 rfl ?_
      refine gy_bipush dL_law_46 gcb_16 ?_
      refine gx_bE e (fun _ hu14 e => ?_)
      refine gy_idiv hu14 dL_law_48 ?_
      refine gx_nE e (fun t15 ht15 e => ?_)
      rw [ht15]
      refine gx_istore (ls2 := [(8, .int (gI t15)), (7, .int (gI q12)), (0, .ref 100000), (1, .ref v1), (2, .ref v2), (3, .int (gI v3)), (4, .int (gI v4)), (5, .int (gI v5)), (6, .int (gI v6))]) dL_law_49 (Nat.le_of_ble_eq_true rfl) rfl ?_
      refine gx_iload dL_law_51 8 rfl ?_
      refine gy_iconst dL_law_53 ?_
      refine gx_iE e (fun c16 e => ?_) (fun c16 e => ?_)
      · refine gy_icmp_ge (tgt := 61) (gi_rgS g6) (by decide) dL_law_54 (by decide) (fun _ => ?_) (fun z => absurd c16 z)
        refine gx_iload dL_law_61 1 rfl ?_
        refine gy_bipush dL_law_63 gcb_16 ?_
        refine gx_bE e (fun _ hu17 e => ?_)
        refine gy_irem hu17 dL_law_65 ?_
        refine gx_sub (ls2 := [(0, .ref 100000), (1, .ref v1), (2, .ref v2), (3, .int (gI v3)), (4, .int (gI v4)), (5, .int (gI v5)), (6, .int (gI v6)), (8, .int (gI t15))]) [2, 3, 4, 5, 6, 7, 8, 0] rfl ?_
        exact zb_L_law_66 hkc hks hr24 e
      · refine gy_icmp_ge (tgt := 61) (gi_rgS g6) (by decide) dL_law_54 (by decide) (fun z => absurd z c16) (fun _ => ?_)
        refine gy_iconst dL_law_57 ?_
        refine gx_goto (tgt := 66) dL_law_58 (by decide) ?_
        refine gx_sub (ls2 := [(0, .ref 100000), (1, .ref v1), (2, .ref v2), (3, .int (gI v3)), (4, .int (gI v4)), (5, .int (gI v5)), (6, .int (gI v6)), (8, .int (gI t15))]) [2, 3, 4, 5, 6, 7, 8, 0] rfl ?_
        exact zb_L_law_66 hkc hks hr24 e
def l_L_law_24 (n : Nat) (L : Nat) (xs : Nat → Int)  : Nat → Nat → Nat → Int → Int → Int → Int → gi_H → Option (Int × gi_H)
  | 0, _, _, _, _, _, _, _ => none
  | k + 1, v1, v2, v3, v4, v5, v6, h => b_L_law_24 n L xs  (l_L_law_24 n L xs  k) v1 v2 v3 v4 v5 v6 h
theorem zl_L_law_24 {n : Nat} {L : Nat} {xs : Nat → Int}  {res : Int} {h1 : gi_H}  : ∀ (k kc ks : Nat) (v1 : Nat) (v2 : Nat) (v3 : Int) (v4 : Int) (v5 : Int) (v6 : Int) (h : gi_H), kc + k * 2000 ≤ 54186 → ks + k * 12000 ≤ 388187 → l_L_law_24 n L xs  k v1 v2 v3 v4 v5 v6 h = some (res, h1) → gx_Z (mL_law L xs) false false kc ks 24 [(0, .ref 100000), (1, .ref v1), (2, .ref v2), (3, .int (gI v3)), (4, .int (gI v4)), (5, .int (gI v5)), (6, .int (gI v6))] [] (gi_cv h) (.inl (some (.int (gI res)))) (gi_cv h1)
  | 0, _, _, _, _, _, _, _, _, _, _, _, e => gx_0E e
  | k + 1, _, _, _, _, _, _, _, _, _, hkc, hks, e => zb_L_law_24 (n := n) hkc hks  (fun kc ks => zl_L_law_24  k kc ks) e
set_option maxRecDepth 100000 in
def f_L_law (n : Nat) (L : Nat) (xs : Nat → Int)  (h : gi_H) : Option (Int × gi_H) :=
  Option.bind (gi_mk h) fun _ => gx_nm (gi_nw h (0, 9)) fun h1 => Option.bind (f_X11_init n (gi_sz h) h1) fun q2 => gx_nm (gi_sz h) fun t3 => Option.bind (gi_mk q2) fun _ => gx_nm (gi_nw q2 (1, 24)) fun h4 => gx_nm (gi_sz q2) fun t5 => l_L_law_24 n L xs  27 t3 t5 (0 : Int) (0 : Int) (1 : Int) (0 : Int) h4
set_option maxRecDepth 100000 in
theorem z_L_law {n : Nat} {L : Nat} {xs : Nat → Int}  {h : gi_H} {res : Int} {h1 : gi_H} (e : f_L_law n L xs  h = some (res, h1)) : gx_Z (mL_law L xs) true false 0 0 0 [(0, .ref 100000)] [] (gi_cv h) (.inl (some (.int (gI res)))) (gi_cv h1) := by
  refine gx_bE e (fun _ gh1 e => ?_)
  refine gx_nE e (fun h1 hh1 e => ?_)
  refine gy_new (ci := 9) gh1 hh1 dL_law_0 (by decide) gw_21 gw_22 gw_1 rfl (kc2 := 1) (ks2 := 17) ⟨rfl, rfl⟩ ⟨Nat.le_of_ble_eq_true rfl, Nat.le_of_ble_eq_true rfl⟩ ?_
  refine gx_dup dL_law_3 rfl ?_
  refine gx_bE e (fun q2 hq2 e => ?_)
  refine gx_callI (n := 0) (st := [.ref (gi_sz h)]) (As := []) (b := (gi_sz h)) dL_law_4 (z_X11_init hq2) rfl ⟨rfl, gw_cw_X11_init, gw_1, gp_X11_init, ⟨Nat.le_of_ble_eq_true rfl, Nat.le_of_ble_eq_true rfl⟩⟩ gw_23 gw_24 rfl rfl ⟨Nat.le_of_ble_eq_true rfl, Nat.le_of_ble_eq_true rfl⟩ (Nat.le_of_ble_eq_true rfl) (gy_k0 (kc2 := 185) (ks2 := 64163) ⟨rfl, rfl⟩ ?_) gy_kn
  refine gx_nE e (fun t3 ht3 e => ?_)
  rw [ht3]
  refine gx_astore_n (ls2 := [(1, .ref t3), (0, .ref 100000)]) dL_law_7 rfl (Nat.le_of_ble_eq_true rfl) rfl ?_
  refine gy_bipush dL_law_8 gcb_24 ?_
  refine gx_bE e (fun _ gh4 e => ?_)
  refine gx_nE e (fun h4 hh4 e => ?_)
  refine gy_newa1 (N := 24) gh4 hh4 dL_law_10 gw_65 (by decide +kernel) (by decide +kernel) (by decide) rfl (kc2 := 186) (ks2 := 64187) ⟨rfl, rfl⟩ ⟨Nat.le_of_ble_eq_true rfl, Nat.le_of_ble_eq_true rfl⟩ ?_
  refine gx_nE e (fun t5 ht5 e => ?_)
  rw [ht5]
  refine gx_astore_n (ls2 := [(2, .ref t5), (1, .ref t3), (0, .ref 100000)]) dL_law_12 rfl (Nat.le_of_ble_eq_true rfl) rfl ?_
  refine gy_iconst dL_law_13 ?_
  refine gx_istore_n (ls2 := [(3, .int (gI (0 : Int))), (2, .ref t5), (1, .ref t3), (0, .ref 100000)]) dL_law_14 rfl (Nat.le_of_ble_eq_true rfl) rfl ?_
  refine gy_iconst dL_law_15 ?_
  refine gx_istore (ls2 := [(4, .int (gI (0 : Int))), (3, .int (gI (0 : Int))), (2, .ref t5), (1, .ref t3), (0, .ref 100000)]) dL_law_16 (Nat.le_of_ble_eq_true rfl) rfl ?_
  refine gy_iconst dL_law_18 ?_
  refine gx_istore (ls2 := [(5, .int (gI (1 : Int))), (4, .int (gI (0 : Int))), (3, .int (gI (0 : Int))), (2, .ref t5), (1, .ref t3), (0, .ref 100000)]) dL_law_19 (Nat.le_of_ble_eq_true rfl) rfl ?_
  refine gy_iconst dL_law_21 ?_
  refine gx_istore (ls2 := [(6, .int (gI (0 : Int))), (5, .int (gI (1 : Int))), (4, .int (gI (0 : Int))), (3, .int (gI (0 : Int))), (2, .ref t5), (1, .ref t3), (0, .ref 100000)]) dL_law_22 (Nat.le_of_ble_eq_true rfl) rfl ?_
  refine gx_sub (ls2 := [(0, .ref 100000), (1, .ref t3), (2, .ref t5), (3, .int (gI (0 : Int))), (4, .int (gI (0 : Int))), (5, .int (gI (1 : Int))), (6, .int (gI (0 : Int)))]) [6, 5, 4, 3, 2, 1, 0] rfl ?_
  refine gx_weak ?_
  exact zl_L_law_24  27 186 64187 _ _ _ _ _ _ _ (Nat.le_of_ble_eq_true rfl) (Nat.le_of_ble_eq_true rfl) e
