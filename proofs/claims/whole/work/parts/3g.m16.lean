/-! L_law  -/
set_option maxRecDepth 100000 in
def b_L_law_1586 (n : Nat) (L : Nat) (xs : Nat → Int) (r23 : Nat → Nat → Nat → Int → gi_H → Option (Int × gi_H)) (v1 : Nat) (v2 : Nat) (v3 : Nat) (v4 : Int)  (h : gi_H) : Option (Int × gi_H) :=
  gx_nm (v4 + (4 : Int)) fun t33 => r23 v1 v2 v3 t33 h
set_option maxRecDepth 100000 in
theorem zb_L_law_1586 {n : Nat} {L : Nat} {xs : Nat → Int} {r23 : Nat → Nat → Nat → Int → gi_H → Option (Int × gi_H)} {res : Int} {h1 : gi_H} {kc ks k : Nat} (hkc : kc + k * 2 ≤ (gx_rm (mL_law L xs)).cells) (hks : ks + k * 12 ≤ (gx_rm (mL_law L xs)).slots) (hr23 : ∀ (kc ks : Nat) (x1 : Nat) (x2 : Nat) (x3 : Nat) (x4 : Int) (hh : gi_H), kc + k * 2 ≤ (gx_rm (mL_law L xs)).cells → ks + k * 12 ≤ (gx_rm (mL_law L xs)).slots → r23 x1 x2 x3 x4 hh = some (res, h1) → gx_Z (mL_law L xs) false false kc ks 23 [(0, .ref 100000), (1, .ref x1), (2, .ref x2), (3, .ref x3), (4, .int (gI x4))] [] (gi_cv hh) (.inl (some (.int (gI res)))) (gi_cv h1)) {v1 : Nat} {v2 : Nat} {v3 : Nat} {v4 : Int}  {h : gi_H} (e : b_L_law_1586 n L xs r23 v1 v2 v3 v4 h = some (res, h1)) : gx_Z (mL_law L xs) false false kc ks 1586 [(0, .ref 100000), (1, .ref v1), (2, .ref v2), (3, .ref v3), (4, .int (gI v4))] [] (gi_cv h) (.inl (some (.int (gI res)))) (gi_cv h1) := by
  refine gx_nE e (fun t33 ht33 e => ?_)
  refine gy_iinc (v := t33) (ls2 := [(4, .int (gI t33)), (0, .ref 100000), (1, .ref v1), (2, .ref v2), (3, .ref v3)]) dL_law_1586 4 rfl ht33 (Nat.le_of_ble_eq_true rfl) rfl ?_
  refine gx_goto (tgt := 23) dL_law_1589 (by decide) ?_
  refine gx_sub (ls2 := [(0, .ref 100000), (1, .ref v1), (2, .ref v2), (3, .ref v3), (4, .int (gI t33))]) [1, 2, 3, 4, 0] rfl ?_
  exact hr23 _ _ _ _ _ _ _ (by show kc + _ ≤ _; omega) (by show ks + _ ≤ _; omega) e
set_option maxRecDepth 100000 in
def b_L_law_223 (n : Nat) (L : Nat) (xs : Nat → Int) (r23 : Nat → Nat → Nat → Int → gi_H → Option (Int × gi_H)) (v1 : Nat) (v2 : Nat) (v3 : Nat) (v4 : Int)  (h : gi_H) : Option (Int × gi_H) :=
  b_L_law_1586 n L xs r23 v1 v2 v3 v4 h
set_option maxRecDepth 100000 in
theorem zb_L_law_223 {n : Nat} {L : Nat} {xs : Nat → Int} {r23 : Nat → Nat → Nat → Int → gi_H → Option (Int × gi_H)} {res : Int} {h1 : gi_H} {kc ks k : Nat} (hkc : kc + k * 2 ≤ (gx_rm (mL_law L xs)).cells) (hks : ks + k * 12 ≤ (gx_rm (mL_law L xs)).slots) (hr23 : ∀ (kc ks : Nat) (x1 : Nat) (x2 : Nat) (x3 : Nat) (x4 : Int) (hh : gi_H), kc + k * 2 ≤ (gx_rm (mL_law L xs)).cells → ks + k * 12 ≤ (gx_rm (mL_law L xs)).slots → r23 x1 x2 x3 x4 hh = some (res, h1) → gx_Z (mL_law L xs) false false kc ks 23 [(0, .ref 100000), (1, .ref x1), (2, .ref x2), (3, .ref x3), (4, .int (gI x4))] [] (gi_cv hh) (.inl (some (.int (gI res)))) (gi_cv h1)) {v1 : Nat} {v2 : Nat} {v3 : Nat} {v4 : Int}  {h : gi_H} (e : b_L_law_223 n L xs r23 v1 v2 v3 v4 h = some (res, h1)) : gx_Z (mL_law L xs) false false kc ks 223 [(0, .ref 100000), (1, .ref v1), (2, .ref v2), (3, .ref v3), (4, .int (gI v4))] [] (gi_cv h) (.inl (some (.int (gI res)))) (gi_cv h1) := by
  refine gx_goto (tgt := 1586) dL_law_223 (by decide) ?_
  exact zb_L_law_1586 (by show kc + _ ≤ _; omega) (by show ks + _ ≤ _; omega) hr23 e
set_option maxRecDepth 100000 in
def b_L_law_293 (n : Nat) (L : Nat) (xs : Nat → Int) (r23 : Nat → Nat → Nat → Int → gi_H → Option (Int × gi_H)) (v1 : Nat) (v2 : Nat) (v3 : Nat) (v4 : Int)  (h : gi_H) : Option (Int × gi_H) :=
  b_L_law_1586 n L xs r23 v1 v2 v3 v4 h
set_option maxRecDepth 100000 in
theorem zb_L_law_293 {n : Nat} {L : Nat} {xs : Nat → Int} {r23 : Nat → Nat → Nat → Int → gi_H → Option (Int × gi_H)} {res : Int} {h1 : gi_H} {kc ks k : Nat} (hkc : kc + k * 2 ≤ (gx_rm (mL_law L xs)).cells) (hks : ks + k * 12 ≤ (gx_rm (mL_law L xs)).slots) (hr23 : ∀ (kc ks : Nat) (x1 : Nat) (x2 : Nat) (x3 : Nat) (x4 : Int) (hh : gi_H), kc + k * 2 ≤ (gx_rm (mL_law L xs)).cells → ks + k * 12 ≤ (gx_rm (mL_law L xs)).slots → r23 x1 x2 x3 x4 hh = some (res, h1) → gx_Z (mL_law L xs) false false kc ks 23 [(0, .ref 100000), (1, .ref x1), (2, .ref x2), (3, .ref x3), (4, .int (gI x4))] [] (gi_cv hh) (.inl (some (.int (gI res)))) (gi_cv h1)) {v1 : Nat} {v2 : Nat} {v3 : Nat} {v4 : Int}  {h : gi_H} (e : b_L_law_293 n L xs r23 v1 v2 v3 v4 h = some (res, h1)) : gx_Z (mL_law L xs) false false kc ks 293 [(0, .ref 100000), (1, .ref v1), (2, .ref v2), (3, .ref v3), (4, .int (gI v4))] [] (gi_cv h) (.inl (some (.int (gI res)))) (gi_cv h1) := by
  refine gx_goto (tgt := 1586) dL_law_293 (by decide) ?_
  exact zb_L_law_1586 (by show kc + _ ≤ _; omega) (by show ks + _ ≤ _; omega) hr23 e
set_option maxRecDepth 100000 in
def b_L_law_337 (n : Nat) (L : Nat) (xs : Nat → Int) (r23 : Nat → Nat → Nat → Int → gi_H → Option (Int × gi_H)) (v1 : Nat) (v2 : Nat) (v3 : Nat) (v4 : Int)  (h : gi_H) : Option (Int × gi_H) :=
  b_L_law_1586 n L xs r23 v1 v2 v3 v4 h
set_option maxRecDepth 100000 in
theorem zb_L_law_337 {n : Nat} {L : Nat} {xs : Nat → Int} {r23 : Nat → Nat → Nat → Int → gi_H → Option (Int × gi_H)} {res : Int} {h1 : gi_H} {kc ks k : Nat} (hkc : kc + k * 2 ≤ (gx_rm (mL_law L xs)).cells) (hks : ks + k * 12 ≤ (gx_rm (mL_law L xs)).slots) (hr23 : ∀ (kc ks : Nat) (x1 : Nat) (x2 : Nat) (x3 : Nat) (x4 : Int) (hh : gi_H), kc + k * 2 ≤ (gx_rm (mL_law L xs)).cells → ks + k * 12 ≤ (gx_rm (mL_law L xs)).slots → r23 x1 x2 x3 x4 hh = some (res, h1) → gx_Z (mL_law L xs) false false kc ks 23 [(0, .ref 100000), (1, .ref x1), (2, .ref x2), (3, .ref x3), (4, .int (gI x4))] [] (gi_cv hh) (.inl (some (.int (gI res)))) (gi_cv h1)) {v1 : Nat} {v2 : Nat} {v3 : Nat} {v4 : Int}  {h : gi_H} (e : b_L_law_337 n L xs r23 v1 v2 v3 v4 h = some (res, h1)) : gx_Z (mL_law L xs) false false kc ks 337 [(0, .ref 100000), (1, .ref v1), (2, .ref v2), (3, .ref v3), (4, .int (gI v4))] [] (gi_cv h) (.inl (some (.int (gI res)))) (gi_cv h1) := by
  refine gx_goto (tgt := 1586) dL_law_337 (by decide) ?_
  exact zb_L_law_1586 (by show kc + _ ≤ _; omega) (by show ks + _ ≤ _; omega) hr23 e
set_option maxRecDepth 100000 in
def b_L_law_393 (n : Nat) (L : Nat) (xs : Nat → Int) (r23 : Nat → Nat → Nat → Int → gi_H → Option (Int × gi_H)) (v1 : Nat) (v2 : Nat) (v3 : Nat) (v4 : Int)  (h : gi_H) : Option (Int × gi_H) :=
  b_L_law_1586 n L xs r23 v1 v2 v3 v4 h
set_option maxRecDepth 100000 in
theorem zb_L_law_393 {n : Nat} {L : Nat} {xs : Nat → Int} {r23 : Nat → Nat → Nat → Int → gi_H → Option (Int × gi_H)} {res : Int} {h1 : gi_H} {kc ks k : Nat} (hkc : kc + k * 2 ≤ (gx_rm (mL_law L xs)).cells) (hks : ks + k * 12 ≤ (gx_rm (mL_law L xs)).slots) (hr23 : ∀ (kc ks : Nat) (x1 : Nat) (x2 : Nat) (x3 : Nat) (x4 : Int) (hh : gi_H), kc + k * 2 ≤ (gx_rm (mL_law L xs)).cells → ks + k * 12 ≤ (gx_rm (mL_law L xs)).slots → r23 x1 x2 x3 x4 hh = some (res, h1) → gx_Z (mL_law L xs) false false kc ks 23 [(0, .ref 100000), (1, .ref x1), (2, .ref x2), (3, .ref x3), (4, .int (gI x4))] [] (gi_cv hh) (.inl (some (.int (gI res)))) (gi_cv h1)) {v1 : Nat} {v2 : Nat} {v3 : Nat} {v4 : Int}  {h : gi_H} (e : b_L_law_393 n L xs r23 v1 v2 v3 v4 h = some (res, h1)) : gx_Z (mL_law L xs) false false kc ks 393 [(0, .ref 100000), (1, .ref v1), (2, .ref v2), (3, .ref v3), (4, .int (gI v4))] [] (gi_cv h) (.inl (some (.int (gI res)))) (gi_cv h1) := by
  refine gx_goto (tgt := 1586) dL_law_393 (by decide) ?_
  exact zb_L_law_1586 (by show kc + _ ≤ _; omega) (by show ks + _ ≤ _; omega) hr23 e
set_option maxRecDepth 100000 in
def b_L_law_449 (n : Nat) (L : Nat) (xs : Nat → Int) (r23 : Nat → Nat → Nat → Int → gi_H → Option (Int × gi_H)) (v1 : Nat) (v2 : Nat) (v3 : Nat) (v4 : Int)  (h : gi_H) : Option (Int × gi_H) :=
  b_L_law_1586 n L xs r23 v1 v2 v3 v4 h
set_option maxRecDepth 100000 in
theorem zb_L_law_449 {n : Nat} {L : Nat} {xs : Nat → Int} {r23 : Nat → Nat → Nat → Int → gi_H → Option (Int × gi_H)} {res : Int} {h1 : gi_H} {kc ks k : Nat} (hkc : kc + k * 2 ≤ (gx_rm (mL_law L xs)).cells) (hks : ks + k * 12 ≤ (gx_rm (mL_law L xs)).slots) (hr23 : ∀ (kc ks : Nat) (x1 : Nat) (x2 : Nat) (x3 : Nat) (x4 : Int) (hh : gi_H), kc + k * 2 ≤ (gx_rm (mL_law L xs)).cells → ks + k * 12 ≤ (gx_rm (mL_law L xs)).slots → r23 x1 x2 x3 x4 hh = some (res, h1) → gx_Z (mL_law L xs) false false kc ks 23 [(0, .ref 100000), (1, .ref x1), (2, .ref x2), (3, .ref x3), (4, .int (gI x4))] [] (gi_cv hh) (.inl (some (.int (gI res)))) (gi_cv h1)) {v1 : Nat} {v2 : Nat} {v3 : Nat} {v4 : Int}  {h : gi_H} (e : b_L_law_449 n L xs r23 v1 v2 v3 v4 h = some (res, h1)) : gx_Z (mL_law L xs) false false kc ks 449 [(0, .ref 100000), (1, .ref v1), (2, .ref v2), (3, .ref v3), (4, .int (gI v4))] [] (gi_cv h) (.inl (some (.int (gI res)))) (gi_cv h1) := by
  refine gx_goto (tgt := 1586) dL_law_449 (by decide) ?_
  exact zb_L_law_1586 (by show kc + _ ≤ _; omega) (by show ks + _ ≤ _; omega) hr23 e
set_option maxRecDepth 100000 in
def b_L_law_505 (n : Nat) (L : Nat) (xs : Nat → Int) (r23 : Nat → Nat → Nat → Int → gi_H → Option (Int × gi_H)) (v1 : Nat) (v2 : Nat) (v3 : Nat) (v4 : Int)  (h : gi_H) : Option (Int × gi_H) :=
  b_L_law_1586 n L xs r23 v1 v2 v3 v4 h
set_option maxRecDepth 100000 in
theorem zb_L_law_505 {n : Nat} {L : Nat} {xs : Nat → Int} {r23 : Nat → Nat → Nat → Int → gi_H → Option (Int × gi_H)} {res : Int} {h1 : gi_H} {kc ks k : Nat} (hkc : kc + k * 2 ≤ (gx_rm (mL_law L xs)).cells) (hks : ks + k * 12 ≤ (gx_rm (mL_law L xs)).slots) (hr23 : ∀ (kc ks : Nat) (x1 : Nat) (x2 : Nat) (x3 : Nat) (x4 : Int) (hh : gi_H), kc + k * 2 ≤ (gx_rm (mL_law L xs)).cells → ks + k * 12 ≤ (gx_rm (mL_law L xs)).slots → r23 x1 x2 x3 x4 hh = some (res, h1) → gx_Z (mL_law L xs) false false kc ks 23 [(0, .ref 100000), (1, .ref x1), (2, .ref x2), (3, .ref x3), (4, .int (gI x4))] [] (gi_cv hh) (.inl (some (.int (gI res)))) (gi_cv h1)) {v1 : Nat} {v2 : Nat} {v3 : Nat} {v4 : Int}  {h : gi_H} (e : b_L_law_505 n L xs r23 v1 v2 v3 v4 h = some (res, h1)) : gx_Z (mL_law L xs) false false kc ks 505 [(0, .ref 100000), (1, .ref v1), (2, .ref v2), (3, .ref v3), (4, .int (gI v4))] [] (gi_cv h) (.inl (some (.int (gI res)))) (gi_cv h1) := by
  refine gx_goto (tgt := 1586) dL_law_505 (by decide) ?_
  exact zb_L_law_1586 (by show kc + _ ≤ _; omega) (by show ks + _ ≤ _; omega) hr23 e
set_option maxRecDepth 100000 in
def b_L_law_585 (n : Nat) (L : Nat) (xs : Nat → Int) (r23 : Nat → Nat → Nat → Int → gi_H → Option (Int × gi_H)) (v1 : Nat) (v2 : Nat) (v3 : Nat) (v4 : Int)  (h : gi_H) : Option (Int × gi_H) :=
  b_L_law_1586 n L xs r23 v1 v2 v3 v4 h
set_option maxRecDepth 100000 in
theorem zb_L_law_585 {n : Nat} {L : Nat} {xs : Nat → Int} {r23 : Nat → Nat → Nat → Int → gi_H → Option (Int × gi_H)} {res : Int} {h1 : gi_H} {kc ks k : Nat} (hkc : kc + k * 2 ≤ (gx_rm (mL_law L xs)).cells) (hks : ks + k * 12 ≤ (gx_rm (mL_law L xs)).slots) (hr23 : ∀ (kc ks : Nat) (x1 : Nat) (x2 : Nat) (x3 : Nat) (x4 : Int) (hh : gi_H), kc + k * 2 ≤ (gx_rm (mL_law L xs)).cells → ks + k * 12 ≤ (gx_rm (mL_law L xs)).slots → r23 x1 x2 x3 x4 hh = some (res, h1) → gx_Z (mL_law L xs) false false kc ks 23 [(0, .ref 100000), (1, .ref x1), (2, .ref x2), (3, .ref x3), (4, .int (gI x4))] [] (gi_cv hh) (.inl (some (.int (gI res)))) (gi_cv h1)) {v1 : Nat} {v2 : Nat} {v3 : Nat} {v4 : Int}  {h : gi_H} (e : b_L_law_585 n L xs r23 v1 v2 v3 v4 h = some (res, h1)) : gx_Z (mL_law L xs) false false kc ks 585 [(0, .ref 100000), (1, .ref v1), (2, .ref v2), (3, .ref v3), (4, .int (gI v4))] [] (gi_cv h) (.inl (some (.int (gI res)))) (gi_cv h1) := by
  refine gx_goto (tgt := 1586) dL_law_585 (by decide) ?_
  exact zb_L_law_1586 (by show kc + _ ≤ _; omega) (by show ks + _ ≤ _; omega) hr23 e
set_option maxRecDepth 100000 in
def b_L_law_654 (n : Nat) (L : Nat) (xs : Nat → Int) (r23 : Nat → Nat → Nat → Int → gi_H → Option (Int × gi_H)) (v1 : Nat) (v2 : Nat) (v3 : Nat) (v4 : Int)  (h : gi_H) : Option (Int × gi_H) :=
  b_L_law_1586 n L xs r23 v1 v2 v3 v4 h
set_option maxRecDepth 100000 in
theorem zb_L_law_654 {n : Nat} {L : Nat} {xs : Nat → Int} {r23 : Nat → Nat → Nat → Int → gi_H → Option (Int × gi_H)} {res : Int} {h1 : gi_H} {kc ks k : Nat} (hkc : kc + k * 2 ≤ (gx_rm (mL_law L xs)).cells) (hks : ks + k * 12 ≤ (gx_rm (mL_law L xs)).slots) (hr23 : ∀ (kc ks : Nat) (x1 : Nat) (x2 : Nat) (x3 : Nat) (x4 : Int) (hh : gi_H), kc + k * 2 ≤ (gx_rm (mL_law L xs)).cells → ks + k * 12 ≤ (gx_rm (mL_law L xs)).slots → r23 x1 x2 x3 x4 hh = some (res, h1) → gx_Z (mL_law L xs) false false kc ks 23 [(0, .ref 100000), (1, .ref x1), (2, .ref x2), (3, .ref x3), (4, .int (gI x4))] [] (gi_cv hh) (.inl (some (.int (gI res)))) (gi_cv h1)) {v1 : Nat} {v2 : Nat} {v3 : Nat} {v4 : Int}  {h : gi_H} (e : b_L_law_654 n L xs r23 v1 v2 v3 v4 h = some (res, h1)) : gx_Z (mL_law L xs) false false kc ks 654 [(0, .ref 100000), (1, .ref v1), (2, .ref v2), (3, .ref v3), (4, .int (gI v4))] [] (gi_cv h) (.inl (some (.int (gI res)))) (gi_cv h1) := by
  refine gx_goto (tgt := 1586) dL_law_654 (by decide) ?_
  exact zb_L_law_1586 (by show kc + _ ≤ _; omega) (by show ks + _ ≤ _; omega) hr23 e
set_option maxRecDepth 100000 in
def b_L_law_722 (n : Nat) (L : Nat) (xs : Nat → Int) (r23 : Nat → Nat → Nat → Int → gi_H → Option (Int × gi_H)) (v1 : Nat) (v2 : Nat) (v3 : Nat) (v4 : Int)  (h : gi_H) : Option (Int × gi_H) :=
  b_L_law_1586 n L xs r23 v1 v2 v3 v4 h
set_option maxRecDepth 100000 in
theorem zb_L_law_722 {n : Nat} {L : Nat} {xs : Nat → Int} {r23 : Nat → Nat → Nat → Int → gi_H → Option (Int × gi_H)} {res : Int} {h1 : gi_H} {kc ks k : Nat} (hkc : kc + k * 2 ≤ (gx_rm (mL_law L xs)).cells) (hks : ks + k * 12 ≤ (gx_rm (mL_law L xs)).slots) (hr23 : ∀ (kc ks : Nat) (x1 : Nat) (x2 : Nat) (x3 : Nat) (x4 : Int) (hh : gi_H), kc + k * 2 ≤ (gx_rm (mL_law L xs)).cells → ks + k * 12 ≤ (gx_rm (mL_law L xs)).slots → r23 x1 x2 x3 x4 hh = some (res, h1) → gx_Z (mL_law L xs) false false kc ks 23 [(0, .ref 100000), (1, .ref x1), (2, .ref x2), (3, .ref x3), (4, .int (gI x4))] [] (gi_cv hh) (.inl (some (.int (gI res)))) (gi_cv h1)) {v1 : Nat} {v2 : Nat} {v3 : Nat} {v4 : Int}  {h : gi_H} (e : b_L_law_722 n L xs r23 v1 v2 v3 v4 h = some (res, h1)) : gx_Z (mL_law L xs) false false kc ks 722 [(0, .ref 100000), (1, .ref v1), (2, .ref v2), (3, .ref v3), (4, .int (gI v4))] [] (gi_cv h) (.inl (some (.int (gI res)))) (gi_cv h1) := by
  refine gx_goto (tgt := 1586) dL_law_722 (by decide) ?_
  exact zb_L_law_1586 (by show kc + _ ≤ _; omega) (by show ks + _ ≤ _; omega) hr23 e
set_option maxRecDepth 100000 in
def b_L_law_785 (n : Nat) (L : Nat) (xs : Nat → Int) (r23 : Nat → Nat → Nat → Int → gi_H → Option (Int × gi_H)) (v1 : Nat) (v2 : Nat) (v3 : Nat) (v4 : Int)  (h : gi_H) : Option (Int × gi_H) :=
  b_L_law_1586 n L xs r23 v1 v2 v3 v4 h
set_option maxRecDepth 100000 in
theorem zb_L_law_785 {n : Nat} {L : Nat} {xs : Nat → Int} {r23 : Nat → Nat → Nat → Int → gi_H → Option (Int × gi_H)} {res : Int} {h1 : gi_H} {kc ks k : Nat} (hkc : kc + k * 2 ≤ (gx_rm (mL_law L xs)).cells) (hks : ks + k * 12 ≤ (gx_rm (mL_law L xs)).slots) (hr23 : ∀ (kc ks : Nat) (x1 : Nat) (x2 : Nat) (x3 : Nat) (x4 : Int) (hh : gi_H), kc + k * 2 ≤ (gx_rm (mL_law L xs)).cells → ks + k * 12 ≤ (gx_rm (mL_law L xs)).slots → r23 x1 x2 x3 x4 hh = some (res, h1) → gx_Z (mL_law L xs) false false kc ks 23 [(0, .ref 100000), (1, .ref x1), (2, .ref x2), (3, .ref x3), (4, .int (gI x4))] [] (gi_cv hh) (.inl (some (.int (gI res)))) (gi_cv h1)) {v1 : Nat} {v2 : Nat} {v3 : Nat} {v4 : Int}  {h : gi_H} (e : b_L_law_785 n L xs r23 v1 v2 v3 v4 h = some (res, h1)) : gx_Z (mL_law L xs) false false kc ks 785 [(0, .ref 100000), (1, .ref v1), (2, .ref v2), (3, .ref v3), (4, .int (gI v4))] [] (gi_cv h) (.inl (some (.int (gI res)))) (gi_cv h1) := by
  refine gx_goto (tgt := 1586) dL_law_785 (by decide) ?_
  exact zb_L_law_1586 (by show kc + _ ≤ _; omega) (by show ks + _ ≤ _; omega) hr23 e
set_option maxRecDepth 100000 in
def b_L_law_779 (n : Nat) (L : Nat) (xs : Nat → Int) (r23 : Nat → Nat → Nat → Int → gi_H → Option (Int × gi_H)) (v1 : Nat) (v2 : Nat) (v3 : Nat) (v4 : Int) (s0 : Int) (s1 : Int) (h : gi_H) : Option (Int × gi_H) :=
  Option.bind (gi_rgL s0) fun _ => Option.bind (gi_rgL s1) fun _ => Option.bind (gi_rg (gi_cmp s0 s1)) fun _ => if (gi_cmp s0 s1) = 0 then (b_L_law_785 n L xs r23 v1 v2 v3 v4 h) else (some ((0 : Int), h))
set_option maxRecDepth 100000 in
theorem zb_L_law_779 {n : Nat} {L : Nat} {xs : Nat → Int} {r23 : Nat → Nat → Nat → Int → gi_H → Option (Int × gi_H)} {res : Int} {h1 : gi_H} {kc ks k : Nat} (hkc : kc + k * 2 ≤ (gx_rm (mL_law L xs)).cells) (hks : ks + k * 12 ≤ (gx_rm (mL_law L xs)).slots) (hr23 : ∀ (kc ks : Nat) (x1 : Nat) (x2 : Nat) (x3 : Nat) (x4 : Int) (hh : gi_H), kc + k * 2 ≤ (gx_rm (mL_law L xs)).cells → ks + k * 12 ≤ (gx_rm (mL_law L xs)).slots → r23 x1 x2 x3 x4 hh = some (res, h1) → gx_Z (mL_law L xs) false false kc ks 23 [(0, .ref 100000), (1, .ref x1), (2, .ref x2), (3, .ref x3), (4, .int (gI x4))] [] (gi_cv hh) (.inl (some (.int (gI res)))) (gi_cv h1)) {v1 : Nat} {v2 : Nat} {v3 : Nat} {v4 : Int} {s0 : Int} {s1 : Int} {h : gi_H} (e : b_L_law_779 n L xs r23 v1 v2 v3 v4 s0 s1 h = some (res, h1)) : gx_Z (mL_law L xs) false false kc ks 779 [(0, .ref 100000), (1, .ref v1), (2, .ref v2), (3, .ref v3), (4, .int (gI v4))] [.long (gL s1), .long (gL s0)] (gi_cv h) (.inl (some (.int (gI res)))) (gi_cv h1) := by
  refine gx_bE e (fun _ g219 e => ?_)
  refine gx_bE e (fun _ g220 e => ?_)
  refine gy_lcmp (gi_rgLS g219) (gi_rgLS g220) dL_law_779 ?_
  refine gx_bE e (fun _ g221 e => ?_)
  refine gx_iE e (fun c222 e => ?_) (fun c222 e => ?_)
  · refine gy_if_eq (tgt := 785) (gi_rgS g221) dL_law_780 (by decide) (fun _ => ?_) (fun z => absurd c222 z)
    exact zb_L_law_785 (by show kc + _ ≤ _; omega) (by show ks + _ ≤ _; omega) hr23 e
  · refine gy_if_eq (tgt := 785) (gi_rgS g221) dL_law_780 (by decide) (fun z => absurd z c222) (fun _ => ?_)
    refine gy_iconst dL_law_783 ?_
    cases e
    exact gx_zret (by decide +kernel) dL_law_784 rfl ⟨by show kc ≤ _; omega, by show ks ≤ _; omega⟩ (fun z => by cases z)
set_option maxRecDepth 100000 in
def b_L_law_841 (n : Nat) (L : Nat) (xs : Nat → Int) (r23 : Nat → Nat → Nat → Int → gi_H → Option (Int × gi_H)) (v1 : Nat) (v2 : Nat) (v3 : Nat) (v4 : Int)  (h : gi_H) : Option (Int × gi_H) :=
  b_L_law_1586 n L xs r23 v1 v2 v3 v4 h
set_option maxRecDepth 100000 in
theorem zb_L_law_841 {n : Nat} {L : Nat} {xs : Nat → Int} {r23 : Nat → Nat → Nat → Int → gi_H → Option (Int × gi_H)} {res : Int} {h1 : gi_H} {kc ks k : Nat} (hkc : kc + k * 2 ≤ (gx_rm (mL_law L xs)).cells) (hks : ks + k * 12 ≤ (gx_rm (mL_law L xs)).slots) (hr23 : ∀ (kc ks : Nat) (x1 : Nat) (x2 : Nat) (x3 : Nat) (x4 : Int) (hh : gi_H), kc + k * 2 ≤ (gx_rm (mL_law L xs)).cells → ks + k * 12 ≤ (gx_rm (mL_law L xs)).slots → r23 x1 x2 x3 x4 hh = some (res, h1) → gx_Z (mL_law L xs) false false kc ks 23 [(0, .ref 100000), (1, .ref x1), (2, .ref x2), (3, .ref x3), (4, .int (gI x4))] [] (gi_cv hh) (.inl (some (.int (gI res)))) (gi_cv h1)) {v1 : Nat} {v2 : Nat} {v3 : Nat} {v4 : Int}  {h : gi_H} (e : b_L_law_841 n L xs r23 v1 v2 v3 v4 h = some (res, h1)) : gx_Z (mL_law L xs) false false kc ks 841 [(0, .ref 100000), (1, .ref v1), (2, .ref v2), (3, .ref v3), (4, .int (gI v4))] [] (gi_cv h) (.inl (some (.int (gI res)))) (gi_cv h1) := by
  refine gx_goto (tgt := 1586) dL_law_841 (by decide) ?_
  exact zb_L_law_1586 (by show kc + _ ≤ _; omega) (by show ks + _ ≤ _; omega) hr23 e
set_option maxRecDepth 100000 in
def b_L_law_897 (n : Nat) (L : Nat) (xs : Nat → Int) (r23 : Nat → Nat → Nat → Int → gi_H → Option (Int × gi_H)) (v1 : Nat) (v2 : Nat) (v3 : Nat) (v4 : Int)  (h : gi_H) : Option (Int × gi_H) :=
  b_L_law_1586 n L xs r23 v1 v2 v3 v4 h
set_option maxRecDepth 100000 in
theorem zb_L_law_897 {n : Nat} {L : Nat} {xs : Nat → Int} {r23 : Nat → Nat → Nat → Int → gi_H → Option (Int × gi_H)} {res : Int} {h1 : gi_H} {kc ks k : Nat} (hkc : kc + k * 2 ≤ (gx_rm (mL_law L xs)).cells) (hks : ks + k * 12 ≤ (gx_rm (mL_law L xs)).slots) (hr23 : ∀ (kc ks : Nat) (x1 : Nat) (x2 : Nat) (x3 : Nat) (x4 : Int) (hh : gi_H), kc + k * 2 ≤ (gx_rm (mL_law L xs)).cells → ks + k * 12 ≤ (gx_rm (mL_law L xs)).slots → r23 x1 x2 x3 x4 hh = some (res, h1) → gx_Z (mL_law L xs) false false kc ks 23 [(0, .ref 100000), (1, .ref x1), (2, .ref x2), (3, .ref x3), (4, .int (gI x4))] [] (gi_cv hh) (.inl (some (.int (gI res)))) (gi_cv h1)) {v1 : Nat} {v2 : Nat} {v3 : Nat} {v4 : Int}  {h : gi_H} (e : b_L_law_897 n L xs r23 v1 v2 v3 v4 h = some (res, h1)) : gx_Z (mL_law L xs) false false kc ks 897 [(0, .ref 100000), (1, .ref v1), (2, .ref v2), (3, .ref v3), (4, .int (gI v4))] [] (gi_cv h) (.inl (some (.int (gI res)))) (gi_cv h1) := by
  refine gx_goto (tgt := 1586) dL_law_897 (by decide) ?_
  exact zb_L_law_1586 (by show kc + _ ≤ _; omega) (by show ks + _ ≤ _; omega) hr23 e
set_option maxRecDepth 100000 in
def b_L_law_953 (n : Nat) (L : Nat) (xs : Nat → Int) (r23 : Nat → Nat → Nat → Int → gi_H → Option (Int × gi_H)) (v1 : Nat) (v2 : Nat) (v3 : Nat) (v4 : Int)  (h : gi_H) : Option (Int × gi_H) :=
  b_L_law_1586 n L xs r23 v1 v2 v3 v4 h
set_option maxRecDepth 100000 in
theorem zb_L_law_953 {n : Nat} {L : Nat} {xs : Nat → Int} {r23 : Nat → Nat → Nat → Int → gi_H → Option (Int × gi_H)} {res : Int} {h1 : gi_H} {kc ks k : Nat} (hkc : kc + k * 2 ≤ (gx_rm (mL_law L xs)).cells) (hks : ks + k * 12 ≤ (gx_rm (mL_law L xs)).slots) (hr23 : ∀ (kc ks : Nat) (x1 : Nat) (x2 : Nat) (x3 : Nat) (x4 : Int) (hh : gi_H), kc + k * 2 ≤ (gx_rm (mL_law L xs)).cells → ks + k * 12 ≤ (gx_rm (mL_law L xs)).slots → r23 x1 x2 x3 x4 hh = some (res, h1) → gx_Z (mL_law L xs) false false kc ks 23 [(0, .ref 100000), (1, .ref x1), (2, .ref x2), (3, .ref x3), (4, .int (gI x4))] [] (gi_cv hh) (.inl (some (.int (gI res)))) (gi_cv h1)) {v1 : Nat} {v2 : Nat} {v3 : Nat} {v4 : Int}  {h : gi_H} (e : b_L_law_953 n L xs r23 v1 v2 v3 v4 h = some (res, h1)) : gx_Z (mL_law L xs) false false kc ks 953 [(0, .ref 100000), (1, .ref v1), (2, .ref v2), (3, .ref v3), (4, .int (gI v4))] [] (gi_cv h) (.inl (some (.int (gI res)))) (gi_cv h1) := by
  refine gx_goto (tgt := 1586) dL_law_953 (by decide) ?_
  exact zb_L_law_1586 (by show kc + _ ≤ _; omega) (by show ks + _ ≤ _; omega) hr23 e
set_option maxRecDepth 100000 in
def b_L_law_1016 (n : Nat) (L : Nat) (xs : Nat → Int) (r23 : Nat → Nat → Nat → Int → gi_H → Option (Int × gi_H)) (v1 : Nat) (v2 : Nat) (v3 : Nat) (v4 : Int)  (h : gi_H) : Option (Int × gi_H) :=
  b_L_law_1586 n L xs r23 v1 v2 v3 v4 h
set_option maxRecDepth 100000 in
theorem zb_L_law_1016 {n : Nat} {L : Nat} {xs : Nat → Int} {r23 : Nat → Nat → Nat → Int → gi_H → Option (Int × gi_H)} {res : Int} {h1 : gi_H} {kc ks k : Nat} (hkc : kc + k * 2 ≤ (gx_rm (mL_law L xs)).cells) (hks : ks + k * 12 ≤ (gx_rm (mL_law L xs)).slots) (hr23 : ∀ (kc ks : Nat) (x1 : Nat) (x2 : Nat) (x3 : Nat) (x4 : Int) (hh : gi_H), kc + k * 2 ≤ (gx_rm (mL_law L xs)).cells → ks + k * 12 ≤ (gx_rm (mL_law L xs)).slots → r23 x1 x2 x3 x4 hh = some (res, h1) → gx_Z (mL_law L xs) false false kc ks 23 [(0, .ref 100000), (1, .ref x1), (2, .ref x2), (3, .ref x3), (4, .int (gI x4))] [] (gi_cv hh) (.inl (some (.int (gI res)))) (gi_cv h1)) {v1 : Nat} {v2 : Nat} {v3 : Nat} {v4 : Int}  {h : gi_H} (e : b_L_law_1016 n L xs r23 v1 v2 v3 v4 h = some (res, h1)) : gx_Z (mL_law L xs) false false kc ks 1016 [(0, .ref 100000), (1, .ref v1), (2, .ref v2), (3, .ref v3), (4, .int (gI v4))] [] (gi_cv h) (.inl (some (.int (gI res)))) (gi_cv h1) := by
  refine gx_goto (tgt := 1586) dL_law_1016 (by decide) ?_
  exact zb_L_law_1586 (by show kc + _ ≤ _; omega) (by show ks + _ ≤ _; omega) hr23 e
set_option maxRecDepth 100000 in
def b_L_law_1010 (n : Nat) (L : Nat) (xs : Nat → Int) (r23 : Nat → Nat → Nat → Int → gi_H → Option (Int × gi_H)) (v1 : Nat) (v2 : Nat) (v3 : Nat) (v4 : Int) (s0 : Int) (s1 : Int) (h : gi_H) : Option (Int × gi_H) :=
  Option.bind (gi_rgL s0) fun _ => Option.bind (gi_rgL s1) fun _ => Option.bind (gi_rg (gi_cmp s0 s1)) fun _ => if (gi_cmp s0 s1) = 0 then (b_L_law_1016 n L xs r23 v1 v2 v3 v4 h) else (some ((0 : Int), h))
set_option maxRecDepth 100000 in
theorem zb_L_law_1010 {n : Nat} {L : Nat} {xs : Nat → Int} {r23 : Nat → Nat → Nat → Int → gi_H → Option (Int × gi_H)} {res : Int} {h1 : gi_H} {kc ks k : Nat} (hkc : kc + k * 2 ≤ (gx_rm (mL_law L xs)).cells) (hks : ks + k * 12 ≤ (gx_rm (mL_law L xs)).slots) (hr23 : ∀ (kc ks : Nat) (x1 : Nat) (x2 : Nat) (x3 : Nat) (x4 : Int) (hh : gi_H), kc + k * 2 ≤ (gx_rm (mL_law L xs)).cells → ks + k * 12 ≤ (gx_rm (mL_law L xs)).slots → r23 x1 x2 x3 x4 hh = some (res, h1) → gx_Z (mL_law L xs) false false kc ks 23 [(0, .ref 100000), (1, .ref x1), (2, .ref x2), (3, .ref x3), (4, .int (gI x4))] [] (gi_cv hh) (.inl (some (.int (gI res)))) (gi_cv h1)) {v1 : Nat} {v2 : Nat} {v3 : Nat} {v4 : Int} {s0 : Int} {s1 : Int} {h : gi_H} (e : b_L_law_1010 n L xs r23 v1 v2 v3 v4 s0 s1 h = some (res, h1)) : gx_Z (mL_law L xs) false false kc ks 1010 [(0, .ref 100000), (1, .ref v1), (2, .ref v2), (3, .ref v3), (4, .int (gI v4))] [.long (gL s1), .long (gL s0)] (gi_cv h) (.inl (some (.int (gI res)))) (gi_cv h1) := by
  refine gx_bE e (fun _ g292 e => ?_)
  refine gx_bE e (fun _ g293 e => ?_)
  refine gy_lcmp (gi_rgLS g292) (gi_rgLS g293) dL_law_1010 ?_
  refine gx_bE e (fun _ g294 e => ?_)
  refine gx_iE e (fun c295 e => ?_) (fun c295 e => ?_)
  · refine gy_if_eq (tgt := 1016) (gi_rgS g294) dL_law_1011 (by decide) (fun _ => ?_) (fun z => absurd c295 z)
    exact zb_L_law_1016 (by show kc + _ ≤ _; omega) (by show ks + _ ≤ _; omega) hr23 e
  · refine gy_if_eq (tgt := 1016) (gi_rgS g294) dL_law_1011 (by decide) (fun z => absurd z c295) (fun _ => ?_)
    refine gy_iconst dL_law_1014 ?_
    cases e
    exact gx_zret (by decide +kernel) dL_law_1015 rfl ⟨by show kc ≤ _; omega, by show ks ≤ _; omega⟩ (fun z => by cases z)
set_option maxRecDepth 100000 in
def b_L_law_1072 (n : Nat) (L : Nat) (xs : Nat → Int) (r23 : Nat → Nat → Nat → Int → gi_H → Option (Int × gi_H)) (v1 : Nat) (v2 : Nat) (v3 : Nat) (v4 : Int)  (h : gi_H) : Option (Int × gi_H) :=
  b_L_law_1586 n L xs r23 v1 v2 v3 v4 h
set_option maxRecDepth 100000 in
theorem zb_L_law_1072 {n : Nat} {L : Nat} {xs : Nat → Int} {r23 : Nat → Nat → Nat → Int → gi_H → Option (Int × gi_H)} {res : Int} {h1 : gi_H} {kc ks k : Nat} (hkc : kc + k * 2 ≤ (gx_rm (mL_law L xs)).cells) (hks : ks + k * 12 ≤ (gx_rm (mL_law L xs)).slots) (hr23 : ∀ (kc ks : Nat) (x1 : Nat) (x2 : Nat) (x3 : Nat) (x4 : Int) (hh : gi_H), kc + k * 2 ≤ (gx_rm (mL_law L xs)).cells → ks + k * 12 ≤ (gx_rm (mL_law L xs)).slots → r23 x1 x2 x3 x4 hh = some (res, h1) → gx_Z (mL_law L xs) false false kc ks 23 [(0, .ref 100000), (1, .ref x1), (2, .ref x2), (3, .ref x3), (4, .int (gI x4))] [] (gi_cv hh) (.inl (some (.int (gI res)))) (gi_cv h1)) {v1 : Nat} {v2 : Nat} {v3 : Nat} {v4 : Int}  {h : gi_H} (e : b_L_law_1072 n L xs r23 v1 v2 v3 v4 h = some (res, h1)) : gx_Z (mL_law L xs) false false kc ks 1072 [(0, .ref 100000), (1, .ref v1), (2, .ref v2), (3, .ref v3), (4, .int (gI v4))] [] (gi_cv h) (.inl (some (.int (gI res)))) (gi_cv h1) := by
  refine gx_goto (tgt := 1586) dL_law_1072 (by decide) ?_
  exact zb_L_law_1586 (by show kc + _ ≤ _; omega) (by show ks + _ ≤ _; omega) hr23 e
set_option maxRecDepth 100000 in
def b_L_law_1140 (n : Nat) (L : Nat) (xs : Nat → Int) (r23 : Nat → Nat → Nat → Int → gi_H → Option (Int × gi_H)) (v1 : Nat) (v2 : Nat) (v3 : Nat) (v4 : Int)  (h : gi_H) : Option (Int × gi_H) :=
  b_L_law_1586 n L xs r23 v1 v2 v3 v4 h
set_option maxRecDepth 100000 in
theorem zb_L_law_1140 {n : Nat} {L : Nat} {xs : Nat → Int} {r23 : Nat → Nat → Nat → Int → gi_H → Option (Int × gi_H)} {res : Int} {h1 : gi_H} {kc ks k : Nat} (hkc : kc + k * 2 ≤ (gx_rm (mL_law L xs)).cells) (hks : ks + k * 12 ≤ (gx_rm (mL_law L xs)).slots) (hr23 : ∀ (kc ks : Nat) (x1 : Nat) (x2 : Nat) (x3 : Nat) (x4 : Int) (hh : gi_H), kc + k * 2 ≤ (gx_rm (mL_law L xs)).cells → ks + k * 12 ≤ (gx_rm (mL_law L xs)).slots → r23 x1 x2 x3 x4 hh = some (res, h1) → gx_Z (mL_law L xs) false false kc ks 23 [(0, .ref 100000), (1, .ref x1), (2, .ref x2), (3, .ref x3), (4, .int (gI x4))] [] (gi_cv hh) (.inl (some (.int (gI res)))) (gi_cv h1)) {v1 : Nat} {v2 : Nat} {v3 : Nat} {v4 : Int}  {h : gi_H} (e : b_L_law_1140 n L xs r23 v1 v2 v3 v4 h = some (res, h1)) : gx_Z (mL_law L xs) false false kc ks 1140 [(0, .ref 100000), (1, .ref v1), (2, .ref v2), (3, .ref v3), (4, .int (gI v4))] [] (gi_cv h) (.inl (some (.int (gI res)))) (gi_cv h1) := by
  refine gx_goto (tgt := 1586) dL_law_1140 (by decide) ?_
  exact zb_L_law_1586 (by show kc + _ ≤ _; omega) (by show ks + _ ≤ _; omega) hr23 e
set_option maxRecDepth 100000 in
def b_L_law_1196 (n : Nat) (L : Nat) (xs : Nat → Int) (r23 : Nat → Nat → Nat → Int → gi_H → Option (Int × gi_H)) (v1 : Nat) (v2 : Nat) (v3 : Nat) (v4 : Int)  (h : gi_H) : Option (Int × gi_H) :=
  b_L_law_1586 n L xs r23 v1 v2 v3 v4 h
set_option maxRecDepth 100000 in
theorem zb_L_law_1196 {n : Nat} {L : Nat} {xs : Nat → Int} {r23 : Nat → Nat → Nat → Int → gi_H → Option (Int × gi_H)} {res : Int} {h1 : gi_H} {kc ks k : Nat} (hkc : kc + k * 2 ≤ (gx_rm (mL_law L xs)).cells) (hks : ks + k * 12 ≤ (gx_rm (mL_law L xs)).slots) (hr23 : ∀ (kc ks : Nat) (x1 : Nat) (x2 : Nat) (x3 : Nat) (x4 : Int) (hh : gi_H), kc + k * 2 ≤ (gx_rm (mL_law L xs)).cells → ks + k * 12 ≤ (gx_rm (mL_law L xs)).slots → r23 x1 x2 x3 x4 hh = some (res, h1) → gx_Z (mL_law L xs) false false kc ks 23 [(0, .ref 100000), (1, .ref x1), (2, .ref x2), (3, .ref x3), (4, .int (gI x4))] [] (gi_cv hh) (.inl (some (.int (gI res)))) (gi_cv h1)) {v1 : Nat} {v2 : Nat} {v3 : Nat} {v4 : Int}  {h : gi_H} (e : b_L_law_1196 n L xs r23 v1 v2 v3 v4 h = some (res, h1)) : gx_Z (mL_law L xs) false false kc ks 1196 [(0, .ref 100000), (1, .ref v1), (2, .ref v2), (3, .ref v3), (4, .int (gI v4))] [] (gi_cv h) (.inl (some (.int (gI res)))) (gi_cv h1) := by
  refine gx_goto (tgt := 1586) dL_law_1196 (by decide) ?_
  exact zb_L_law_1586 (by show kc + _ ≤ _; omega) (by show ks + _ ≤ _; omega) hr23 e
set_option maxRecDepth 100000 in
def b_L_law_1252 (n : Nat) (L : Nat) (xs : Nat → Int) (r23 : Nat → Nat → Nat → Int → gi_H → Option (Int × gi_H)) (v1 : Nat) (v2 : Nat) (v3 : Nat) (v4 : Int)  (h : gi_H) : Option (Int × gi_H) :=
  b_L_law_1586 n L xs r23 v1 v2 v3 v4 h
set_option maxRecDepth 100000 in
theorem zb_L_law_1252 {n : Nat} {L : Nat} {xs : Nat → Int} {r23 : Nat → Nat → Nat → Int → gi_H → Option (Int × gi_H)} {res : Int} {h1 : gi_H} {kc ks k : Nat} (hkc : kc + k * 2 ≤ (gx_rm (mL_law L xs)).cells) (hks : ks + k * 12 ≤ (gx_rm (mL_law L xs)).slots) (hr23 : ∀ (kc ks : Nat) (x1 : Nat) (x2 : Nat) (x3 : Nat) (x4 : Int) (hh : gi_H), kc + k * 2 ≤ (gx_rm (mL_law L xs)).cells → ks + k * 12 ≤ (gx_rm (mL_law L xs)).slots → r23 x1 x2 x3 x4 hh = some (res, h1) → gx_Z (mL_law L xs) false false kc ks 23 [(0, .ref 100000), (1, .ref x1), (2, .ref x2), (3, .ref x3), (4, .int (gI x4))] [] (gi_cv hh) (.inl (some (.int (gI res)))) (gi_cv h1)) {v1 : Nat} {v2 : Nat} {v3 : Nat} {v4 : Int}  {h : gi_H} (e : b_L_law_1252 n L xs r23 v1 v2 v3 v4 h = some (res, h1)) : gx_Z (mL_law L xs) false false kc ks 1252 [(0, .ref 100000), (1, .ref v1), (2, .ref v2), (3, .ref v3), (4, .int (gI v4))] [] (gi_cv h) (.inl (some (.int (gI res)))) (gi_cv h1) := by
  refine gx_goto (tgt := 1586) dL_law_1252 (by decide) ?_
  exact zb_L_law_1586 (by show kc + _ ≤ _; omega) (by show ks + _ ≤ _; omega) hr23 e
set_option maxRecDepth 100000 in
def b_L_law_1308 (n : Nat) (L : Nat) (xs : Nat → Int) (r23 : Nat → Nat → Nat → Int → gi_H → Option (Int × gi_H)) (v1 : Nat) (v2 : Nat) (v3 : Nat) (v4 : Int)  (h : gi_H) : Option (Int × gi_H) :=
  b_L_law_1586 n L xs r23 v1 v2 v3 v4 h
set_option maxRecDepth 100000 in
theorem zb_L_law_1308 {n : Nat} {L : Nat} {xs : Nat → Int} {r23 : Nat → Nat → Nat → Int → gi_H → Option (Int × gi_H)} {res : Int} {h1 : gi_H} {kc ks k : Nat} (hkc : kc + k * 2 ≤ (gx_rm (mL_law L xs)).cells) (hks : ks + k * 12 ≤ (gx_rm (mL_law L xs)).slots) (hr23 : ∀ (kc ks : Nat) (x1 : Nat) (x2 : Nat) (x3 : Nat) (x4 : Int) (hh : gi_H), kc + k * 2 ≤ (gx_rm (mL_law L xs)).cells → ks + k * 12 ≤ (gx_rm (mL_law L xs)).slots → r23 x1 x2 x3 x4 hh = some (res, h1) → gx_Z (mL_law L xs) false false kc ks 23 [(0, .ref 100000), (1, .ref x1), (2, .ref x2), (3, .ref x3), (4, .int (gI x4))] [] (gi_cv hh) (.inl (some (.int (gI res)))) (gi_cv h1)) {v1 : Nat} {v2 : Nat} {v3 : Nat} {v4 : Int}  {h : gi_H} (e : b_L_law_1308 n L xs r23 v1 v2 v3 v4 h = some (res, h1)) : gx_Z (mL_law L xs) false false kc ks 1308 [(0, .ref 100000), (1, .ref v1), (2, .ref v2), (3, .ref v3), (4, .int (gI v4))] [] (gi_cv h) (.inl (some (.int (gI res)))) (gi_cv h1) := by
  refine gx_goto (tgt := 1586) dL_law_1308 (by decide) ?_
  exact zb_L_law_1586 (by show kc + _ ≤ _; omega) (by show ks + _ ≤ _; omega) hr23 e
set_option maxRecDepth 100000 in
def b_L_law_1389 (n : Nat) (L : Nat) (xs : Nat → Int) (r23 : Nat → Nat → Nat → Int → gi_H → Option (Int × gi_H)) (v1 : Nat) (v2 : Nat) (v3 : Nat) (v4 : Int)  (h : gi_H) : Option (Int × gi_H) :=
  b_L_law_1586 n L xs r23 v1 v2 v3 v4 h
set_option maxRecDepth 100000 in
theorem zb_L_law_1389 {n : Nat} {L : Nat} {xs : Nat → Int} {r23 : Nat → Nat → Nat → Int → gi_H → Option (Int × gi_H)} {res : Int} {h1 : gi_H} {kc ks k : Nat} (hkc : kc + k * 2 ≤ (gx_rm (mL_law L xs)).cells) (hks : ks + k * 12 ≤ (gx_rm (mL_law L xs)).slots) (hr23 : ∀ (kc ks : Nat) (x1 : Nat) (x2 : Nat) (x3 : Nat) (x4 : Int) (hh : gi_H), kc + k * 2 ≤ (gx_rm (mL_law L xs)).cells → ks + k * 12 ≤ (gx_rm (mL_law L xs)).slots → r23 x1 x2 x3 x4 hh = some (res, h1) → gx_Z (mL_law L xs) false false kc ks 23 [(0, .ref 100000), (1, .ref x1), (2, .ref x2), (3, .ref x3), (4, .int (gI x4))] [] (gi_cv hh) (.inl (some (.int (gI res)))) (gi_cv h1)) {v1 : Nat} {v2 : Nat} {v3 : Nat} {v4 : Int}  {h : gi_H} (e : b_L_law_1389 n L xs r23 v1 v2 v3 v4 h = some (res, h1)) : gx_Z (mL_law L xs) false false kc ks 1389 [(0, .ref 100000), (1, .ref v1), (2, .ref v2), (3, .ref v3), (4, .int (gI v4))] [] (gi_cv h) (.inl (some (.int (gI res)))) (gi_cv h1) := by
  refine gx_goto (tgt := 1586) dL_law_1389 (by decide) ?_
  exact zb_L_law_1586 (by show kc + _ ≤ _; omega) (by show ks + _ ≤ _; omega) hr23 e
set_option maxRecDepth 100000 in
def b_L_law_1445 (n : Nat) (L : Nat) (xs : Nat → Int) (r23 : Nat → Nat → Nat → Int → gi_H → Option (Int × gi_H)) (v1 : Nat) (v2 : Nat) (v3 : Nat) (v4 : Int)  (h : gi_H) : Option (Int × gi_H) :=
  b_L_law_1586 n L xs r23 v1 v2 v3 v4 h
set_option maxRecDepth 100000 in
theorem zb_L_law_1445 {n : Nat} {L : Nat} {xs : Nat → Int} {r23 : Nat → Nat → Nat → Int → gi_H → Option (Int × gi_H)} {res : Int} {h1 : gi_H} {kc ks k : Nat} (hkc : kc + k * 2 ≤ (gx_rm (mL_law L xs)).cells) (hks : ks + k * 12 ≤ (gx_rm (mL_law L xs)).slots) (hr23 : ∀ (kc ks : Nat) (x1 : Nat) (x2 : Nat) (x3 : Nat) (x4 : Int) (hh : gi_H), kc + k * 2 ≤ (gx_rm (mL_law L xs)).cells → ks + k * 12 ≤ (gx_rm (mL_law L xs)).slots → r23 x1 x2 x3 x4 hh = some (res, h1) → gx_Z (mL_law L xs) false false kc ks 23 [(0, .ref 100000), (1, .ref x1), (2, .ref x2), (3, .ref x3), (4, .int (gI x4))] [] (gi_cv hh) (.inl (some (.int (gI res)))) (gi_cv h1)) {v1 : Nat} {v2 : Nat} {v3 : Nat} {v4 : Int}  {h : gi_H} (e : b_L_law_1445 n L xs r23 v1 v2 v3 v4 h = some (res, h1)) : gx_Z (mL_law L xs) false false kc ks 1445 [(0, .ref 100000), (1, .ref v1), (2, .ref v2), (3, .ref v3), (4, .int (gI v4))] [] (gi_cv h) (.inl (some (.int (gI res)))) (gi_cv h1) := by
  refine gx_goto (tgt := 1586) dL_law_1445 (by decide) ?_
  exact zb_L_law_1586 (by show kc + _ ≤ _; omega) (by show ks + _ ≤ _; omega) hr23 e
set_option maxRecDepth 100000 in
def b_L_law_1501 (n : Nat) (L : Nat) (xs : Nat → Int) (r23 : Nat → Nat → Nat → Int → gi_H → Option (Int × gi_H)) (v1 : Nat) (v2 : Nat) (v3 : Nat) (v4 : Int)  (h : gi_H) : Option (Int × gi_H) :=
  b_L_law_1586 n L xs r23 v1 v2 v3 v4 h
set_option maxRecDepth 100000 in
theorem zb_L_law_1501 {n : Nat} {L : Nat} {xs : Nat → Int} {r23 : Nat → Nat → Nat → Int → gi_H → Option (Int × gi_H)} {res : Int} {h1 : gi_H} {kc ks k : Nat} (hkc : kc + k * 2 ≤ (gx_rm (mL_law L xs)).cells) (hks : ks + k * 12 ≤ (gx_rm (mL_law L xs)).slots) (hr23 : ∀ (kc ks : Nat) (x1 : Nat) (x2 : Nat) (x3 : Nat) (x4 : Int) (hh : gi_H), kc + k * 2 ≤ (gx_rm (mL_law L xs)).cells → ks + k * 12 ≤ (gx_rm (mL_law L xs)).slots → r23 x1 x2 x3 x4 hh = some (res, h1) → gx_Z (mL_law L xs) false false kc ks 23 [(0, .ref 100000), (1, .ref x1), (2, .ref x2), (3, .ref x3), (4, .int (gI x4))] [] (gi_cv hh) (.inl (some (.int (gI res)))) (gi_cv h1)) {v1 : Nat} {v2 : Nat} {v3 : Nat} {v4 : Int}  {h : gi_H} (e : b_L_law_1501 n L xs r23 v1 v2 v3 v4 h = some (res, h1)) : gx_Z (mL_law L xs) false false kc ks 1501 [(0, .ref 100000), (1, .ref v1), (2, .ref v2), (3, .ref v3), (4, .int (gI v4))] [] (gi_cv h) (.inl (some (.int (gI res)))) (gi_cv h1) := by
  refine gx_goto (tgt := 1586) dL_law_1501 (by decide) ?_
  exact zb_L_law_1586 (by show kc + _ ≤ _; omega) (by show ks + _ ≤ _; omega) hr23 e
set_option maxRecDepth 100000 in
def b_L_law_1557 (n : Nat) (L : Nat) (xs : Nat → Int) (r23 : Nat → Nat → Nat → Int → gi_H → Option (Int × gi_H)) (v1 : Nat) (v2 : Nat) (v3 : Nat) (v4 : Int)  (h : gi_H) : Option (Int × gi_H) :=
  b_L_law_1586 n L xs r23 v1 v2 v3 v4 h
set_option maxRecDepth 100000 in
theorem zb_L_law_1557 {n : Nat} {L : Nat} {xs : Nat → Int} {r23 : Nat → Nat → Nat → Int → gi_H → Option (Int × gi_H)} {res : Int} {h1 : gi_H} {kc ks k : Nat} (hkc : kc + k * 2 ≤ (gx_rm (mL_law L xs)).cells) (hks : ks + k * 12 ≤ (gx_rm (mL_law L xs)).slots) (hr23 : ∀ (kc ks : Nat) (x1 : Nat) (x2 : Nat) (x3 : Nat) (x4 : Int) (hh : gi_H), kc + k * 2 ≤ (gx_rm (mL_law L xs)).cells → ks + k * 12 ≤ (gx_rm (mL_law L xs)).slots → r23 x1 x2 x3 x4 hh = some (res, h1) → gx_Z (mL_law L xs) false false kc ks 23 [(0, .ref 100000), (1, .ref x1), (2, .ref x2), (3, .ref x3), (4, .int (gI x4))] [] (gi_cv hh) (.inl (some (.int (gI res)))) (gi_cv h1)) {v1 : Nat} {v2 : Nat} {v3 : Nat} {v4 : Int}  {h : gi_H} (e : b_L_law_1557 n L xs r23 v1 v2 v3 v4 h = some (res, h1)) : gx_Z (mL_law L xs) false false kc ks 1557 [(0, .ref 100000), (1, .ref v1), (2, .ref v2), (3, .ref v3), (4, .int (gI v4))] [] (gi_cv h) (.inl (some (.int (gI res)))) (gi_cv h1) := by
  refine gx_goto (tgt := 1586) dL_law_1557 (by decide) ?_
  exact zb_L_law_1586 (by show kc + _ ≤ _; omega) (by show ks + _ ≤ _; omega) hr23 e
set_option maxRecDepth 100000 in
def b_L_law_23 (n : Nat) (L : Nat) (xs : Nat → Int) (r23 : Nat → Nat → Nat → Int → gi_H → Option (Int × gi_H)) (v1 : Nat) (v2 : Nat) (v3 : Nat) (v4 : Int)  (h : gi_H) : Option (Int × gi_H) :=
  Option.bind (gi_rg v4) fun _ => Option.bind (gi_rg ((L : Int) - (4 : Int))) fun _ => if ((L : Int) - (4 : Int)) < v4 then (some ((1 : Int), h)) else (Option.bind (gi_sx L xs v4) fun t12 => gx_nm (gi_and t12 (31 : Int)) fun t13 => Option.bind (gi_rg t13) fun _ => if t13 = (0 : Int) then (Option.bind (gi_sx L xs (v4 + (1 : Int))) fun t16 => Option.bind (f_L_type v1 (t16 % 65536) v3 h) fun q17 => Option.bind (gi_sx L xs (v4 + (1 : Int))) fun t18 => Option.bind (gi_is q17.2 v2 10) fun _ => Option.bind (f_X12_type v2 (t18 % 65536) q17.2) fun q20 => Option.bind (gi_is q20.2 v2 10) fun _ => Option.bind (f_X12_thrown v2 q20.2) fun q22 => Option.bind (gi_rg q22) fun _ => Option.bind (gi_rg q17.1) fun _ => if q22 = q17.1 then (if q17.1 = 0 then (Option.bind (gi_aL q20.2 v3 (0 : Int)) fun t27 => Option.bind (gi_rg q20.1) fun _ => Option.bind (gi_rgL t27) fun _ => Option.bind (gi_rgL q20.1) fun _ => Option.bind (gi_rg (gi_cmp t27 q20.1)) fun _ => if (gi_cmp t27 q20.1) = 0 then (b_L_law_223 n L xs r23 v1 v2 v3 v4 q20.2) else (some ((0 : Int), q20.2))) else (b_L_law_223 n L xs r23 v1 v2 v3 v4 q20.2)) else (some ((0 : Int), q20.2))) else (if t13 = (1 : Int) then (Option.bind (gi_is h v1 9) fun _ => Option.bind (f_X11_wipe v1 h) fun q36 => Option.bind (gi_is q36.2 v2 10) fun _ => Option.bind (f_X12_wipe v2 q36.2) fun q38 => Option.bind (gi_rg q36.1) fun _ => Option.bind (gi_rg q38.1) fun _ => if q36.1 = q38.1 then (b_L_law_1586 n L xs r23 v1 v2 v3 v4 q38.2) else (some ((0 : Int), q38.2))) else (if t13 = (2 : Int) then (Option.bind (gi_is h v1 9) fun _ => Option.bind (f_X11_fault n v1 h) fun q44 => Option.bind (gi_is h v2 10) fun _ => Option.bind (f_X12_fault n v2 h) fun q46 => Option.bind (gi_rg q44) fun _ => Option.bind (gi_rg q46.1) fun _ => if q44 = q46.1 then (b_L_law_1586 n L xs r23 v1 v2 v3 v4 q46.2) else (some ((0 : Int), q46.2))) else (if t13 = (3 : Int) then (Option.bind (f_L_enter n v1 v3 h) fun q51 => Option.bind (gi_is q51.2 v2 10) fun _ => Option.bind (f_X12_enter n v2 q51.2) fun q53 => Option.bind (gi_is q53.2 v2 10) fun _ => Option.bind (f_X12_thrown v2 q53.2) fun q55 => Option.bind (gi_rg q55) fun _ => Option.bind (gi_rg q51.1) fun _ => if q55 = q51.1 then (if q51.1 = 0 then (Option.bind (gi_aL q53.2 v3 (0 : Int)) fun t60 => Option.bind (gi_rg q53.1) fun _ => Option.bind (gi_rgL t60) fun _ => Option.bind (gi_rgL q53.1) fun _ => Option.bind (gi_rg (gi_cmp t60 q53.1)) fun _ => if (gi_cmp t60 q53.1) = 0 then (b_L_law_293 n L xs r23 v1 v2 v3 v4 q53.2) else (some ((0 : Int), q53.2))) else (b_L_law_293 n L xs r23 v1 v2 v3 v4 q53.2)) else (some ((0 : Int), q53.2))) else (if t13 = (4 : Int) then (Option.bind (f_L_undo v1 v3 h) fun q67 => Option.bind (gi_is q67.2 v2 10) fun _ => Option.bind (f_X12_undo v2 q67.2) fun q69 => Option.bind (gi_is q69.2 v2 10) fun _ => Option.bind (f_X12_thrown v2 q69.2) fun q71 => Option.bind (gi_rg q71) fun _ => Option.bind (gi_rg q67.1) fun _ => if q71 = q67.1 then (if q67.1 = 0 then (Option.bind (gi_aL q69.2 v3 (0 : Int)) fun t76 => Option.bind (gi_rg q69.1) fun _ => Option.bind (gi_rgL t76) fun _ => Option.bind (gi_rgL q69.1) fun _ => Option.bind (gi_rg (gi_cmp t76 q69.1)) fun _ => if (gi_cmp t76 q69.1) = 0 then (b_L_law_337 n L xs r23 v1 v2 v3 v4 q69.2) else (some ((0 : Int), q69.2))) else (b_L_law_337 n L xs r23 v1 v2 v3 v4 q69.2)) else (some ((0 : Int), q69.2))) else (if t13 = (5 : Int) then (Option.bind (gi_sx L xs (v4 + (1 : Int))) fun t83 => Option.bind (f_L_use v1 t83 v3 h) fun q84 => Option.bind (gi_sx L xs (v4 + (1 : Int))) fun t85 => Option.bind (gi_is q84.2 v2 10) fun _ => Option.bind (f_X12_use v2 t85 q84.2) fun q87 => Option.bind (gi_is q87.2 v2 10) fun _ => Option.bind (f_X12_thrown v2 q87.2) fun q89 => Option.bind (gi_rg q89) fun _ => Option.bind (gi_rg q84.1) fun _ => if q89 = q84.1 then (if q84.1 = 0 then (Option.bind (gi_aL q87.2 v3 (0 : Int)) fun t94 => Option.bind (gi_rg q87.1) fun _ => Option.bind (gi_rgL t94) fun _ => Option.bind (gi_rgL q87.1) fun _ => Option.bind (gi_rg (gi_cmp t94 q87.1)) fun _ => if (gi_cmp t94 q87.1) = 0 then (b_L_law_393 n L xs r23 v1 v2 v3 v4 q87.2) else (some ((0 : Int), q87.2))) else (b_L_law_393 n L xs r23 v1 v2 v3 v4 q87.2)) else (some ((0 : Int), q87.2))) else (if t13 = (6 : Int) then (Option.bind (gi_sx L xs (v4 + (1 : Int))) fun t101 => Option.bind (f_L_bring n v1 t101 v3 h) fun q102 => Option.bind (gi_sx L xs (v4 + (1 : Int))) fun t103 => Option.bind (gi_is q102.2 v2 10) fun _ => Option.bind (f_X12_bring n v2 t103 q102.2) fun q105 => Option.bind (gi_is q105.2 v2 10) fun _ => Option.bind (f_X12_thrown v2 q105.2) fun q107 => Option.bind (gi_rg q107) fun _ => Option.bind (gi_rg q102.1) fun _ => if q107 = q102.1 then (if q102.1 = 0 then (Option.bind (gi_aL q105.2 v3 (0 : Int)) fun t112 => Option.bind (gi_rg q105.1) fun _ => Option.bind (gi_rgL t112) fun _ => Option.bind (gi_rgL q105.1) fun _ => Option.bind (gi_rg (gi_cmp t112 q105.1)) fun _ => if (gi_cmp t112 q105.1) = 0 then (b_L_law_449 n L xs r23 v1 v2 v3 v4 q105.2) else (some ((0 : Int), q105.2))) else (b_L_law_449 n L xs r23 v1 v2 v3 v4 q105.2)) else (some ((0 : Int), q105.2))) else (if t13 = (7 : Int) then (Option.bind (gi_sx L xs (v4 + (1 : Int))) fun t119 => Option.bind (f_L_start v1 t119 v3 h) fun q120 => Option.bind (gi_sx L xs (v4 + (1 : Int))) fun t121 => Option.bind (gi_is q120.2 v2 10) fun _ => Option.bind (f_X12_start v2 t121 q120.2) fun q123 => Option.bind (gi_is q123.2 v2 10) fun _ => Option.bind (f_X12_thrown v2 q123.2) fun q125 => Option.bind (gi_rg q125) fun _ => Option.bind (gi_rg q120.1) fun _ => if q125 = q120.1 then (if q120.1 = 0 then (Option.bind (gi_aL q123.2 v3 (0 : Int)) fun t130 => Option.bind (gi_rg q123.1) fun _ => Option.bind (gi_rgL t130) fun _ => Option.bind (gi_rgL q123.1) fun _ => Option.bind (gi_rg (gi_cmp t130 q123.1)) fun _ => if (gi_cmp t130 q123.1) = 0 then (b_L_law_505 n L xs r23 v1 v2 v3 v4 q123.2) else (some ((0 : Int), q123.2))) else (b_L_law_505 n L xs r23 v1 v2 v3 v4 q123.2)) else (some ((0 : Int), q123.2))) else (if t13 = (8 : Int) then (Option.bind (gi_sx L xs (v4 + (1 : Int))) fun t137 => Option.bind (gi_sx L xs (v4 + (2 : Int))) fun t138 => Option.bind (gi_sx L xs (v4 + (3 : Int))) fun t139 => Option.bind (f_L_level v1 t137 t138 t139 v3 h) fun q140 => Option.bind (gi_sx L xs (v4 + (1 : Int))) fun t141 => Option.bind (gi_sx L xs (v4 + (2 : Int))) fun t142 => Option.bind (gi_sx L xs (v4 + (3 : Int))) fun t143 => Option.bind (gi_is q140.2 v2 10) fun _ => Option.bind (f_X12_level v2 t141 t142 t143 q140.2) fun q145 => Option.bind (gi_is q145.2 v2 10) fun _ => Option.bind (f_X12_thrown v2 q145.2) fun q147 => Option.bind (gi_rg q147) fun _ => Option.bind (gi_rg q140.1) fun _ => if q147 = q140.1 then (if q140.1 = 0 then (Option.bind (gi_aL q145.2 v3 (0 : Int)) fun t152 => Option.bind (gi_rg q145.1) fun _ => Option.bind (gi_rgL t152) fun _ => Option.bind (gi_rgL q145.1) fun _ => Option.bind (gi_rg (gi_cmp t152 q145.1)) fun _ => if (gi_cmp t152 q145.1) = 0 then (b_L_law_585 n L xs r23 v1 v2 v3 v4 q145.2) else (some ((0 : Int), q145.2))) else (b_L_law_585 n L xs r23 v1 v2 v3 v4 q145.2)) else (some ((0 : Int), q145.2))) else (if t13 = (9 : Int) then (Option.bind (gi_is h v1 9) fun _ => Option.bind (f_X11_productions v1 h) fun q160 => Option.bind (gi_is h v2 10) fun _ => Option.bind (f_X12_productions v2 h) fun q162 => Option.bind (gi_rg q160) fun _ => Option.bind (gi_rg q162.1) fun _ => if q160 = q162.1 then (b_L_law_1586 n L xs r23 v1 v2 v3 v4 q162.2) else (some ((0 : Int), q162.2))) else (if t13 = (10 : Int) then (Option.bind (gi_sx L xs (v4 + (1 : Int))) fun t167 => Option.bind (f_L_left v1 t167 v3 h) fun q168 => Option.bind (gi_sx L xs (v4 + (1 : Int))) fun t169 => Option.bind (gi_is q168.2 v2 10) fun _ => Option.bind (f_X12_left v2 t169 q168.2) fun q171 => Option.bind (gi_is q171.2 v2 10) fun _ => Option.bind (f_X12_thrown v2 q171.2) fun q173 => Option.bind (gi_rg q173) fun _ => Option.bind (gi_rg q168.1) fun _ => if q173 = q168.1 then (if q168.1 = 0 then (Option.bind (gi_aL q171.2 v3 (0 : Int)) fun t178 => Option.bind (gi_rg q171.1) fun _ => Option.bind (gi_rgL t178) fun _ => Option.bind (gi_rgL q171.1) fun _ => Option.bind (gi_rg (gi_cmp t178 q171.1)) fun _ => if (gi_cmp t178 q171.1) = 0 then (b_L_law_654 n L xs r23 v1 v2 v3 v4 q171.2) else (some ((0 : Int), q171.2))) else (b_L_law_654 n L xs r23 v1 v2 v3 v4 q171.2)) else (some ((0 : Int), q171.2))) else (if t13 = (11 : Int) then (Option.bind (gi_sx L xs (v4 + (1 : Int))) fun t185 => Option.bind (gi_sx L xs (v4 + (2 : Int))) fun t186 => Option.bind (f_L_right v1 t185 t186 v3 h) fun q187 => Option.bind (gi_sx L xs (v4 + (1 : Int))) fun t188 => Option.bind (gi_sx L xs (v4 + (2 : Int))) fun t189 => Option.bind (gi_is q187.2 v2 10) fun _ => Option.bind (f_X12_right v2 t188 t189 q187.2) fun q191 => Option.bind (gi_is q191.2 v2 10) fun _ => Option.bind (f_X12_thrown v2 q191.2) fun q193 => Option.bind (gi_rg q193) fun _ => Option.bind (gi_rg q187.1) fun _ => if q193 = q187.1 then (if q187.1 = 0 then (Option.bind (gi_aL q191.2 v3 (0 : Int)) fun t198 => Option.bind (gi_rg q191.1) fun _ => Option.bind (gi_rgL t198) fun _ => Option.bind (gi_rgL q191.1) fun _ => Option.bind (gi_rg (gi_cmp t198 q191.1)) fun _ => if (gi_cmp t198 q191.1) = 0 then (b_L_law_722 n L xs r23 v1 v2 v3 v4 q191.2) else (some ((0 : Int), q191.2))) else (b_L_law_722 n L xs r23 v1 v2 v3 v4 q191.2)) else (some ((0 : Int), q191.2))) else (if t13 = (12 : Int) then (Option.bind (gi_sx L xs (v4 + (1 : Int))) fun t205 => Option.bind (f_L_isNullable n v1 t205 v3 h) fun q206 => Option.bind (gi_sx L xs (v4 + (1 : Int))) fun t207 => Option.bind (gi_is q206.2 v2 10) fun _ => Option.bind (f_X12_isNullable n v2 t207 q206.2) fun q209 => Option.bind (gi_is q209.2 v2 10) fun _ => Option.bind (f_X12_thrown v2 q209.2) fun q211 => Option.bind (gi_rg q211) fun _ => Option.bind (gi_rg q206.1) fun _ => if q211 = q206.1 then (if q206.1 = 0 then (Option.bind (gi_aL q209.2 v3 (0 : Int)) fun t216 => Option.bind (gi_rg q209.1) fun _ => if q209.1 = 0 then (b_L_law_779 n L xs r23 v1 v2 v3 v4 t216 (0 : Int) q209.2) else (b_L_law_779 n L xs r23 v1 v2 v3 v4 t216 (1 : Int) q209.2)) else (b_L_law_785 n L xs r23 v1 v2 v3 v4 q209.2)) else (some ((0 : Int), q209.2))) else (if t13 = (13 : Int) then (Option.bind (gi_sx L xs (v4 + (1 : Int))) fun t224 => Option.bind (f_L_first n v1 t224 v3 h) fun q225 => Option.bind (gi_sx L xs (v4 + (1 : Int))) fun t226 => Option.bind (gi_is q225.2 v2 10) fun _ => Option.bind (f_X12_first n v2 t226 q225.2) fun q228 => Option.bind (gi_is q228.2 v2 10) fun _ => Option.bind (f_X12_thrown v2 q228.2) fun q230 => Option.bind (gi_rg q230) fun _ => Option.bind (gi_rg q225.1) fun _ => if q230 = q225.1 then (if q225.1 = 0 then (Option.bind (gi_aL q228.2 v3 (0 : Int)) fun t235 => Option.bind (gi_rg q228.1) fun _ => Option.bind (gi_rgL t235) fun _ => Option.bind (gi_rgL q228.1) fun _ => Option.bind (gi_rg (gi_cmp t235 q228.1)) fun _ => if (gi_cmp t235 q228.1) = 0 then (b_L_law_841 n L xs r23 v1 v2 v3 v4 q228.2) else (some ((0 : Int), q228.2))) else (b_L_law_841 n L xs r23 v1 v2 v3 v4 q228.2)) else (some ((0 : Int), q228.2))) else (if t13 = (14 : Int) then (Option.bind (gi_sx L xs (v4 + (1 : Int))) fun t242 => Option.bind (f_L_follow n v1 t242 v3 h) fun q243 => Option.bind (gi_sx L xs (v4 + (1 : Int))) fun t244 => Option.bind (gi_is q243.2 v2 10) fun _ => Option.bind (f_X12_follow n v2 t244 q243.2) fun q246 => Option.bind (gi_is q246.2 v2 10) fun _ => Option.bind (f_X12_thrown v2 q246.2) fun q248 => Option.bind (gi_rg q248) fun _ => Option.bind (gi_rg q243.1) fun _ => if q248 = q243.1 then (if q243.1 = 0 then (Option.bind (gi_aL q246.2 v3 (0 : Int)) fun t253 => Option.bind (gi_rg q246.1) fun _ => Option.bind (gi_rgL t253) fun _ => Option.bind (gi_rgL q246.1) fun _ => Option.bind (gi_rg (gi_cmp t253 q246.1)) fun _ => if (gi_cmp t253 q246.1) = 0 then (b_L_law_897 n L xs r23 v1 v2 v3 v4 q246.2) else (some ((0 : Int), q246.2))) else (b_L_law_897 n L xs r23 v1 v2 v3 v4 q246.2)) else (some ((0 : Int), q246.2))) else (if t13 = (15 : Int) then (Option.bind (gi_sx L xs (v4 + (1 : Int))) fun t260 => Option.bind (f_L_uses n v1 t260 v3 h) fun q261 => Option.bind (gi_sx L xs (v4 + (1 : Int))) fun t262 => Option.bind (gi_is q261.2 v2 10) fun _ => Option.bind (f_X12_uses n v2 t262 q261.2) fun q264 => Option.bind (gi_is q264.2 v2 10) fun _ => Option.bind (f_X12_thrown v2 q264.2) fun q266 => Option.bind (gi_rg q266) fun _ => Option.bind (gi_rg q261.1) fun _ => if q266 = q261.1 then (if q261.1 = 0 then (Option.bind (gi_aL q264.2 v3 (0 : Int)) fun t271 => Option.bind (gi_rg q264.1) fun _ => Option.bind (gi_rgL t271) fun _ => Option.bind (gi_rgL q264.1) fun _ => Option.bind (gi_rg (gi_cmp t271 q264.1)) fun _ => if (gi_cmp t271 q264.1) = 0 then (b_L_law_953 n L xs r23 v1 v2 v3 v4 q264.2) else (some ((0 : Int), q264.2))) else (b_L_law_953 n L xs r23 v1 v2 v3 v4 q264.2)) else (some ((0 : Int), q264.2))) else (if t13 = (16 : Int) then (Option.bind (gi_sx L xs (v4 + (1 : Int))) fun t278 => Option.bind (f_L_isLeftRecursive n v1 t278 v3 h) fun q279 => Option.bind (gi_sx L xs (v4 + (1 : Int))) fun t280 => Option.bind (gi_is q279.2 v2 10) fun _ => Option.bind (f_X12_isLeftRecursive n v2 t280 q279.2) fun q282 => Option.bind (gi_is q282.2 v2 10) fun _ => Option.bind (f_X12_thrown v2 q282.2) fun q284 => Option.bind (gi_rg q284) fun _ => Option.bind (gi_rg q279.1) fun _ => if q284 = q279.1 then (if q279.1 = 0 then (Option.bind (gi_aL q282.2 v3 (0 : Int)) fun t289 => Option.bind (gi_rg q282.1) fun _ => if q282.1 = 0 then (b_L_law_1010 n L xs r23 v1 v2 v3 v4 t289 (0 : Int) q282.2) else (b_L_law_1010 n L xs r23 v1 v2 v3 v4 t289 (1 : Int) q282.2)) else (b_L_law_1016 n L xs r23 v1 v2 v3 v4 q282.2)) else (some ((0 : Int), q282.2))) else (if t13 = (17 : Int) then (Option.bind (gi_sx L xs (v4 + (1 : Int))) fun t297 => Option.bind (f_L_shortest n v1 t297 v3 h) fun q298 => Option.bind (gi_sx L xs (v4 + (1 : Int))) fun t299 => Option.bind (gi_is q298.2 v2 10) fun _ => Option.bind (f_X12_shortest n v2 t299 q298.2) fun q301 => Option.bind (gi_is q301.2 v2 10) fun _ => Option.bind (f_X12_thrown v2 q301.2) fun q303 => Option.bind (gi_rg q303) fun _ => Option.bind (gi_rg q298.1) fun _ => if q303 = q298.1 then (if q298.1 = 0 then (Option.bind (gi_aL q301.2 v3 (0 : Int)) fun t308 => Option.bind (gi_rg q301.1) fun _ => Option.bind (gi_rgL t308) fun _ => Option.bind (gi_rgL q301.1) fun _ => Option.bind (gi_rg (gi_cmp t308 q301.1)) fun _ => if (gi_cmp t308 q301.1) = 0 then (b_L_law_1072 n L xs r23 v1 v2 v3 v4 q301.2) else (some ((0 : Int), q301.2))) else (b_L_law_1072 n L xs r23 v1 v2 v3 v4 q301.2)) else (some ((0 : Int), q301.2))) else (if t13 = (18 : Int) then (Option.bind (gi_sx L xs (v4 + (1 : Int))) fun t315 => Option.bind (gi_sx L xs (v4 + (2 : Int))) fun t316 => Option.bind (f_L_sentence n v1 t315 t316 v3 h) fun q317 => Option.bind (gi_sx L xs (v4 + (1 : Int))) fun t318 => Option.bind (gi_sx L xs (v4 + (2 : Int))) fun t319 => Option.bind (gi_is q317.2 v2 10) fun _ => Option.bind (f_X12_sentence n v2 t318 t319 q317.2) fun q321 => Option.bind (gi_is q321.2 v2 10) fun _ => Option.bind (f_X12_thrown v2 q321.2) fun q323 => Option.bind (gi_rg q323) fun _ => Option.bind (gi_rg q317.1) fun _ => if q323 = q317.1 then (if q317.1 = 0 then (Option.bind (gi_aL q321.2 v3 (0 : Int)) fun t328 => Option.bind (gi_rg q321.1) fun _ => Option.bind (gi_rgL t328) fun _ => Option.bind (gi_rgL q321.1) fun _ => Option.bind (gi_rg (gi_cmp t328 q321.1)) fun _ => if (gi_cmp t328 q321.1) = 0 then (b_L_law_1140 n L xs r23 v1 v2 v3 v4 q321.2) else (some ((0 : Int), q321.2))) else (b_L_law_1140 n L xs r23 v1 v2 v3 v4 q321.2)) else (some ((0 : Int), q321.2))) else (if t13 = (19 : Int) then (Option.bind (gi_sx L xs (v4 + (1 : Int))) fun t335 => Option.bind (f_L_size n v1 t335 v3 h) fun q336 => Option.bind (gi_sx L xs (v4 + (1 : Int))) fun t337 => Option.bind (gi_is q336.2 v2 10) fun _ => Option.bind (f_X12_size n v2 t337 q336.2) fun q339 => Option.bind (gi_is q339.2 v2 10) fun _ => Option.bind (f_X12_thrown v2 q339.2) fun q341 => Option.bind (gi_rg q341) fun _ => Option.bind (gi_rg q336.1) fun _ => if q341 = q336.1 then (if q336.1 = 0 then (Option.bind (gi_aL q339.2 v3 (0 : Int)) fun t346 => Option.bind (gi_rg q339.1) fun _ => Option.bind (gi_rgL t346) fun _ => Option.bind (gi_rgL q339.1) fun _ => Option.bind (gi_rg (gi_cmp t346 q339.1)) fun _ => if (gi_cmp t346 q339.1) = 0 then (b_L_law_1196 n L xs r23 v1 v2 v3 v4 q339.2) else (some ((0 : Int), q339.2))) else (b_L_law_1196 n L xs r23 v1 v2 v3 v4 q339.2)) else (some ((0 : Int), q339.2))) else (if t13 = (20 : Int) then (Option.bind (gi_sx L xs (v4 + (1 : Int))) fun t353 => Option.bind (f_L_conflicts n v1 t353 v3 h) fun q354 => Option.bind (gi_sx L xs (v4 + (1 : Int))) fun t355 => Option.bind (gi_is q354.2 v2 10) fun _ => Option.bind (f_X12_conflicts n v2 t355 q354.2) fun q357 => Option.bind (gi_is q357.2 v2 10) fun _ => Option.bind (f_X12_thrown v2 q357.2) fun q359 => Option.bind (gi_rg q359) fun _ => Option.bind (gi_rg q354.1) fun _ => if q359 = q354.1 then (if q354.1 = 0 then (Option.bind (gi_aL q357.2 v3 (0 : Int)) fun t364 => Option.bind (gi_rg q357.1) fun _ => Option.bind (gi_rgL t364) fun _ => Option.bind (gi_rgL q357.1) fun _ => Option.bind (gi_rg (gi_cmp t364 q357.1)) fun _ => if (gi_cmp t364 q357.1) = 0 then (b_L_law_1252 n L xs r23 v1 v2 v3 v4 q357.2) else (some ((0 : Int), q357.2))) else (b_L_law_1252 n L xs r23 v1 v2 v3 v4 q357.2)) else (some ((0 : Int), q357.2))) else (if t13 = (21 : Int) then (Option.bind (gi_sx L xs (v4 + (1 : Int))) fun t371 => Option.bind (f_L_settled n v1 t371 v3 h) fun q372 => Option.bind (gi_sx L xs (v4 + (1 : Int))) fun t373 => Option.bind (gi_is q372.2 v2 10) fun _ => Option.bind (f_X12_settled n v2 t373 q372.2) fun q375 => Option.bind (gi_is q375.2 v2 10) fun _ => Option.bind (f_X12_thrown v2 q375.2) fun q377 => Option.bind (gi_rg q377) fun _ => Option.bind (gi_rg q372.1) fun _ => if q377 = q372.1 then (if q372.1 = 0 then (Option.bind (gi_aL q375.2 v3 (0 : Int)) fun t382 => Option.bind (gi_rg q375.1) fun _ => Option.bind (gi_rgL t382) fun _ => Option.bind (gi_rgL q375.1) fun _ => Option.bind (gi_rg (gi_cmp t382 q375.1)) fun _ => if (gi_cmp t382 q375.1) = 0 then (b_L_law_1308 n L xs r23 v1 v2 v3 v4 q375.2) else (some ((0 : Int), q375.2))) else (b_L_law_1308 n L xs r23 v1 v2 v3 v4 q375.2)) else (some ((0 : Int), q375.2))) else (if t13 = (22 : Int) then (Option.bind (gi_is h v1 9) fun _ => Option.bind (f_X11_chosen n v1 h) fun q390 => Option.bind (gi_is q390.2 v2 10) fun _ => Option.bind (f_X12_chosen n v2 q390.2) fun q392 => Option.bind (gi_rg q390.1) fun _ => Option.bind (gi_rg q392.1) fun _ => if q390.1 = q392.1 then (b_L_law_1586 n L xs r23 v1 v2 v3 v4 q392.2) else (some ((0 : Int), q392.2))) else (if t13 = (23 : Int) then (Option.bind (gi_sx L xs (v4 + (1 : Int))) fun t397 => Option.bind (gi_sx L xs (v4 + (2 : Int))) fun t398 => Option.bind (f_L_put n v1 t397 t398 v3 h) fun q399 => Option.bind (gi_sx L xs (v4 + (1 : Int))) fun t400 => Option.bind (gi_sx L xs (v4 + (2 : Int))) fun t401 => Option.bind (gi_is q399.2 v2 10) fun _ => Option.bind (f_X12_put n v2 t400 t401 q399.2) fun q403 => Option.bind (gi_is q403.2 v2 10) fun _ => Option.bind (f_X12_thrown v2 q403.2) fun q405 => Option.bind (gi_rg q405) fun _ => Option.bind (gi_rg q399.1) fun _ => if q405 = q399.1 then (if q399.1 = 0 then (Option.bind (gi_aL q403.2 v3 (0 : Int)) fun t410 => Option.bind (gi_rg q403.1) fun _ => Option.bind (gi_rgL t410) fun _ => Option.bind (gi_rgL q403.1) fun _ => Option.bind (gi_rg (gi_cmp t410 q403.1)) fun _ => if (gi_cmp t410 q403.1) = 0 then (b_L_law_1389 n L xs r23 v1 v2 v3 v4 q403.2) else (some ((0 : Int), q403.2))) else (b_L_law_1389 n L xs r23 v1 v2 v3 v4 q403.2)) else (some ((0 : Int), q403.2))) else (if t13 = (24 : Int) then (Option.bind (gi_sx L xs (v4 + (1 : Int))) fun t417 => Option.bind (f_L_cut n v1 t417 v3 h) fun q418 => Option.bind (gi_sx L xs (v4 + (1 : Int))) fun t419 => Option.bind (gi_is q418.2 v2 10) fun _ => Option.bind (f_X12_cut n v2 t419 q418.2) fun q421 => Option.bind (gi_is q421.2 v2 10) fun _ => Option.bind (f_X12_thrown v2 q421.2) fun q423 => Option.bind (gi_rg q423) fun _ => Option.bind (gi_rg q418.1) fun _ => if q423 = q418.1 then (if q418.1 = 0 then (Option.bind (gi_aL q421.2 v3 (0 : Int)) fun t428 => Option.bind (gi_rg q421.1) fun _ => Option.bind (gi_rgL t428) fun _ => Option.bind (gi_rgL q421.1) fun _ => Option.bind (gi_rg (gi_cmp t428 q421.1)) fun _ => if (gi_cmp t428 q421.1) = 0 then (b_L_law_1445 n L xs r23 v1 v2 v3 v4 q421.2) else (some ((0 : Int), q421.2))) else (b_L_law_1445 n L xs r23 v1 v2 v3 v4 q421.2)) else (some ((0 : Int), q421.2))) else (if t13 = (25 : Int) then (Option.bind (gi_sx L xs (v4 + (1 : Int))) fun t435 => Option.bind (f_L_parse n v1 t435 v3 h) fun q436 => Option.bind (gi_sx L xs (v4 + (1 : Int))) fun t437 => Option.bind (gi_is q436.2 v2 10) fun _ => Option.bind (f_X12_parse n v2 t437 q436.2) fun q439 => Option.bind (gi_is q439.2 v2 10) fun _ => Option.bind (f_X12_thrown v2 q439.2) fun q441 => Option.bind (gi_rg q441) fun _ => Option.bind (gi_rg q436.1) fun _ => if q441 = q436.1 then (if q436.1 = 0 then (Option.bind (gi_aL q439.2 v3 (0 : Int)) fun t446 => Option.bind (gi_rg q439.1) fun _ => Option.bind (gi_rgL t446) fun _ => Option.bind (gi_rgL q439.1) fun _ => Option.bind (gi_rg (gi_cmp t446 q439.1)) fun _ => if (gi_cmp t446 q439.1) = 0 then (b_L_law_1501 n L xs r23 v1 v2 v3 v4 q439.2) else (some ((0 : Int), q439.2))) else (b_L_law_1501 n L xs r23 v1 v2 v3 v4 q439.2)) else (some ((0 : Int), q439.2))) else (if t13 = (26 : Int) then (Option.bind (gi_sx L xs (v4 + (1 : Int))) fun t453 => Option.bind (f_L_value n v1 t453 v3 h) fun q454 => Option.bind (gi_sx L xs (v4 + (1 : Int))) fun t455 => Option.bind (gi_is q454.2 v2 10) fun _ => Option.bind (f_X12_value n v2 t455 q454.2) fun q457 => Option.bind (gi_is q457.2 v2 10) fun _ => Option.bind (f_X12_thrown v2 q457.2) fun q459 => Option.bind (gi_rg q459) fun _ => Option.bind (gi_rg q454.1) fun _ => if q459 = q454.1 then (if q454.1 = 0 then (Option.bind (gi_aL q457.2 v3 (0 : Int)) fun t464 => Option.bind (gi_rg q457.1) fun _ => Option.bind (gi_rgL t464) fun _ => Option.bind (gi_rgL q457.1) fun _ => Option.bind (gi_rg (gi_cmp t464 q457.1)) fun _ => if (gi_cmp t464 q457.1) = 0 then (b_L_law_1557 n L xs r23 v1 v2 v3 v4 q457.2) else (some ((0 : Int), q457.2))) else (b_L_law_1557 n L xs r23 v1 v2 v3 v4 q457.2)) else (some ((0 : Int), q457.2))) else (if t13 = (27 : Int) then (Option.bind (gi_is h v1 9) fun _ => Option.bind (f_X11_readings n v1 h) fun q472 => Option.bind (gi_is q472.2 v2 10) fun _ => Option.bind (f_X12_readings n v2 q472.2) fun q474 => Option.bind (gi_rg q472.1) fun _ => Option.bind (gi_rg q474.1) fun _ => if q472.1 = q474.1 then (b_L_law_1586 n L xs r23 v1 v2 v3 v4 q474.2) else (some ((0 : Int), q474.2))) else (if t13 = (28 : Int) then (Option.bind (gi_is h v1 9) fun _ => Option.bind (f_X11_repair n v1 h) fun q480 => Option.bind (gi_is q480.2 v2 10) fun _ => Option.bind (f_X12_repair n v2 q480.2) fun q482 => Option.bind (gi_rg q480.1) fun _ => Option.bind (gi_rg q482.1) fun _ => if q480.1 = q482.1 then (b_L_law_1586 n L xs r23 v1 v2 v3 v4 q482.2) else (some ((0 : Int), q482.2))) else (b_L_law_1586 n L xs r23 v1 v2 v3 v4 h))))))))))))))))))))))))))))))
set_option maxRecDepth 100000 in
theorem zb_L_law_23 {n : Nat} {L : Nat} {xs : Nat → Int} {r23 : Nat → Nat → Nat → Int → gi_H → Option (Int × gi_H)} {res : Int} {h1 : gi_H} {kc ks k : Nat} (hkc : kc + (k + 1) * 2 ≤ (gx_rm (mL_law L xs)).cells) (hks : ks + (k + 1) * 12 ≤ (gx_rm (mL_law L xs)).slots) (hr23 : ∀ (kc ks : Nat) (x1 : Nat) (x2 : Nat) (x3 : Nat) (x4 : Int) (hh : gi_H), kc + k * 2 ≤ (gx_rm (mL_law L xs)).cells → ks + k * 12 ≤ (gx_rm (mL_law L xs)).slots → r23 x1 x2 x3 x4 hh = some (res, h1) → gx_Z (mL_law L xs) false false kc ks 23 [(0, .ref 100000), (1, .ref x1), (2, .ref x2), (3, .ref x3), (4, .int (gI x4))] [] (gi_cv hh) (.inl (some (.int (gI res)))) (gi_cv h1)) {v1 : Nat} {v2 : Nat} {v3 : Nat} {v4 : Int}  {h : gi_H} (e : b_L_law_23 n L xs r23 v1 v2 v3 v4 h = some (res, h1)) : gx_Z (mL_law L xs) false false kc ks 23 [(0, .ref 100000), (1, .ref v1), (2, .ref v2), (3, .ref v3), (4, .int (gI v4))] [] (gi_cv h) (.inl (some (.int (gI res)))) (gi_cv h1) := by
  refine gx_iload dL_law_23 4 rfl ?_
  refine gx_aload_n dL_law_25 rfl 0 rfl ?_
  refine gy_slen (L := L) (xs := xs) rfl dL_law_26 ?_
  refine gy_iconst dL_law_27 ?_
  refine gy_isub dL_law_28 ?_
  refine gx_bE e (fun _ g9 e => ?_)
  refine gx_bE e (fun _ g10 e => ?_)
  refine gx_iE e (fun c11 e => ?_) (fun c11 e => ?_)
  · refine gy_icmp_gt (tgt := 1592) (gi_rgS g9) (gi_rgS g10) dL_law_29 (by decide) (fun _ => ?_) (fun z => absurd c11 z)
    refine gy_iconst dL_law_1592 ?_
    cases e
    exact gx_zret (by decide +kernel) dL_law_1593 rfl ⟨by show kc ≤ _; omega, by show ks ≤ _; omega⟩ (fun z => by cases z)
  · refine gy_icmp_gt (tgt := 1592) (gi_rgS g9) (gi_rgS g10) dL_law_29 (by decide) (fun z => absurd z c11) (fun _ => ?_)
    refine gx_aload_n dL_law_32 rfl 0 rfl ?_
    refine gx_iload dL_law_33 4 rfl ?_
    refine gx_bE e (fun t12 ht12 e => ?_)
    refine gy_sld (L := L) (xs := xs) rfl ht12 dL_law_35 ?_
    refine gy_bipush dL_law_36 gcb_31 ?_
    refine gy_iand dL_law_38 ?_
    refine gx_nE e (fun t13 ht13 e => ?_)
    rw [ht13]
    refine gx_bE e (fun _ g14 e => ?_)
    refine gx_iE e (fun c15 e => ?_) (fun c15 e => ?_)
    · refine gy_tableIn (tgt := 168) (off := 129) (gi_rgS g14) dL_law_39 (by rw [c15]; decide) (by rw [c15]; decide) (by rw [c15]; rfl) (by decide) ?_
      refine gx_aload_n dL_law_168 rfl 1 rfl ?_
      refine gx_aload_n dL_law_169 rfl 0 rfl ?_
      refine gx_iload dL_law_170 4 rfl ?_
      refine gy_iconst dL_law_172 ?_
      refine gy_iadd dL_law_173 ?_
      refine gx_bE e (fun t16 ht16 e => ?_)
      refine gy_sld (L := L) (xs := xs) rfl ht16 dL_law_174 ?_
      refine gy_i2c dL_law_175 ?_
      refine gx_aload_n dL_law_176 rfl 3 rfl ?_
      refine gx_bE e (fun q17 hq17 e => ?_)
      refine gx_callSW (n := 3) (st := []) (As := [.ref v1, .int (gI (t16 % 65536)), .ref v3]) dL_law_177 (z_L_type hq17) rfl ⟨(by decide +kernel), gw_cw_L_type, gw_0, gp_L_type, ⟨Nat.le_of_ble_eq_true rfl, Nat.le_of_ble_eq_true rfl⟩⟩ gw_833 gw_834 ⟨by show (kc + 1) ≤ _; omega, by show (ks + 6) ≤ _; omega⟩ (Nat.le_of_ble_eq_true rfl) (gy_k1 (x := .int (gI q17.1)) (kc2 := (kc + 1)) (ks2 := (ks + 6)) ⟨rfl, rfl⟩ ?_)
      refine gx_istore (ls2 := [(5, .int (gI q17.1)), (0, .ref 100000), (1, .ref v1), (2, .ref v2), (3, .ref v3), (4, .int (gI v4))]) dL_law_180 (Nat.le_of_ble_eq_true rfl) rfl ?_
      refine gx_aload_n dL_law_182 rfl 3 rfl ?_
      refine gx_aload_n dL_law_183 rfl 1 rfl ?_
      refine gx_iload dL_law_184 5 rfl ?_
      refine gy_iconst dL_law_186 ?_
      refine gy_iadd dL_law_187 ?_
      refine gx_bE e (fun t18 ht18 e => ?_)
      refine gy_sld (L := L) (xs := xs) rfl ht18 dL_law_188 ?_
      refine gy_i2c dL_law_189 ?_
      refine gx_bE e (fun _ hu19 e => ?_)
      refine gx_bE e (fun q20 hq20 e => ?_)
      refine gx_callV (n := 1) (st := []) (As := [.int (gI (t18 % 65536))]) (b := v2) dL_law_190 (z_X12_type hq20) rfl ⟨rfl, gw_cw_X12_type, gw_14, gp_X12_type, ⟨Nat.le_of_ble_eq_true rfl, Nat.le_of_ble_eq_true rfl⟩⟩ (gi_isS hu19) (by decide) gw_1467 gw_1468 gw_1469 rfl ⟨by show (kc + 1) ≤ _; omega, by show (ks + 6) ≤ _; omega⟩ (Nat.le_of_ble_eq_true rfl) (gy_k1 (x := .int (gI q20.1)) (kc2 := (kc + 1)) (ks2 := (ks + 6)) ⟨rfl, rfl⟩ ?_) gy_kn
      refine gx_istore (ls2 := [(6, .int (gI q20.1)), (5, .int (gI q17.1)), (0, .ref 100000), (1, .ref v1), (2, .ref v2), (3, .ref v3), (4, .int (gI v4))]) dL_law_193 (Nat.le_of_ble_eq_true rfl) rfl ?_
      refine gx_aload_n dL_law_195 rfl 4 rfl ?_
      refine gx_bE e (fun _ hu21 e => ?_)
      refine gx_bE e (fun q22 hq22 e => ?_)
      refine gx_callV (n := 0) (st := []) (As := []) (b := v2) dL_law_196 (z_X12_thrown hq22) rfl ⟨rfl, gw_cw_X12_thrown, gw_14, gp_X12_thrown, ⟨Nat.le_of_ble_eq_true rfl, Nat.le_of_ble_eq_true rfl⟩⟩ (gi_isS hu21) (by decide) gw_1463 gw_1464 gw_1465 rfl ⟨by show (kc + 1) ≤ _; omega, by show (ks + 6) ≤ _; omega⟩ (Nat.le_of_ble_eq_true rfl) (gy_k1 (x := .int (gI q22)) (kc2 := (kc + 1)) (ks2 := (ks + 6)) ⟨rfl, rfl⟩ ?_) gy_kn
      refine gx_iload dL_law_199 1 rfl ?_
      refine gx_bE e (fun _ g23 e => ?_)
      refine gx_bE e (fun _ g24 e => ?_)
      refine gx_iE e (fun c25 e => ?_) (fun c25 e => ?_)
      · refine gy_icmp_eq (tgt := 206) (gi_rgS g23) (gi_rgS g24) dL_law_201 (by decide) (fun _ => ?_) (fun z => absurd c25 z)
        refine gx_iload dL_law_206 1 rfl ?_
        refine gx_iE e (fun c26 e => ?_) (fun c26 e => ?_)
        · refine gy_if_ne (tgt := 223) (gi_rgS g24) dL_law_208 (by decide) (fun z => absurd c26 z) (fun _ => ?_)
          refine gx_aload_n dL_law_211 rfl 5 rfl ?_
          refine gy_iconst dL_law_212 ?_
          refine gx_bE e (fun t27 ht27 e => ?_)
          refine gy_l2 ht27 dL_law_213 ?_
          refine gx_iload dL_law_214 0 rfl ?_
          refine gx_bE e (fun _ g28 e => ?_)
          refine gy_i2l (gi_rgS g28) dL_law_216 ?_
          refine gx_bE e (fun _ g29 e => ?_)
          refine gx_bE e (fun _ g30 e => ?_)
          refine gy_lcmp (gi_rgLS g29) (gi_rgLS g30) dL_law_217 ?_
          refine gx_bE e (fun _ g31 e => ?_)
          refine gx_iE e (fun c32 e => ?_) (fun c32 e => ?_)
          · refine gy_if_eq (tgt := 223) (gi_rgS g31) dL_law_218 (by decide) (fun _ => ?_) (fun z => absurd c32 z)
            refine gx_sub (ls2 := [(0, .ref 100000), (1, .ref v1), (2, .ref v2), (3, .ref v3), (4, .int (gI v4))]) [2, 3, 4, 5, 6] rfl ?_
            exact zb_L_law_223 (by show (kc + 1) + _ ≤ _; omega) (by show (ks + 6) + _ ≤ _; omega) hr23 e
          · refine gy_if_eq (tgt := 223) (gi_rgS g31) dL_law_218 (by decide) (fun z => absurd z c32) (fun _ => ?_)
            refine gy_iconst dL_law_221 ?_
            cases e
            exact gx_zret (by decide +kernel) dL_law_222 rfl ⟨by show (kc + 1) ≤ _; omega, by show (ks + 6) ≤ _; omega⟩ (fun z => by cases z)
        · refine gy_if_ne (tgt := 223) (gi_rgS g24) dL_law_208 (by decide) (fun _ => ?_) (fun z => absurd z c26)
          refine gx_sub (ls2 := [(0, .ref 100000), (1, .ref v1), (2, .ref v2), (3, .ref v3), (4, .int (gI v4))]) [2, 3, 4, 5, 6] rfl ?_
          exact zb_L_law_223 (by show (kc + 1) + _ ≤ _; omega) (by show (ks + 6) + _ ≤ _; omega) hr23 e
      · refine gy_icmp_eq (tgt := 206) (gi_rgS g23) (gi_rgS g24) dL_law_201 (by decide) (fun z => absurd z c25) (fun _ => ?_)
        refine gy_iconst dL_law_204 ?_
        cases e
        exact gx_zret (by decide +kernel) dL_law_205 rfl ⟨by show (kc + 1) ≤ _; omega, by show (ks + 6) ≤ _; omega⟩ (fun z => by cases z)
    refine gx_iE e (fun c34 e => ?_) (fun c34 e => ?_)
    · refine gy_tableIn (tgt := 226) (off := 187) (gi_rgS g14) dL_law_39 (by rw [c34]; decide) (by rw [c34]; decide) (by rw [c34]; rfl) (by decide) ?_
      refine gx_aload_n dL_law_226 rfl 1 rfl ?_
      refine gx_bE e (fun _ hu35 e => ?_)
      refine gx_bE e (fun q36 hq36 e => ?_)
      refine gx_callV (n := 0) (st := []) (As := []) (b := v1) dL_law_227 (z_X11_wipe hq36) rfl ⟨rfl, gw_cw_X11_wipe, gw_1, gp_X11_wipe, ⟨Nat.le_of_ble_eq_true rfl, Nat.le_of_ble_eq_true rfl⟩⟩ (gi_isS hu35) (by decide) gw_353 gw_354 gw_355 rfl ⟨by show kc ≤ _; omega, by show ks ≤ _; omega⟩ (Nat.le_of_ble_eq_true rfl) (gy_k1 (x := .int (gI q36.1)) (kc2 := kc) (ks2 := ks) ⟨rfl, rfl⟩ ?_) gy_kn
      refine gx_aload_n dL_law_230 rfl 2 rfl ?_
      refine gx_bE e (fun _ hu37 e => ?_)
      refine gx_bE e (fun q38 hq38 e => ?_)
      refine gx_callV (n := 0) (st := [.int (gI q36.1)]) (As := []) (b := v2) dL_law_231 (z_X12_wipe hq38) rfl ⟨rfl, gw_cw_X12_wipe, gw_14, gp_X12_wipe, ⟨Nat.le_of_ble_eq_true rfl, Nat.le_of_ble_eq_true rfl⟩⟩ (gi_isS hu37) (by decide) gw_1484 gw_1485 gw_1486 rfl ⟨by show kc ≤ _; omega, by show ks ≤ _; omega⟩ (Nat.le_of_ble_eq_true rfl) (gy_k1 (x := .int (gI q38.1)) (kc2 := kc) (ks2 := ks) ⟨rfl, rfl⟩ ?_) gy_kn
      refine gx_bE e (fun _ g39 e => ?_)
      refine gx_bE e (fun _ g40 e => ?_)
      refine gx_iE e (fun c41 e => ?_) (fun c41 e => ?_)
      · refine gy_icmp_eq (tgt := 1586) (gi_rgS g39) (gi_rgS g40) dL_law_234 (by decide) (fun _ => ?_) (fun z => absurd c41 z)
        exact zb_L_law_1586 (by show kc + _ ≤ _; omega) (by show ks + _ ≤ _; omega) hr23 e
      · refine gy_icmp_eq (tgt := 1586) (gi_rgS g39) (gi_rgS g40) dL_law_234 (by decide) (fun z => absurd z c41) (fun _ => ?_)
        refine gy_iconst dL_law_237 ?_
        cases e
        exact gx_zret (by decide +kernel) dL_law_238 rfl ⟨by show kc ≤ _; omega, by show ks ≤ _; omega⟩ (fun z => by cases z)
    refine gx_iE e (fun c42 e => ?_) (fun c42 e => ?_)
    · refine gy_tableIn (tgt := 239) (off := 200) (gi_rgS g14) dL_law_39 (by rw [c42]; decide) (by rw [c42]; decide) (by rw [c42]; rfl) (by decide) ?_
      refine gx_aload_n dL_law_239 rfl 1 rfl ?_
      refine gx_bE e (fun _ hu43 e => ?_)
      refine gx_bE e (fun q44 hq44 e => ?_)
      refine gx_callV (n := 0) (st := []) (As := []) (b := v1) dL_law_240 (z_X11_fault hq44) rfl ⟨rfl, gw_cw_X11_fault, gw_1, gp_X11_fault, ⟨Nat.le_of_ble_eq_true rfl, Nat.le_of_ble_eq_true rfl⟩⟩ (gi_isS hu43) (by decide) gw_361 gw_362 gw_363 rfl ⟨by show kc ≤ _; omega, by show ks ≤ _; omega⟩ (Nat.le_of_ble_eq_true rfl) (gy_k1 (x := .int (gI q44)) (kc2 := kc) (ks2 := ks) ⟨rfl, rfl⟩ ?_) gy_kn
      refine gx_aload_n dL_law_243 rfl 2 rfl ?_
      refine gx_bE e (fun _ hu45 e => ?_)
      refine gx_bE e (fun q46 hq46 e => ?_)
      refine gx_callV (n := 0) (st := [.int (gI q44)]) (As := []) (b := v2) dL_law_244 (z_X12_fault hq46) rfl ⟨rfl, gw_cw_X12_fault, gw_14, gp_X12_fault, ⟨Nat.le_of_ble_eq_true rfl, Nat.le_of_ble_eq_true rfl⟩⟩ (gi_isS hu45) (by decide) gw_1488 gw_1489 gw_1490 rfl ⟨by show kc ≤ _; omega, by show ks ≤ _; omega⟩ (Nat.le_of_ble_eq_true rfl) (gy_k1 (x := .int (gI q46.1)) (kc2 := kc) (ks2 := ks) ⟨rfl, rfl⟩ ?_) gy_kn
      refine gx_bE e (fun _ g47 e => ?_)
      refine gx_bE e (fun _ g48 e => ?_)
      refine gx_iE e (fun c49 e => ?_) (fun c49 e => ?_)
      · refine gy_icmp_eq (tgt := 1586) (gi_rgS g47) (gi_rgS g48) dL_law_247 (by decide) (fun _ => ?_) (fun z => absurd c49 z)
        exact zb_L_law_1586 (by show kc + _ ≤ _; omega) (by show ks + _ ≤ _; omega) hr23 e
      · refine gy_icmp_eq (tgt := 1586) (gi_rgS g47) (gi_rgS g48) dL_law_247 (by decide) (fun z => absurd z c49) (fun _ => ?_)
        refine gy_iconst dL_law_250 ?_
        cases e
        exact gx_zret (by decide +kernel) dL_law_251 rfl ⟨by show kc ≤ _; omega, by show ks ≤ _; omega⟩ (fun z => by cases z)
    refine gx_iE e (fun c50 e => ?_) (fun c50 e => ?_)
    · refine gy_tableIn (tgt := 252) (off := 213) (gi_rgS g14) dL_law_39 (by rw [c50]; decide) (by rw [c50]; decide) (by rw [c50]; rfl) (by decide) ?_
      refine gx_aload_n dL_law_252 rfl 1 rfl ?_
      refine gx_aload_n dL_law_253 rfl 3 rfl ?_
      refine gx_bE e (fun q51 hq51 e => ?_)
      refine gx_callSW (n := 2) (st := []) (As := [.ref v1, .ref v3]) dL_law_254 (z_L_enter hq51) rfl ⟨(by decide +kernel), gw_cw_L_enter, gw_0, gp_L_enter, ⟨Nat.le_of_ble_eq_true rfl, Nat.le_of_ble_eq_true rfl⟩⟩ gw_940 gw_941 ⟨by show (kc + 1) ≤ _; omega, by show (ks + 6) ≤ _; omega⟩ (Nat.le_of_ble_eq_true rfl) (gy_k1 (x := .int (gI q51.1)) (kc2 := (kc + 1)) (ks2 := (ks + 6)) ⟨rfl, rfl⟩ ?_)
      refine gx_istore (ls2 := [(5, .int (gI q51.1)), (0, .ref 100000), (1, .ref v1), (2, .ref v2), (3, .ref v3), (4, .int (gI v4))]) dL_law_257 (Nat.le_of_ble_eq_true rfl) rfl ?_
      refine gx_aload_n dL_law_259 rfl 3 rfl ?_
      refine gx_bE e (fun _ hu52 e => ?_)
      refine gx_bE e (fun q53 hq53 e => ?_)
      refine gx_callV (n := 0) (st := []) (As := []) (b := v2) dL_law_260 (z_X12_enter hq53) rfl ⟨rfl, gw_cw_X12_enter, gw_14, gp_X12_enter, ⟨Nat.le_of_ble_eq_true rfl, Nat.le_of_ble_eq_true rfl⟩⟩ (gi_isS hu52) (by decide) gw_1496 gw_1497 gw_1498 rfl ⟨by show (kc + 1) ≤ _; omega, by show (ks + 6) ≤ _; omega⟩ (Nat.le_of_ble_eq_true rfl) (gy_k1 (x := .int (gI q53.1)) (kc2 := (kc + 1)) (ks2 := (ks + 6)) ⟨rfl, rfl⟩ ?_) gy_kn
      refine gx_istore (ls2 := [(6, .int (gI q53.1)), (5, .int (gI q51.1)), (0, .ref 100000), (1, .ref v1), (2, .ref v2), (3, .ref v3), (4, .int (gI v4))]) dL_law_263 (Nat.le_of_ble_eq_true rfl) rfl ?_
      refine gx_aload_n dL_law_265 rfl 4 rfl ?_
      refine gx_bE e (fun _ hu54 e => ?_)
      refine gx_bE e (fun q55 hq55 e => ?_)
      refine gx_callV (n := 0) (st := []) (As := []) (b := v2) dL_law_266 (z_X12_thrown hq55) rfl ⟨rfl, gw_cw_X12_thrown, gw_14, gp_X12_thrown, ⟨Nat.le_of_ble_eq_true rfl, Nat.le_of_ble_eq_true rfl⟩⟩ (gi_isS hu54) (by decide) gw_1463 gw_1464 gw_1465 rfl ⟨by show (kc + 1) ≤ _; omega, by show (ks + 6) ≤ _; omega⟩ (Nat.le_of_ble_eq_true rfl) (gy_k1 (x := .int (gI q55)) (kc2 := (kc + 1)) (ks2 := (ks + 6)) ⟨rfl, rfl⟩ ?_) gy_kn
      refine gx_iload dL_law_269 1 rfl ?_
      refine gx_bE e (fun _ g56 e => ?_)
      refine gx_bE e (fun _ g57 e => ?_)
      refine gx_iE e (fun c58 e => ?_) (fun c58 e => ?_)
      · refine gy_icmp_eq (tgt := 276) (gi_rgS g56) (gi_rgS g57) dL_law_271 (by decide) (fun _ => ?_) (fun z => absurd c58 z)
        refine gx_iload dL_law_276 1 rfl ?_
        refine gx_iE e (fun c59 e => ?_) (fun c59 e => ?_)
        · refine gy_if_ne (tgt := 293) (gi_rgS g57) dL_law_278 (by decide) (fun z => absurd c59 z) (fun _ => ?_)
          refine gx_aload_n dL_law_281 rfl 5 rfl ?_
          refine gy_iconst dL_law_282 ?_
          refine gx_bE e (fun t60 ht60 e => ?_)
          refine gy_l2 ht60 dL_law_283 ?_
          refine gx_iload dL_law_284 0 rfl ?_
          refine gx_bE e (fun _ g61 e => ?_)
          refine gy_i2l (gi_rgS g61) dL_law_286 ?_
          refine gx_bE e (fun _ g62 e => ?_)
          refine gx_bE e (fun _ g63 e => ?_)
          refine gy_lcmp (gi_rgLS g62) (gi_rgLS g63) dL_law_287 ?_
          refine gx_bE e (fun _ g64 e => ?_)
          refine gx_iE e (fun c65 e => ?_) (fun c65 e => ?_)
          · refine gy_if_eq (tgt := 293) (gi_rgS g64) dL_law_288 (by decide) (fun _ => ?_) (fun z => absurd c65 z)
            refine gx_sub (ls2 := [(0, .ref 100000), (1, .ref v1), (2, .ref v2), (3, .ref v3), (4, .int (gI v4))]) [2, 3, 4, 5, 6] rfl ?_
            exact zb_L_law_293 (by show (kc + 1) + _ ≤ _; omega) (by show (ks + 6) + _ ≤ _; omega) hr23 e
          · refine gy_if_eq (tgt := 293) (gi_rgS g64) dL_law_288 (by decide) (fun z => absurd z c65) (fun _ => ?_)
            refine gy_iconst dL_law_291 ?_
            cases e
            exact gx_zret (by decide +kernel) dL_law_292 rfl ⟨by show (kc + 1) ≤ _; omega, by show (ks + 6) ≤ _; omega⟩ (fun z => by cases z)
        · refine gy_if_ne (tgt := 293) (gi_rgS g57) dL_law_278 (by decide) (fun _ => ?_) (fun z => absurd z c59)
          refine gx_sub (ls2 := [(0, .ref 100000), (1, .ref v1), (2, .ref v2), (3, .ref v3), (4, .int (gI v4))]) [2, 3, 4, 5, 6] rfl ?_
          exact zb_L_law_293 (by show (kc + 1) + _ ≤ _; omega) (by show (ks + 6) + _ ≤ _; omega) hr23 e
      · refine gy_icmp_eq (tgt := 276) (gi_rgS g56) (gi_rgS g57) dL_law_271 (by decide) (fun z => absurd z c58) (fun _ => ?_)
        refine gy_iconst dL_law_274 ?_
        cases e
        exact gx_zret (by decide +kernel) dL_law_275 rfl ⟨by show (kc + 1) ≤ _; omega, by show (ks + 6) ≤ _; omega⟩ (fun z => by cases z)
    refine gx_iE e (fun c66 e => ?_) (fun c66 e => ?_)
    · refine gy_tableIn (tgt := 296) (off := 257) (gi_rgS g14) dL_law_39 (by rw [c66]; decide) (by rw [c66]; decide) (by rw [c66]; rfl) (by decide) ?_
      refine gx_aload_n dL_law_296 rfl 1 rfl ?_
      refine gx_aload_n dL_law_297 rfl 3 rfl ?_
      refine gx_bE e (fun q67 hq67 e => ?_)
      refine gx_callSW (n := 2) (st := []) (As := [.ref v1, .ref v3]) dL_law_298 (z_L_undo hq67) rfl ⟨(by decide +kernel), gw_cw_L_undo, gw_0, gp_L_undo, ⟨Nat.le_of_ble_eq_true rfl, Nat.le_of_ble_eq_true rfl⟩⟩ gw_1013 gw_1014 ⟨by show (kc + 1) ≤ _; omega, by show (ks + 6) ≤ _; omega⟩ (Nat.le_of_ble_eq_true rfl) (gy_k1 (x := .int (gI q67.1)) (kc2 := (kc + 1)) (ks2 := (ks + 6)) ⟨rfl, rfl⟩ ?_)
      refine gx_istore (ls2 := [(5, .int (gI q67.1)), (0, .ref 100000), (1, .ref v1), (2, .ref v2), (3, .ref v3), (4, .int (gI v4))]) dL_law_301 (Nat.le_of_ble_eq_true rfl) rfl ?_
      refine gx_aload_n dL_law_303 rfl 3 rfl ?_
      refine gx_bE e (fun _ hu68 e => ?_)
      refine gx_bE e (fun q69 hq69 e => ?_)
      refine gx_callV (n := 0) (st := []) (As := []) (b := v2) dL_law_304 (z_X12_undo hq69) rfl ⟨rfl, gw_cw_X12_undo, gw_14, gp_X12_undo, ⟨Nat.le_of_ble_eq_true rfl, Nat.le_of_ble_eq_true rfl⟩⟩ (gi_isS hu68) (by decide) gw_1532 gw_1533 gw_1534 rfl ⟨by show (kc + 1) ≤ _; omega, by show (ks + 6) ≤ _; omega⟩ (Nat.le_of_ble_eq_true rfl) (gy_k1 (x := .int (gI q69.1)) (kc2 := (kc + 1)) (ks2 := (ks + 6)) ⟨rfl, rfl⟩ ?_) gy_kn
      refine gx_istore (ls2 := [(6, .int (gI q69.1)), (5, .int (gI q67.1)), (0, .ref 100000), (1, .ref v1), (2, .ref v2), (3, .ref v3), (4, .int (gI v4))]) dL_law_307 (Nat.le_of_ble_eq_true rfl) rfl ?_
      refine gx_aload_n dL_law_309 rfl 4 rfl ?_
      refine gx_bE e (fun _ hu70 e => ?_)
      refine gx_bE e (fun q71 hq71 e => ?_)
      refine gx_callV (n := 0) (st := []) (As := []) (b := v2) dL_law_310 (z_X12_thrown hq71) rfl ⟨rfl, gw_cw_X12_thrown, gw_14, gp_X12_thrown, ⟨Nat.le_of_ble_eq_true rfl, Nat.le_of_ble_eq_true rfl⟩⟩ (gi_isS hu70) (by decide) gw_1463 gw_1464 gw_1465 rfl ⟨by show (kc + 1) ≤ _; omega, by show (ks + 6) ≤ _; omega⟩ (Nat.le_of_ble_eq_true rfl) (gy_k1 (x := .int (gI q71)) (kc2 := (kc + 1)) (ks2 := (ks + 6)) ⟨rfl, rfl⟩ ?_) gy_kn
      refine gx_iload dL_law_313 1 rfl ?_
      refine gx_bE e (fun _ g72 e => ?_)
      refine gx_bE e (fun _ g73 e => ?_)
      refine gx_iE e (fun c74 e => ?_) (fun c74 e => ?_)
      · refine gy_icmp_eq (tgt := 320) (gi_rgS g72) (gi_rgS g73) dL_law_315 (by decide) (fun _ => ?_) (fun z => absurd c74 z)
        refine gx_iload dL_law_320 1 rfl ?_
        refine gx_iE e (fun c75 e => ?_) (fun c75 e => ?_)
        · refine gy_if_ne (tgt := 337) (gi_rgS g73) dL_law_322 (by decide) (fun z => absurd c75 z) (fun _ => ?_)
          refine gx_aload_n dL_law_325 rfl 5 rfl ?_
          refine gy_iconst dL_law_326 ?_
          refine gx_bE e (fun t76 ht76 e => ?_)
          refine gy_l2 ht76 dL_law_327 ?_
          refine gx_iload dL_law_328 0 rfl ?_
          refine gx_bE e (fun _ g77 e => ?_)
          refine gy_i2l (gi_rgS g77) dL_law_330 ?_
          refine gx_bE e (fun _ g78 e => ?_)
          refine gx_bE e (fun _ g79 e => ?_)
          refine gy_lcmp (gi_rgLS g78) (gi_rgLS g79) dL_law_331 ?_
          refine gx_bE e (fun _ g80 e => ?_)
          refine gx_iE e (fun c81 e => ?_) (fun c81 e => ?_)
          · refine gy_if_eq (tgt := 337) (gi_rgS g80) dL_law_332 (by decide) (fun _ => ?_) (fun z => absurd c81 z)
            refine gx_sub (ls2 := [(0, .ref 100000), (1, .ref v1), (2, .ref v2), (3, .ref v3), (4, .int (gI v4))]) [2, 3, 4, 5, 6] rfl ?_
            exact zb_L_law_337 (by show (kc + 1) + _ ≤ _; omega) (by show (ks + 6) + _ ≤ _; omega) hr23 e
          · refine gy_if_eq (tgt := 337) (gi_rgS g80) dL_law_332 (by decide) (fun z => absurd z c81) (fun _ => ?_)
            refine gy_iconst dL_law_335 ?_
            cases e
            exact gx_zret (by decide +kernel) dL_law_336 rfl ⟨by show (kc + 1) ≤ _; omega, by show (ks + 6) ≤ _; omega⟩ (fun z => by cases z)
        · refine gy_if_ne (tgt := 337) (gi_rgS g73) dL_law_322 (by decide) (fun _ => ?_) (fun z => absurd z c75)
          refine gx_sub (ls2 := [(0, .ref 100000), (1, .ref v1), (2, .ref v2), (3, .ref v3), (4, .int (gI v4))]) [2, 3, 4, 5, 6] rfl ?_
          exact zb_L_law_337 (by show (kc + 1) + _ ≤ _; omega) (by show (ks + 6) + _ ≤ _; omega) hr23 e
      · refine gy_icmp_eq (tgt := 320) (gi_rgS g72) (gi_rgS g73) dL_law_315 (by decide) (fun z => absurd z c74) (fun _ => ?_)
        refine gy_iconst dL_law_318 ?_
        cases e
        exact gx_zret (by decide +kernel) dL_law_319 rfl ⟨by show (kc + 1) ≤ _; omega, by show (ks + 6) ≤ _; omega⟩ (fun z => by cases z)
    refine gx_iE e (fun c82 e => ?_) (fun c82 e => ?_)
    · refine gy_tableIn (tgt := 340) (off := 301) (gi_rgS g14) dL_law_39 (by rw [c82]; decide) (by rw [c82]; decide) (by rw [c82]; rfl) (by decide) ?_
      refine gx_aload_n dL_law_340 rfl 1 rfl ?_
      refine gx_aload_n dL_law_341 rfl 0 rfl ?_
      refine gx_iload dL_law_342 4 rfl ?_
      refine gy_iconst dL_law_344 ?_
      refine gy_iadd dL_law_345 ?_
      refine gx_bE e (fun t83 ht83 e => ?_)
      refine gy_sld (L := L) (xs := xs) rfl ht83 dL_law_346 ?_
      refine gx_aload_n dL_law_347 rfl 3 rfl ?_
      refine gx_bE e (fun q84 hq84 e => ?_)
      refine gx_callSW (n := 3) (st := []) (As := [.ref v1, .int (gI t83), .ref v3]) dL_law_348 (z_L_use hq84) rfl ⟨(by decide +kernel), gw_cw_L_use, gw_0, gp_L_use, ⟨Nat.le_of_ble_eq_true rfl, Nat.le_of_ble_eq_true rfl⟩⟩ gw_1025 gw_1026 ⟨by show (kc + 1) ≤ _; omega, by show (ks + 6) ≤ _; omega⟩ (Nat.le_of_ble_eq_true rfl) (gy_k1 (x := .int (gI q84.1)) (kc2 := (kc + 1)) (ks2 := (ks + 6)) ⟨rfl, rfl⟩ ?_)
      refine gx_istore (ls2 := [(5, .int (gI q84.1)), (0, .ref 100000), (1, .ref v1), (2, .ref v2), (3, .ref v3), (4, .int (gI v4))]) dL_law_351 (Nat.le_of_ble_eq_true rfl) rfl ?_
      refine gx_aload_n dL_law_353 rfl 3 rfl ?_
      refine gx_aload_n dL_law_354 rfl 1 rfl ?_
      refine gx_iload dL_law_355 5 rfl ?_
      refine gy_iconst dL_law_357 ?_
      refine gy_iadd dL_law_358 ?_
      refine gx_bE e (fun t85 ht85 e => ?_)
      refine gy_sld (L := L) (xs := xs) rfl ht85 dL_law_359 ?_
      refine gx_bE e (fun _ hu86 e => ?_)
      refine gx_bE e (fun q87 hq87 e => ?_)
      refine gx_callV (n := 1) (st := []) (As := [.int (gI t85)]) (b := v2) dL_law_360 (z_X12_use hq87) rfl ⟨rfl, gw_cw_X12_use, gw_14, gp_X12_use, ⟨Nat.le_of_ble_eq_true rfl, Nat.le_of_ble_eq_true rfl⟩⟩ (gi_isS hu86) (by decide) gw_1536 gw_1537 gw_1538 rfl ⟨by show (kc + 1) ≤ _; omega, by show (ks + 6) ≤ _; omega⟩ (Nat.le_of_ble_eq_true rfl) (gy_k1 (x := .int (gI q87.1)) (kc2 := (kc + 1)) (ks2 := (ks + 6)) ⟨rfl, rfl⟩ ?_) gy_kn
      refine gx_istore (ls2 := [(6, .int (gI q87.1)), (5, .int (gI q84.1)), (0, .ref 100000), (1, .ref v1), (2, .ref v2), (3, .ref v3), (4, .int (gI v4))]) dL_law_363 (Nat.le_of_ble_eq_true rfl) rfl ?_
      refine gx_aload_n dL_law_365 rfl 4 rfl ?_
      refine gx_bE e (fun _ hu88 e => ?_)
      refine gx_bE e (fun q89 hq89 e => ?_)
      refine gx_callV (n := 0) (st := []) (As := []) (b := v2) dL_law_366 (z_X12_thrown hq89) rfl ⟨rfl, gw_cw_X12_thrown, gw_14, gp_X12_thrown, ⟨Nat.le_of_ble_eq_true rfl, Nat.le_of_ble_eq_true rfl⟩⟩ (gi_isS hu88) (by decide) gw_1463 gw_1464 gw_1465 rfl ⟨by show (kc + 1) ≤ _; omega, by show (ks + 6) ≤ _; omega⟩ (Nat.le_of_ble_eq_true rfl) (gy_k1 (x := .int (gI q89)) (kc2 := (kc + 1)) (ks2 := (ks + 6)) ⟨rfl, rfl⟩ ?_) gy_kn
      refine gx_iload dL_law_369 1 rfl ?_
      refine gx_bE e (fun _ g90 e => ?_)
      refine gx_bE e (fun _ g91 e => ?_)
      refine gx_iE e (fun c92 e => ?_) (fun c92 e => ?_)
      · refine gy_icmp_eq (tgt := 376) (gi_rgS g90) (gi_rgS g91) dL_law_371 (by decide) (fun _ => ?_) (fun z => absurd c92 z)
        refine gx_iload dL_law_376 1 rfl ?_
        refine gx_iE e (fun c93 e => ?_) (fun c93 e => ?_)
        · refine gy_if_ne (tgt := 393) (gi_rgS g91) dL_law_378 (by decide) (fun z => absurd c93 z) (fun _ => ?_)
          refine gx_aload_n dL_law_381 rfl 5 rfl ?_
          refine gy_iconst dL_law_382 ?_
          refine gx_bE e (fun t94 ht94 e => ?_)
          refine gy_l2 ht94 dL_law_383 ?_
          refine gx_iload dL_law_384 0 rfl ?_
          refine gx_bE e (fun _ g95 e => ?_)
          refine gy_i2l (gi_rgS g95) dL_law_386 ?_
          refine gx_bE e (fun _ g96 e => ?_)
          refine gx_bE e (fun _ g97 e => ?_)
          refine gy_lcmp (gi_rgLS g96) (gi_rgLS g97) dL_law_387 ?_
          refine gx_bE e (fun _ g98 e => ?_)
          refine gx_iE e (fun c99 e => ?_) (fun c99 e => ?_)
          · refine gy_if_eq (tgt := 393) (gi_rgS g98) dL_law_388 (by decide) (fun _ => ?_) (fun z => absurd c99 z)
            refine gx_sub (ls2 := [(0, .ref 100000), (1, .ref v1), (2, .ref v2), (3, .ref v3), (4, .int (gI v4))]) [2, 3, 4, 5, 6] rfl ?_
            exact zb_L_law_393 (by show (kc + 1) + _ ≤ _; omega) (by show (ks + 6) + _ ≤ _; omega) hr23 e
          · refine gy_if_eq (tgt := 393) (gi_rgS g98) dL_law_388 (by decide) (fun z => absurd z c99) (fun _ => ?_)
            refine gy_iconst dL_law_391 ?_
            cases e
            exact gx_zret (by decide +kernel) dL_law_392 rfl ⟨by show (kc + 1) ≤ _; omega, by show (ks + 6) ≤ _; omega⟩ (fun z => by cases z)
        · refine gy_if_ne (tgt := 393) (gi_rgS g91) dL_law_378 (by decide) (fun _ => ?_) (fun z => absurd z c93)
          refine gx_sub (ls2 := [(0, .ref 100000), (1, .ref v1), (2, .ref v2), (3, .ref v3), (4, .int (gI v4))]) [2, 3, 4, 5, 6] rfl ?_
          exact zb_L_law_393 (by show (kc + 1) + _ ≤ _; omega) (by show (ks + 6) + _ ≤ _; omega) hr23 e
      · refine gy_icmp_eq (tgt := 376) (gi_rgS g90) (gi_rgS g91) dL_law_371 (by decide) (fun z => absurd z c92) (fun _ => ?_)
        refine gy_iconst dL_law_374 ?_
        cases e
        exact gx_zret (by decide +kernel) dL_law_375 rfl ⟨by show (kc + 1) ≤ _; omega, by show (ks + 6) ≤ _; omega⟩ (fun z => by cases z)
    refine gx_iE e (fun c100 e => ?_) (fun c100 e => ?_)
    · refine gy_tableIn (tgt := 396) (off := 357) (gi_rgS g14) dL_law_39 (by rw [c100]; decide) (by rw [c100]; decide) (by rw [c100]; rfl) (by decide) ?_
      refine gx_aload_n dL_law_396 rfl 1 rfl ?_
      refine gx_aload_n dL_law_397 rfl 0 rfl ?_
      refine gx_iload dL_law_398 4 rfl ?_
      refine gy_iconst dL_law_400 ?_
      refine gy_iadd dL_law_401 ?_
      refine gx_bE e (fun t101 ht101 e => ?_)
      refine gy_sld (L := L) (xs := xs) rfl ht101 dL_law_402 ?_
      refine gx_aload_n dL_law_403 rfl 3 rfl ?_
      refine gx_bE e (fun q102 hq102 e => ?_)
      refine gx_callSW (n := 3) (st := []) (As := [.ref v1, .int (gI t101), .ref v3]) dL_law_404 (z_L_bring hq102) rfl ⟨(by decide +kernel), gw_cw_L_bring, gw_0, gp_L_bring, ⟨Nat.le_of_ble_eq_true rfl, Nat.le_of_ble_eq_true rfl⟩⟩ gw_1049 gw_1050 ⟨by show (kc + 1) ≤ _; omega, by show (ks + 6) ≤ _; omega⟩ (Nat.le_of_ble_eq_true rfl) (gy_k1 (x := .int (gI q102.1)) (kc2 := (kc + 1)) (ks2 := (ks + 6)) ⟨rfl, rfl⟩ ?_)
      refine gx_istore (ls2 := [(5, .int (gI q102.1)), (0, .ref 100000), (1, .ref v1), (2, .ref v2), (3, .ref v3), (4, .int (gI v4))]) dL_law_407 (Nat.le_of_ble_eq_true rfl) rfl ?_
      refine gx_aload_n dL_law_409 rfl 3 rfl ?_
      refine gx_aload_n dL_law_410 rfl 1 rfl ?_
      refine gx_iload dL_law_411 5 rfl ?_
      refine gy_iconst dL_law_413 ?_
      refine gy_iadd dL_law_414 ?_
      refine gx_bE e (fun t103 ht103 e => ?_)
      refine gy_sld (L := L) (xs := xs) rfl ht103 dL_law_415 ?_
      refine gx_bE e (fun _ hu104 e => ?_)
      refine gx_bE e (fun q105 hq105 e => ?_)
      refine gx_callV (n := 1) (st := []) (As := [.int (gI t103)]) (b := v2) dL_law_416 (z_X12_bring hq105) rfl ⟨rfl, gw_cw_X12_bring, gw_14, gp_X12_bring, ⟨Nat.le_of_ble_eq_true rfl, Nat.le_of_ble_eq_true rfl⟩⟩ (gi_isS hu104) (by decide) gw_1543 gw_1544 gw_1545 rfl ⟨by show (kc + 1) ≤ _; omega, by show (ks + 6) ≤ _; omega⟩ (Nat.le_of_ble_eq_true rfl) (gy_k1 (x := .int (gI q105.1)) (kc2 := (kc + 1)) (ks2 := (ks + 6)) ⟨rfl, rfl⟩ ?_) gy_kn
      refine gx_istore (ls2 := [(6, .int (gI q105.1)), (5, .int (gI q102.1)), (0, .ref 100000), (1, .ref v1), (2, .ref v2), (3, .ref v3), (4, .int (gI v4))]) dL_law_419 (Nat.le_of_ble_eq_true rfl) rfl ?_
      refine gx_aload_n dL_law_421 rfl 4 rfl ?_
      refine gx_bE e (fun _ hu106 e => ?_)
      refine gx_bE e (fun q107 hq107 e => ?_)
      refine gx_callV (n := 0) (st := []) (As := []) (b := v2) dL_law_422 (z_X12_thrown hq107) rfl ⟨rfl, gw_cw_X12_thrown, gw_14, gp_X12_thrown, ⟨Nat.le_of_ble_eq_true rfl, Nat.le_of_ble_eq_true rfl⟩⟩ (gi_isS hu106) (by decide) gw_1463 gw_1464 gw_1465 rfl ⟨by show (kc + 1) ≤ _; omega, by show (ks + 6) ≤ _; omega⟩ (Nat.le_of_ble_eq_true rfl) (gy_k1 (x := .int (gI q107)) (kc2 := (kc + 1)) (ks2 := (ks + 6)) ⟨rfl, rfl⟩ ?_) gy_kn
      refine gx_iload dL_law_425 1 rfl ?_
      refine gx_bE e (fun _ g108 e => ?_)
      refine gx_bE e (fun _ g109 e => ?_)
      refine gx_iE e (fun c110 e => ?_) (fun c110 e => ?_)
      · refine gy_icmp_eq (tgt := 432) (gi_rgS g108) (gi_rgS g109) dL_law_427 (by decide) (fun _ => ?_) (fun z => absurd c110 z)
        refine gx_iload dL_law_432 1 rfl ?_
        refine gx_iE e (fun c111 e => ?_) (fun c111 e => ?_)
        · refine gy_if_ne (tgt := 449) (gi_rgS g109) dL_law_434 (by decide) (fun z => absurd c111 z) (fun _ => ?_)
          refine gx_aload_n dL_law_437 rfl 5 rfl ?_
          refine gy_iconst dL_law_438 ?_
          refine gx_bE e (fun t112 ht112 e => ?_)
          refine gy_l2 ht112 dL_law_439 ?_
          refine gx_iload dL_law_440 0 rfl ?_
          refine gx_bE e (fun _ g113 e => ?_)
          refine gy_i2l (gi_rgS g113) dL_law_442 ?_
          refine gx_bE e (fun _ g114 e => ?_)
          refine gx_bE e (fun _ g115 e => ?_)
          refine gy_lcmp (gi_rgLS g114) (gi_rgLS g115) dL_law_443 ?_
          refine gx_bE e (fun _ g116 e => ?_)
          refine gx_iE e (fun c117 e => ?_) (fun c117 e => ?_)
          · refine gy_if_eq (tgt := 449) (gi_rgS g116) dL_law_444 (by decide) (fun _ => ?_) (fun z => absurd c117 z)
            refine gx_sub (ls2 := [(0, .ref 100000), (1, .ref v1), (2, .ref v2), (3, .ref v3), (4, .int (gI v4))]) [2, 3, 4, 5, 6] rfl ?_
            exact zb_L_law_449 (by show (kc + 1) + _ ≤ _; omega) (by show (ks + 6) + _ ≤ _; omega) hr23 e
          · refine gy_if_eq (tgt := 449) (gi_rgS g116) dL_law_444 (by decide) (fun z => absurd z c117) (fun _ => ?_)
            refine gy_iconst dL_law_447 ?_
            cases e
            exact gx_zret (by decide +kernel) dL_law_448 rfl ⟨by show (kc + 1) ≤ _; omega, by show (ks + 6) ≤ _; omega⟩ (fun z => by cases z)
        · refine gy_if_ne (tgt := 449) (gi_rgS g109) dL_law_434 (by decide) (fun _ => ?_) (fun z => absurd z c111)
          refine gx_sub (ls2 := [(0, .ref 100000), (1, .ref v1), (2, .ref v2), (3, .ref v3), (4, .int (gI v4))]) [2, 3, 4, 5, 6] rfl ?_
          exact zb_L_law_449 (by show (kc + 1) + _ ≤ _; omega) (by show (ks + 6) + _ ≤ _; omega) hr23 e
      · refine gy_icmp_eq (tgt := 432) (gi_rgS g108) (gi_rgS g109) dL_law_427 (by decide) (fun z => absurd z c110) (fun _ => ?_)
        refine gy_iconst dL_law_430 ?_
        cases e
        exact gx_zret (by decide +kernel) dL_law_431 rfl ⟨by show (kc + 1) ≤ _; omega, by show (ks + 6) ≤ _; omega⟩ (fun z => by cases z)
    refine gx_iE e (fun c118 e => ?_) (fun c118 e => ?_)
    · refine gy_tableIn (tgt := 452) (off := 413) (gi_rgS g14) dL_law_39 (by rw [c118]; decide) (by rw [c118]; decide) (by rw [c118]; rfl) (by decide) ?_
      refine gx_aload_n dL_law_452 rfl 1 rfl ?_
      refine gx_aload_n dL_law_453 rfl 0 rfl ?_
      refine gx_iload dL_law_454 4 rfl ?_
      refine gy_iconst dL_law_456 ?_
      refine gy_iadd dL_law_457 ?_
      refine gx_bE e (fun t119 ht119 e => ?_)
      refine gy_sld (L := L) (xs := xs) rfl ht119 dL_law_458 ?_
      refine gx_aload_n dL_law_459 rfl 3 rfl ?_
      refine gx_bE e (fun q120 hq120 e => ?_)
      refine gx_callSW (n := 3) (st := []) (As := [.ref v1, .int (gI t119), .ref v3]) dL_law_460 (z_L_start hq120) rfl ⟨(by decide +kernel), gw_cw_L_start, gw_0, gp_L_start, ⟨Nat.le_of_ble_eq_true rfl, Nat.le_of_ble_eq_true rfl⟩⟩ gw_1067 gw_1068 ⟨by show (kc + 1) ≤ _; omega, by show (ks + 6) ≤ _; omega⟩ (Nat.le_of_ble_eq_true rfl) (gy_k1 (x := .int (gI q120.1)) (kc2 := (kc + 1)) (ks2 := (ks + 6)) ⟨rfl, rfl⟩ ?_)
      refine gx_istore (ls2 := [(5, .int (gI q120.1)), (0, .ref 100000), (1, .ref v1), (2, .ref v2), (3, .ref v3), (4, .int (gI v4))]) dL_law_463 (Nat.le_of_ble_eq_true rfl) rfl ?_
      refine gx_aload_n dL_law_465 rfl 3 rfl ?_
      refine gx_aload_n dL_law_466 rfl 1 rfl ?_
      refine gx_iload dL_law_467 5 rfl ?_
      refine gy_iconst dL_law_469 ?_
      refine gy_iadd dL_law_470 ?_
      refine gx_bE e (fun t121 ht121 e => ?_)
      refine gy_sld (L := L) (xs := xs) rfl ht121 dL_law_471 ?_
      refine gx_bE e (fun _ hu122 e => ?_)
      refine gx_bE e (fun q123 hq123 e => ?_)
      refine gx_callV (n := 1) (st := []) (As := [.int (gI t121)]) (b := v2) dL_law_472 (z_X12_start hq123) rfl ⟨rfl, gw_cw_X12_start, gw_14, gp_X12_start, ⟨Nat.le_of_ble_eq_true rfl, Nat.le_of_ble_eq_true rfl⟩⟩ (gi_isS hu122) (by decide) gw_1555 gw_1556 gw_1557 rfl ⟨by show (kc + 1) ≤ _; omega, by show (ks + 6) ≤ _; omega⟩ (Nat.le_of_ble_eq_true rfl) (gy_k1 (x := .int (gI q123.1)) (kc2 := (kc + 1)) (ks2 := (ks + 6)) ⟨rfl, rfl⟩ ?_) gy_kn
      refine gx_istore (ls2 := [(6, .int (gI q123.1)), (5, .int (gI q120.1)), (0, .ref 100000), (1, .ref v1), (2, .ref v2), (3, .ref v3), (4, .int (gI v4))]) dL_law_475 (Nat.le_of_ble_eq_true rfl) rfl ?_
      refine gx_aload_n dL_law_477 rfl 4 rfl ?_
      refine gx_bE e (fun _ hu124 e => ?_)
      refine gx_bE e (fun q125 hq125 e => ?_)
      refine gx_callV (n := 0) (st := []) (As := []) (b := v2) dL_law_478 (z_X12_thrown hq125) rfl ⟨rfl, gw_cw_X12_thrown, gw_14, gp_X12_thrown, ⟨Nat.le_of_ble_eq_true rfl, Nat.le_of_ble_eq_true rfl⟩⟩ (gi_isS hu124) (by decide) gw_1463 gw_1464 gw_1465 rfl ⟨by show (kc + 1) ≤ _; omega, by show (ks + 6) ≤ _; omega⟩ (Nat.le_of_ble_eq_true rfl) (gy_k1 (x := .int (gI q125)) (kc2 := (kc + 1)) (ks2 := (ks + 6)) ⟨rfl, rfl⟩ ?_) gy_kn
      refine gx_iload dL_law_481 1 rfl ?_
      refine gx_bE e (fun _ g126 e => ?_)
      refine gx_bE e (fun _ g127 e => ?_)
      refine gx_iE e (fun c128 e => ?_) (fun c128 e => ?_)
      · refine gy_icmp_eq (tgt := 488) (gi_rgS g126) (gi_rgS g127) dL_law_483 (by decide) (fun _ => ?_) (fun z => absurd c128 z)
        refine gx_iload dL_law_488 1 rfl ?_
        refine gx_iE e (fun c129 e => ?_) (fun c129 e => ?_)
        · refine gy_if_ne (tgt := 505) (gi_rgS g127) dL_law_490 (by decide) (fun z => absurd c129 z) (fun _ => ?_)
          refine gx_aload_n dL_law_493 rfl 5 rfl ?_
          refine gy_iconst dL_law_494 ?_
          refine gx_bE e (fun t130 ht130 e => ?_)
          refine gy_l2 ht130 dL_law_495 ?_
          refine gx_iload dL_law_496 0 rfl ?_
          refine gx_bE e (fun _ g131 e => ?_)
          refine gy_i2l (gi_rgS g131) dL_law_498 ?_
          refine gx_bE e (fun _ g132 e => ?_)
          refine gx_bE e (fun _ g133 e => ?_)
          refine gy_lcmp (gi_rgLS g132) (gi_rgLS g133) dL_law_499 ?_
          refine gx_bE e (fun _ g134 e => ?_)
          refine gx_iE e (fun c135 e => ?_) (fun c135 e => ?_)
          · refine gy_if_eq (tgt := 505) (gi_rgS g134) dL_law_500 (by decide) (fun _ => ?_) (fun z => absurd c135 z)
            refine gx_sub (ls2 := [(0, .ref 100000), (1, .ref v1), (2, .ref v2), (3, .ref v3), (4, .int (gI v4))]) [2, 3, 4, 5, 6] rfl ?_
            exact zb_L_law_505 (by show (kc + 1) + _ ≤ _; omega) (by show (ks + 6) + _ ≤ _; omega) hr23 e
          · refine gy_if_eq (tgt := 505) (gi_rgS g134) dL_law_500 (by decide) (fun z => absurd z c135) (fun _ => ?_)
            refine gy_iconst dL_law_503 ?_
            cases e
            exact gx_zret (by decide +kernel) dL_law_504 rfl ⟨by show (kc + 1) ≤ _; omega, by show (ks + 6) ≤ _; omega⟩ (fun z => by cases z)
        · refine gy_if_ne (tgt := 505) (gi_rgS g127) dL_law_490 (by decide) (fun _ => ?_) (fun z => absurd z c129)
          refine gx_sub (ls2 := [(0, .ref 100000), (1, .ref v1), (2, .ref v2), (3, .ref v3), (4, .int (gI v4))]) [2, 3, 4, 5, 6] rfl ?_
          exact zb_L_law_505 (by show (kc + 1) + _ ≤ _; omega) (by show (ks + 6) + _ ≤ _; omega) hr23 e
      · refine gy_icmp_eq (tgt := 488) (gi_rgS g126) (gi_rgS g127) dL_law_483 (by decide) (fun z => absurd z c128) (fun _ => ?_)
        refine gy_iconst dL_law_486 ?_
        cases e
        exact gx_zret (by decide +kernel) dL_law_487 rfl ⟨by show (kc + 1) ≤ _; omega, by show (ks + 6) ≤ _; omega⟩ (fun z => by cases z)
    refine gx_iE e (fun c136 e => ?_) (fun c136 e => ?_)
    · refine gy_tableIn (tgt := 508) (off := 469) (gi_rgS g14) dL_law_39 (by rw [c136]; decide) (by rw [c136]; decide) (by rw [c136]; rfl) (by decide) ?_
      refine gx_aload_n dL_law_508 rfl 1 rfl ?_
      refine gx_aload_n dL_law_509 rfl 0 rfl ?_
      refine gx_iload dL_law_510 4 rfl ?_
      refine gy_iconst dL_law_512 ?_
      refine gy_iadd dL_law_513 ?_
      refine gx_bE e (fun t137 ht137 e => ?_)
      refine gy_sld (L := L) (xs := xs) rfl ht137 dL_law_514 ?_
      refine gx_aload_n dL_law_515 rfl 0 rfl ?_
      refine gx_iload dL_law_516 4 rfl ?_
      refine gy_iconst dL_law_518 ?_
      refine gy_iadd dL_law_519 ?_
      refine gx_bE e (fun t138 ht138 e => ?_)
      refine gy_sld (L := L) (xs := xs) rfl ht138 dL_law_520 ?_
      refine gx_aload_n dL_law_521 rfl 0 rfl ?_
      refine gx_iload dL_law_522 4 rfl ?_
      refine gy_iconst dL_law_524 ?_
      refine gy_iadd dL_law_525 ?_
      refine gx_bE e (fun t139 ht139 e => ?_)
      refine gy_sld (L := L) (xs := xs) rfl ht139 dL_law_526 ?_
      refine gx_aload_n dL_law_527 rfl 3 rfl ?_
      refine gx_bE e (fun q140 hq140 e => ?_)
      refine gx_callSW (n := 5) (st := []) (As := [.ref v1, .int (gI t137), .int (gI t138), .int (gI t139), .ref v3]) dL_law_528 (z_L_level hq140) rfl ⟨(by decide +kernel), gw_cw_L_level, gw_0, gp_L_level, ⟨Nat.le_of_ble_eq_true rfl, Nat.le_of_ble_eq_true rfl⟩⟩ gw_1079 gw_1080 ⟨by show (kc + 1) ≤ _; omega, by show (ks + 6) ≤ _; omega⟩ (Nat.le_of_ble_eq_true rfl) (gy_k1 (x := .int (gI q140.1)) (kc2 := (kc + 1)) (ks2 := (ks + 6)) ⟨rfl, rfl⟩ ?_)
      refine gx_istore (ls2 := [(5, .int (gI q140.1)), (0, .ref 100000), (1, .ref v1), (2, .ref v2), (3, .ref v3), (4, .int (gI v4))]) dL_law_531 (Nat.le_of_ble_eq_true rfl) rfl ?_
      refine gx_aload_n dL_law_533 rfl 3 rfl ?_
      refine gx_aload_n dL_law_534 rfl 1 rfl ?_
      refine gx_iload dL_law_535 5 rfl ?_
      refine gy_iconst dL_law_537 ?_
      refine gy_iadd dL_law_538 ?_
      refine gx_bE e (fun t141 ht141 e => ?_)
      refine gy_sld (L := L) (xs := xs) rfl ht141 dL_law_539 ?_
      refine gx_aload_n dL_law_540 rfl 1 rfl ?_
      refine gx_iload dL_law_541 5 rfl ?_
      refine gy_iconst dL_law_543 ?_
      refine gy_iadd dL_law_544 ?_
      refine gx_bE e (fun t142 ht142 e => ?_)
      refine gy_sld (L := L) (xs := xs) rfl ht142 dL_law_545 ?_
      refine gx_aload_n dL_law_546 rfl 1 rfl ?_
      refine gx_iload dL_law_547 5 rfl ?_
      refine gy_iconst dL_law_549 ?_
      refine gy_iadd dL_law_550 ?_
      refine gx_bE e (fun t143 ht143 e => ?_)
      refine gy_sld (L := L) (xs := xs) rfl ht143 dL_law_551 ?_
      refine gx_bE e (fun _ hu144 e => ?_)
      refine gx_bE e (fun q145 hq145 e => ?_)
      refine gx_callV (n := 3) (st := []) (As := [.int (gI t141), .int (gI t142), .int (gI t143)]) (b := v2) dL_law_552 (z_X12_level hq145) rfl ⟨rfl, gw_cw_X12_level, gw_14, gp_X12_level, ⟨Nat.le_of_ble_eq_true rfl, Nat.le_of_ble_eq_true rfl⟩⟩ (gi_isS hu144) (by decide) gw_1559 gw_1560 gw_1561 rfl ⟨by show (kc + 1) ≤ _; omega, by show (ks + 6) ≤ _; omega⟩ (Nat.le_of_ble_eq_true rfl) (gy_k1 (x := .int (gI q145.1)) (kc2 := (kc + 1)) (ks2 := (ks + 6)) ⟨rfl, rfl⟩ ?_) gy_kn
      refine gx_istore (ls2 := [(6, .int (gI q145.1)), (5, .int (gI q140.1)), (0, .ref 100000), (1, .ref v1), (2, .ref v2), (3, .ref v3), (4, .int (gI v4))]) dL_law_555 (Nat.le_of_ble_eq_true rfl) rfl ?_
      refine gx_aload_n dL_law_557 rfl 4 rfl ?_
      refine gx_bE e (fun _ hu146 e => ?_)
      refine gx_bE e (fun q147 hq147 e => ?_)
      refine gx_callV (n := 0) (st := []) (As := []) (b := v2) dL_law_558 (z_X12_thrown hq147) rfl ⟨rfl, gw_cw_X12_thrown, gw_14, gp_X12_thrown, ⟨Nat.le_of_ble_eq_true rfl, Nat.le_of_ble_eq_true rfl⟩⟩ (gi_isS hu146) (by decide) gw_1463 gw_1464 gw_1465 rfl ⟨by show (kc + 1) ≤ _; omega, by show (ks + 6) ≤ _; omega⟩ (Nat.le_of_ble_eq_true rfl) (gy_k1 (x := .int (gI q147)) (kc2 := (kc + 1)) (ks2 := (ks + 6)) ⟨rfl, rfl⟩ ?_) gy_kn
      refine gx_iload dL_law_561 1 rfl ?_
      refine gx_bE e (fun _ g148 e => ?_)
      refine gx_bE e (fun _ g149 e => ?_)
      refine gx_iE e (fun c150 e => ?_) (fun c150 e => ?_)
      · refine gy_icmp_eq (tgt := 568) (gi_rgS g148) (gi_rgS g149) dL_law_563 (by decide) (fun _ => ?_) (fun z => absurd c150 z)
        refine gx_iload dL_law_568 1 rfl ?_
        refine gx_iE e (fun c151 e => ?_) (fun c151 e => ?_)
        · refine gy_if_ne (tgt := 585) (gi_rgS g149) dL_law_570 (by decide) (fun z => absurd c151 z) (fun _ => ?_)
          refine gx_aload_n dL_law_573 rfl 5 rfl ?_
          refine gy_iconst dL_law_574 ?_
          refine gx_bE e (fun t152 ht152 e => ?_)
          refine gy_l2 ht152 dL_law_575 ?_
          refine gx_iload dL_law_576 0 rfl ?_
          refine gx_bE e (fun _ g153 e => ?_)
          refine gy_i2l (gi_rgS g153) dL_law_578 ?_
          refine gx_bE e (fun _ g154 e => ?_)
          refine gx_bE e (fun _ g155 e => ?_)
          refine gy_lcmp (gi_rgLS g154) (gi_rgLS g155) dL_law_579 ?_
          refine gx_bE e (fun _ g156 e => ?_)
          refine gx_iE e (fun c157 e => ?_) (fun c157 e => ?_)
          · refine gy_if_eq (tgt := 585) (gi_rgS g156) dL_law_580 (by decide) (fun _ => ?_) (fun z => absurd c157 z)
            refine gx_sub (ls2 := [(0, .ref 100000), (1, .ref v1), (2, .ref v2), (3, .ref v3), (4, .int (gI v4))]) [2, 3, 4, 5, 6] rfl ?_
            exact zb_L_law_585 (by show (kc + 1) + _ ≤ _; omega) (by show (ks + 6) + _ ≤ _; omega) hr23 e
          · refine gy_if_eq (tgt := 585) (gi_rgS g156) dL_law_580 (by decide) (fun z => absurd z c157) (fun _ => ?_)
            refine gy_iconst dL_law_583 ?_
            cases e
            exact gx_zret (by decide +kernel) dL_law_584 rfl ⟨by show (kc + 1) ≤ _; omega, by show (ks + 6) ≤ _; omega⟩ (fun z => by cases z)
        · refine gy_if_ne (tgt := 585) (gi_rgS g149) dL_law_570 (by decide) (fun _ => ?_) (fun z => absurd z c151)
          refine gx_sub (ls2 := [(0, .ref 100000), (1, .ref v1), (2, .ref v2), (3, .ref v3), (4, .int (gI v4))]) [2, 3, 4, 5, 6] rfl ?_
          exact zb_L_law_585 (by show (kc + 1) + _ ≤ _; omega) (by show (ks + 6) + _ ≤ _; omega) hr23 e
      · refine gy_icmp_eq (tgt := 568) (gi_rgS g148) (gi_rgS g149) dL_law_563 (by decide) (fun z => absurd z c150) (fun _ => ?_)
        refine gy_iconst dL_law_566 ?_
        cases e
        exact gx_zret (by decide +kernel) dL_law_567 rfl ⟨by show (kc + 1) ≤ _; omega, by show (ks + 6) ≤ _; omega⟩ (fun z => by cases z)
    refine gx_iE e (fun c158 e => ?_) (fun c158 e => ?_)
    · refine gy_tableIn (tgt := 588) (off := 549) (gi_rgS g14) dL_law_39 (by rw [c158]; decide) (by rw [c158]; decide) (by rw [c158]; rfl) (by decide) ?_
      refine gx_aload_n dL_law_588 rfl 1 rfl ?_
      refine gx_bE e (fun _ hu159 e => ?_)
      refine gx_bE e (fun q160 hq160 e => ?_)
      refine gx_callV (n := 0) (st := []) (As := []) (b := v1) dL_law_589 (z_X11_productions hq160) rfl ⟨rfl, gw_cw_X11_productions, gw_1, gp_X11_productions, ⟨Nat.le_of_ble_eq_true rfl, Nat.le_of_ble_eq_true rfl⟩⟩ (gi_isS hu159) (by decide) gw_388 gw_389 gw_390 rfl ⟨by show kc ≤ _; omega, by show ks ≤ _; omega⟩ (Nat.le_of_ble_eq_true rfl) (gy_k1 (x := .int (gI q160)) (kc2 := kc) (ks2 := ks) ⟨rfl, rfl⟩ ?_) gy_kn
      refine gx_aload_n dL_law_592 rfl 2 rfl ?_
      refine gx_bE e (fun _ hu161 e => ?_)
      refine gx_bE e (fun q162 hq162 e => ?_)
      refine gx_callV (n := 0) (st := [.int (gI q160)]) (As := []) (b := v2) dL_law_593 (z_X12_productions hq162) rfl ⟨rfl, gw_cw_X12_productions, gw_14, gp_X12_productions, ⟨Nat.le_of_ble_eq_true rfl, Nat.le_of_ble_eq_true rfl⟩⟩ (gi_isS hu161) (by decide) gw_1563 gw_1564 gw_1565 rfl ⟨by show kc ≤ _; omega, by show ks ≤ _; omega⟩ (Nat.le_of_ble_eq_true rfl) (gy_k1 (x := .int (gI q162.1)) (kc2 := kc) (ks2 := ks) ⟨rfl, rfl⟩ ?_) gy_kn
      refine gx_bE e (fun _ g163 e => ?_)
      refine gx_bE e (fun _ g164 e => ?_)
      refine gx_iE e (fun c165 e => ?_) (fun c165 e => ?_)
      · refine gy_icmp_eq (tgt := 1586) (gi_rgS g163) (gi_rgS g164) dL_law_596 (by decide) (fun _ => ?_) (fun z => absurd c165 z)
        exact zb_L_law_1586 (by show kc + _ ≤ _; omega) (by show ks + _ ≤ _; omega) hr23 e
      · refine gy_icmp_eq (tgt := 1586) (gi_rgS g163) (gi_rgS g164) dL_law_596 (by decide) (fun z => absurd z c165) (fun _ => ?_)
        refine gy_iconst dL_law_599 ?_
        cases e
        exact gx_zret (by decide +kernel) dL_law_600 rfl ⟨by show kc ≤ _; omega, by show ks ≤ _; omega⟩ (fun z => by cases z)
    refine gx_iE e (fun c166 e => ?_) (fun c166 e => ?_)
    · refine gy_tableIn (tgt := 601) (off := 562) (gi_rgS g14) dL_law_39 (by rw [c166]; decide) (by rw [c166]; decide) (by rw [c166]; rfl) (by decide) ?_
      refine gx_aload_n dL_law_601 rfl 1 rfl ?_
      refine gx_aload_n dL_law_602 rfl 0 rfl ?_
      refine gx_iload dL_law_603 4 rfl ?_
      refine gy_iconst dL_law_605 ?_
      refine gy_iadd dL_law_606 ?_
      refine gx_bE e (fun t167 ht167 e => ?_)
      refine gy_sld (L := L) (xs := xs) rfl ht167 dL_law_607 ?_
      refine gx_aload_n dL_law_608 rfl 3 rfl ?_
      refine gx_bE e (fun q168 hq168 e => ?_)
      refine gx_callSW (n := 3) (st := []) (As := [.ref v1, .int (gI t167), .ref v3]) dL_law_609 (z_L_left hq168) rfl ⟨(by decide +kernel), gw_cw_L_left, gw_0, gp_L_left, ⟨Nat.le_of_ble_eq_true rfl, Nat.le_of_ble_eq_true rfl⟩⟩ gw_1089 gw_1090 ⟨by show (kc + 1) ≤ _; omega, by show (ks + 6) ≤ _; omega⟩ (Nat.le_of_ble_eq_true rfl) (gy_k1 (x := .int (gI q168.1)) (kc2 := (kc + 1)) (ks2 := (ks + 6)) ⟨rfl, rfl⟩ ?_)
      refine gx_istore (ls2 := [(5, .int (gI q168.1)), (0, .ref 100000), (1, .ref v1), (2, .ref v2), (3, .ref v3), (4, .int (gI v4))]) dL_law_612 (Nat.le_of_ble_eq_true rfl) rfl ?_
      refine gx_aload_n dL_law_614 rfl 3 rfl ?_
      refine gx_aload_n dL_law_615 rfl 1 rfl ?_
      refine gx_iload dL_law_616 5 rfl ?_
      refine gy_iconst dL_law_618 ?_
      refine gy_iadd dL_law_619 ?_
      refine gx_bE e (fun t169 ht169 e => ?_)
      refine gy_sld (L := L) (xs := xs) rfl ht169 dL_law_620 ?_
      refine gx_bE e (fun _ hu170 e => ?_)
      refine gx_bE e (fun q171 hq171 e => ?_)
      refine gx_callV (n := 1) (st := []) (As := [.int (gI t169)]) (b := v2) dL_law_621 (z_X12_left hq171) rfl ⟨rfl, gw_cw_X12_left, gw_14, gp_X12_left, ⟨Nat.le_of_ble_eq_true rfl, Nat.le_of_ble_eq_true rfl⟩⟩ (gi_isS hu170) (by decide) gw_1567 gw_1568 gw_1569 rfl ⟨by show (kc + 1) ≤ _; omega, by show (ks + 6) ≤ _; omega⟩ (Nat.le_of_ble_eq_true rfl) (gy_k1 (x := .int (gI q171.1)) (kc2 := (kc + 1)) (ks2 := (ks + 6)) ⟨rfl, rfl⟩ ?_) gy_kn
      refine gx_istore (ls2 := [(6, .int (gI q171.1)), (5, .int (gI q168.1)), (0, .ref 100000), (1, .ref v1), (2, .ref v2), (3, .ref v3), (4, .int (gI v4))]) dL_law_624 (Nat.le_of_ble_eq_true rfl) rfl ?_
      refine gx_aload_n dL_law_626 rfl 4 rfl ?_
      refine gx_bE e (fun _ hu172 e => ?_)
      refine gx_bE e (fun q173 hq173 e => ?_)
      refine gx_callV (n := 0) (st := []) (As := []) (b := v2) dL_law_627 (z_X12_thrown hq173) rfl ⟨rfl, gw_cw_X12_thrown, gw_14, gp_X12_thrown, ⟨Nat.le_of_ble_eq_true rfl, Nat.le_of_ble_eq_true rfl⟩⟩ (gi_isS hu172) (by decide) gw_1463 gw_1464 gw_1465 rfl ⟨by show (kc + 1) ≤ _; omega, by show (ks + 6) ≤ _; omega⟩ (Nat.le_of_ble_eq_true rfl) (gy_k1 (x := .int (gI q173)) (kc2 := (kc + 1)) (ks2 := (ks + 6)) ⟨rfl, rfl⟩ ?_) gy_kn
      refine gx_iload dL_law_630 1 rfl ?_
      refine gx_bE e (fun _ g174 e => ?_)
      refine gx_bE e (fun _ g175 e => ?_)
      refine gx_iE e (fun c176 e => ?_) (fun c176 e => ?_)
      · refine gy_icmp_eq (tgt := 637) (gi_rgS g174) (gi_rgS g175) dL_law_632 (by decide) (fun _ => ?_) (fun z => absurd c176 z)
        refine gx_iload dL_law_637 1 rfl ?_
        refine gx_iE e (fun c177 e => ?_) (fun c177 e => ?_)
        · refine gy_if_ne (tgt := 654) (gi_rgS g175) dL_law_639 (by decide) (fun z => absurd c177 z) (fun _ => ?_)
          refine gx_aload_n dL_law_642 rfl 5 rfl ?_
          refine gy_iconst dL_law_643 ?_
          refine gx_bE e (fun t178 ht178 e => ?_)
          refine gy_l2 ht178 dL_law_644 ?_
          refine gx_iload dL_law_645 0 rfl ?_
          refine gx_bE e (fun _ g179 e => ?_)
          refine gy_i2l (gi_rgS g179) dL_law_647 ?_
          refine gx_bE e (fun _ g180 e => ?_)
          refine gx_bE e (fun _ g181 e => ?_)
          refine gy_lcmp (gi_rgLS g180) (gi_rgLS g181) dL_law_648 ?_
          refine gx_bE e (fun _ g182 e => ?_)
          refine gx_iE e (fun c183 e => ?_) (fun c183 e => ?_)
          · refine gy_if_eq (tgt := 654) (gi_rgS g182) dL_law_649 (by decide) (fun _ => ?_) (fun z => absurd c183 z)
            refine gx_sub (ls2 := [(0, .ref 100000), (1, .ref v1), (2, .ref v2), (3, .ref v3), (4, .int (gI v4))]) [2, 3, 4, 5, 6] rfl ?_
            exact zb_L_law_654 (by show (kc + 1) + _ ≤ _; omega) (by show (ks + 6) + _ ≤ _; omega) hr23 e
          · refine gy_if_eq (tgt := 654) (gi_rgS g182) dL_law_649 (by decide) (fun z => absurd z c183) (fun _ => ?_)
            refine gy_iconst dL_law_652 ?_
            cases e
            exact gx_zret (by decide +kernel) dL_law_653 rfl ⟨by show (kc + 1) ≤ _; omega, by show (ks + 6) ≤ _; omega⟩ (fun z => by cases z)
        · refine gy_if_ne (tgt := 654) (gi_rgS g175) dL_law_639 (by decide) (fun _ => ?_) (fun z => absurd z c177)
          refine gx_sub (ls2 := [(0, .ref 100000), (1, .ref v1), (2, .ref v2), (3, .ref v3), (4, .int (gI v4))]) [2, 3, 4, 5, 6] rfl ?_
          exact zb_L_law_654 (by show (kc + 1) + _ ≤ _; omega) (by show (ks + 6) + _ ≤ _; omega) hr23 e
      · refine gy_icmp_eq (tgt := 637) (gi_rgS g174) (gi_rgS g175) dL_law_632 (by decide) (fun z => absurd z c176) (fun _ => ?_)
        refine gy_iconst dL_law_635 ?_
        cases e
        exact gx_zret (by decide +kernel) dL_law_636 rfl ⟨by show (kc + 1) ≤ _; omega, by show (ks + 6) ≤ _; omega⟩ (fun z => by cases z)
    refine gx_iE e (fun c184 e => ?_) (fun c184 e => ?_)
    · refine gy_tableIn (tgt := 657) (off := 618) (gi_rgS g14) dL_law_39 (by rw [c184]; decide) (by rw [c184]; decide) (by rw [c184]; rfl) (by decide) ?_
      refine gx_aload_n dL_law_657 rfl 1 rfl ?_
      refine gx_aload_n dL_law_658 rfl 0 rfl ?_
      refine gx_iload dL_law_659 4 rfl ?_
      refine gy_iconst dL_law_661 ?_
      refine gy_iadd dL_law_662 ?_
      refine gx_bE e (fun t185 ht185 e => ?_)
      refine gy_sld (L := L) (xs := xs) rfl ht185 dL_law_663 ?_
      refine gx_aload_n dL_law_664 rfl 0 rfl ?_
      refine gx_iload dL_law_665 4 rfl ?_
      refine gy_iconst dL_law_667 ?_
      refine gy_iadd dL_law_668 ?_
      refine gx_bE e (fun t186 ht186 e => ?_)
      refine gy_sld (L := L) (xs := xs) rfl ht186 dL_law_669 ?_
      refine gx_aload_n dL_law_670 rfl 3 rfl ?_
      refine gx_bE e (fun q187 hq187 e => ?_)
      refine gx_callSW (n := 4) (st := []) (As := [.ref v1, .int (gI t185), .int (gI t186), .ref v3]) dL_law_671 (z_L_right hq187) rfl ⟨(by decide +kernel), gw_cw_L_right, gw_0, gp_L_right, ⟨Nat.le_of_ble_eq_true rfl, Nat.le_of_ble_eq_true rfl⟩⟩ gw_1098 gw_1099 ⟨by show (kc + 1) ≤ _; omega, by show (ks + 6) ≤ _; omega⟩ (Nat.le_of_ble_eq_true rfl) (gy_k1 (x := .int (gI q187.1)) (kc2 := (kc + 1)) (ks2 := (ks + 6)) ⟨rfl, rfl⟩ ?_)
      refine gx_istore (ls2 := [(5, .int (gI q187.1)), (0, .ref 100000), (1, .ref v1), (2, .ref v2), (3, .ref v3), (4, .int (gI v4))]) dL_law_674 (Nat.le_of_ble_eq_true rfl) rfl ?_
      refine gx_aload_n dL_law_676 rfl 3 rfl ?_
      refine gx_aload_n dL_law_677 rfl 1 rfl ?_
      refine gx_iload dL_law_678 5 rfl ?_
      refine gy_iconst dL_law_680 ?_
      refine gy_iadd dL_law_681 ?_
      refine gx_bE e (fun t188 ht188 e => ?_)
      refine gy_sld (L := L) (xs := xs) rfl ht188 dL_law_682 ?_
      refine gx_aload_n dL_law_683 rfl 1 rfl ?_
      refine gx_iload dL_law_684 5 rfl ?_
      refine gy_iconst dL_law_686 ?_
      refine gy_iadd dL_law_687 ?_
      refine gx_bE e (fun t189 ht189 e => ?_)
      refine gy_sld (L := L) (xs := xs) rfl ht189 dL_law_688 ?_
      refine gx_bE e (fun _ hu190 e => ?_)
      refine gx_bE e (fun q191 hq191 e => ?_)
      refine gx_callV (n := 2) (st := []) (As := [.int (gI t188), .int (gI t189)]) (b := v2) dL_law_689 (z_X12_right hq191) rfl ⟨rfl, gw_cw_X12_right, gw_14, gp_X12_right, ⟨Nat.le_of_ble_eq_true rfl, Nat.le_of_ble_eq_true rfl⟩⟩ (gi_isS hu190) (by decide) gw_1571 gw_1572 gw_1573 rfl ⟨by show (kc + 1) ≤ _; omega, by show (ks + 6) ≤ _; omega⟩ (Nat.le_of_ble_eq_true rfl) (gy_k1 (x := .int (gI q191.1)) (kc2 := (kc + 1)) (ks2 := (ks + 6)) ⟨rfl, rfl⟩ ?_) gy_kn
      refine gx_istore (ls2 := [(6, .int (gI q191.1)), (5, .int (gI q187.1)), (0, .ref 100000), (1, .ref v1), (2, .ref v2), (3, .ref v3), (4, .int (gI v4))]) dL_law_692 (Nat.le_of_ble_eq_true rfl) rfl ?_
      refine gx_aload_n dL_law_694 rfl 4 rfl ?_
      refine gx_bE e (fun _ hu192 e => ?_)
      refine gx_bE e (fun q193 hq193 e => ?_)
      refine gx_callV (n := 0) (st := []) (As := []) (b := v2) dL_law_695 (z_X12_thrown hq193) rfl ⟨rfl, gw_cw_X12_thrown, gw_14, gp_X12_thrown, ⟨Nat.le_of_ble_eq_true rfl, Nat.le_of_ble_eq_true rfl⟩⟩ (gi_isS hu192) (by decide) gw_1463 gw_1464 gw_1465 rfl ⟨by show (kc + 1) ≤ _; omega, by show (ks + 6) ≤ _; omega⟩ (Nat.le_of_ble_eq_true rfl) (gy_k1 (x := .int (gI q193)) (kc2 := (kc + 1)) (ks2 := (ks + 6)) ⟨rfl, rfl⟩ ?_) gy_kn
      refine gx_iload dL_law_698 1 rfl ?_
      refine gx_bE e (fun _ g194 e => ?_)
      refine gx_bE e (fun _ g195 e => ?_)
      refine gx_iE e (fun c196 e => ?_) (fun c196 e => ?_)
      · refine gy_icmp_eq (tgt := 705) (gi_rgS g194) (gi_rgS g195) dL_law_700 (by decide) (fun _ => ?_) (fun z => absurd c196 z)
        refine gx_iload dL_law_705 1 rfl ?_
        refine gx_iE e (fun c197 e => ?_) (fun c197 e => ?_)
        · refine gy_if_ne (tgt := 722) (gi_rgS g195) dL_law_707 (by decide) (fun z => absurd c197 z) (fun _ => ?_)
          refine gx_aload_n dL_law_710 rfl 5 rfl ?_
          refine gy_iconst dL_law_711 ?_
          refine gx_bE e (fun t198 ht198 e => ?_)
          refine gy_l2 ht198 dL_law_712 ?_
          refine gx_iload dL_law_713 0 rfl ?_
          refine gx_bE e (fun _ g199 e => ?_)
          refine gy_i2l (gi_rgS g199) dL_law_715 ?_
          refine gx_bE e (fun _ g200 e => ?_)
          refine gx_bE e (fun _ g201 e => ?_)
          refine gy_lcmp (gi_rgLS g200) (gi_rgLS g201) dL_law_716 ?_
          refine gx_bE e (fun _ g202 e => ?_)
          refine gx_iE e (fun c203 e => ?_) (fun c203 e => ?_)
          · refine gy_if_eq (tgt := 722) (gi_rgS g202) dL_law_717 (by decide) (fun _ => ?_) (fun z => absurd c203 z)
            refine gx_sub (ls2 := [(0, .ref 100000), (1, .ref v1), (2, .ref v2), (3, .ref v3), (4, .int (gI v4))]) [2, 3, 4, 5, 6] rfl ?_
            exact zb_L_law_722 (by show (kc + 1) + _ ≤ _; omega) (by show (ks + 6) + _ ≤ _; omega) hr23 e
          · refine gy_if_eq (tgt := 722) (gi_rgS g202) dL_law_717 (by decide) (fun z => absurd z c203) (fun _ => ?_)
            refine gy_iconst dL_law_720 ?_
            cases e
            exact gx_zret (by decide +kernel) dL_law_721 rfl ⟨by show (kc + 1) ≤ _; omega, by show (ks + 6) ≤ _; omega⟩ (fun z => by cases z)
        · refine gy_if_ne (tgt := 722) (gi_rgS g195) dL_law_707 (by decide) (fun _ => ?_) (fun z => absurd z c197)
          refine gx_sub (ls2 := [(0, .ref 100000), (1, .ref v1), (2, .ref v2), (3, .ref v3), (4, .int (gI v4))]) [2, 3, 4, 5, 6] rfl ?_
          exact zb_L_law_722 (by show (kc + 1) + _ ≤ _; omega) (by show (ks + 6) + _ ≤ _; omega) hr23 e
      · refine gy_icmp_eq (tgt := 705) (gi_rgS g194) (gi_rgS g195) dL_law_700 (by decide) (fun z => absurd z c196) (fun _ => ?_)
        refine gy_iconst dL_law_703 ?_
        cases e
        exact gx_zret (by decide +kernel) dL_law_704 rfl ⟨by show (kc + 1) ≤ _; omega, by show (ks + 6) ≤ _; omega⟩ (fun z => by cases z)
    refine gx_iE e (fun c204 e => ?_) (fun c204 e => ?_)
    · refine gy_tableIn (tgt := 725) (off := 686) (gi_rgS g14) dL_law_39 (by rw [c204]; decide) (by rw [c204]; decide) (by rw [c204]; rfl) (by decide) ?_
      refine gx_aload_n dL_law_725 rfl 1 rfl ?_
      refine gx_aload_n dL_law_726 rfl 0 rfl ?_
      refine gx_iload dL_law_727 4 rfl ?_
      refine gy_iconst dL_law_729 ?_
      refine gy_iadd dL_law_730 ?_
      refine gx_bE e (fun t205 ht205 e => ?_)
      refine gy_sld (L := L) (xs := xs) rfl ht205 dL_law_731 ?_
      refine gx_aload_n dL_law_732 rfl 3 rfl ?_
      refine gx_bE e (fun q206 hq206 e => ?_)
      refine gx_callSW (n := 3) (st := []) (As := [.ref v1, .int (gI t205), .ref v3]) dL_law_733 (z_L_isNullable hq206) rfl ⟨(by decide +kernel), gw_cw_L_isNullable, gw_0, gp_L_isNullable, ⟨Nat.le_of_ble_eq_true rfl, Nat.le_of_ble_eq_true rfl⟩⟩ gw_1107 gw_1108 ⟨by show (kc + 1) ≤ _; omega, by show (ks + 6) ≤ _; omega⟩ (Nat.le_of_ble_eq_true rfl) (gy_k1 (x := .int (gI q206.1)) (kc2 := (kc + 1)) (ks2 := (ks + 6)) ⟨rfl, rfl⟩ ?_)
      refine gx_istore (ls2 := [(5, .int (gI q206.1)), (0, .ref 100000), (1, .ref v1), (2, .ref v2), (3, .ref v3), (4, .int (gI v4))]) dL_law_736 (Nat.le_of_ble_eq_true rfl) rfl ?_
      refine gx_aload_n dL_law_738 rfl 3 rfl ?_
      refine gx_aload_n dL_law_739 rfl 1 rfl ?_
      refine gx_iload dL_law_740 5 rfl ?_
      refine gy_iconst dL_law_742 ?_
      refine gy_iadd dL_law_743 ?_
      refine gx_bE e (fun t207 ht207 e => ?_)
      refine gy_sld (L := L) (xs := xs) rfl ht207 dL_law_744 ?_
      refine gx_bE e (fun _ hu208 e => ?_)
      refine gx_bE e (fun q209 hq209 e => ?_)
      refine gx_callV (n := 1) (st := []) (As := [.int (gI t207)]) (b := v2) dL_law_745 (z_X12_isNullable hq209) rfl ⟨rfl, gw_cw_X12_isNullable, gw_14, gp_X12_isNullable, ⟨Nat.le_of_ble_eq_true rfl, Nat.le_of_ble_eq_true rfl⟩⟩ (gi_isS hu208) (by decide) gw_1583 gw_1584 gw_1585 rfl ⟨by show (kc + 1) ≤ _; omega, by show (ks + 6) ≤ _; omega⟩ (Nat.le_of_ble_eq_true rfl) (gy_k1 (x := .int (gI q209.1)) (kc2 := (kc + 1)) (ks2 := (ks + 6)) ⟨rfl, rfl⟩ ?_) gy_kn
      refine gx_istore (ls2 := [(6, .int (gI q209.1)), (5, .int (gI q206.1)), (0, .ref 100000), (1, .ref v1), (2, .ref v2), (3, .ref v3), (4, .int (gI v4))]) dL_law_748 (Nat.le_of_ble_eq_true rfl) rfl ?_
      refine gx_aload_n dL_law_750 rfl 4 rfl ?_
      refine gx_bE e (fun _ hu210 e => ?_)
      refine gx_bE e (fun q211 hq211 e => ?_)
      refine gx_callV (n := 0) (st := []) (As := []) (b := v2) dL_law_751 (z_X12_thrown hq211) rfl ⟨rfl, gw_cw_X12_thrown, gw_14, gp_X12_thrown, ⟨Nat.le_of_ble_eq_true rfl, Nat.le_of_ble_eq_true rfl⟩⟩ (gi_isS hu210) (by decide) gw_1463 gw_1464 gw_1465 rfl ⟨by show (kc + 1) ≤ _; omega, by show (ks + 6) ≤ _; omega⟩ (Nat.le_of_ble_eq_true rfl) (gy_k1 (x := .int (gI q211)) (kc2 := (kc + 1)) (ks2 := (ks + 6)) ⟨rfl, rfl⟩ ?_) gy_kn
      refine gx_iload dL_law_754 1 rfl ?_
      refine gx_bE e (fun _ g212 e => ?_)
      refine gx_bE e (fun _ g213 e => ?_)
      refine gx_iE e (fun c214 e => ?_) (fun c214 e => ?_)
      · refine gy_icmp_eq (tgt := 761) (gi_rgS g212) (gi_rgS g213) dL_law_756 (by decide) (fun _ => ?_) (fun z => absurd c214 z)
        refine gx_iload dL_law_761 1 rfl ?_
        refine gx_iE e (fun c215 e => ?_) (fun c215 e => ?_)
        · refine gy_if_ne (tgt := 785) (gi_rgS g213) dL_law_763 (by decide) (fun z => absurd c215 z) (fun _ => ?_)
          refine gx_aload_n dL_law_766 rfl 5 rfl ?_
          refine gy_iconst dL_law_767 ?_
          refine gx_bE e (fun t216 ht216 e => ?_)
          refine gy_l2 ht216 dL_law_768 ?_
          refine gx_iload dL_law_769 0 rfl ?_
          refine gx_bE e (fun _ g217 e => ?_)
          refine gx_iE e (fun c218 e => ?_) (fun c218 e => ?_)
          · refine gy_if_eq (tgt := 778) (gi_rgS g217) dL_law_771 (by decide) (fun _ => ?_) (fun z => absurd c218 z)
            refine gy_lconst (v := 0) dL_law_778 (by decide +kernel) ?_
            refine gx_sub (ls2 := [(0, .ref 100000), (1, .ref v1), (2, .ref v2), (3, .ref v3), (4, .int (gI v4))]) [2, 3, 4, 5, 6] rfl ?_
            exact zb_L_law_779 (by show (kc + 1) + _ ≤ _; omega) (by show (ks + 6) + _ ≤ _; omega) hr23 e
          · refine gy_if_eq (tgt := 778) (gi_rgS g217) dL_law_771 (by decide) (fun z => absurd z c218) (fun _ => ?_)
            refine gy_lconst (v := 1) dL_law_774 (by decide +kernel) ?_
            refine gx_goto (tgt := 779) dL_law_775 (by decide) ?_
            refine gx_sub (ls2 := [(0, .ref 100000), (1, .ref v1), (2, .ref v2), (3, .ref v3), (4, .int (gI v4))]) [2, 3, 4, 5, 6] rfl ?_
            exact zb_L_law_779 (by show (kc + 1) + _ ≤ _; omega) (by show (ks + 6) + _ ≤ _; omega) hr23 e
        · refine gy_if_ne (tgt := 785) (gi_rgS g213) dL_law_763 (by decide) (fun _ => ?_) (fun z => absurd z c215)
          refine gx_sub (ls2 := [(0, .ref 100000), (1, .ref v1), (2, .ref v2), (3, .ref v3), (4, .int (gI v4))]) [2, 3, 4, 5, 6] rfl ?_
          exact zb_L_law_785 (by show (kc + 1) + _ ≤ _; omega) (by show (ks + 6) + _ ≤ _; omega) hr23 e
      · refine gy_icmp_eq (tgt := 761) (gi_rgS g212) (gi_rgS g213) dL_law_756 (by decide) (fun z => absurd z c214) (fun _ => ?_)
        refine gy_iconst dL_law_759 ?_
        cases e
        exact gx_zret (by decide +kernel) dL_law_760 rfl ⟨by show (kc + 1) ≤ _; omega, by show (ks + 6) ≤ _; omega⟩ (fun z => by cases z)
    refine gx_iE e (fun c223 e => ?_) (fun c223 e => ?_)
    · refine gy_tableIn (tgt := 788) (off := 749) (gi_rgS g14) dL_law_39 (by rw [c223]; decide) (by rw [c223]; decide) (by rw [c223]; rfl) (by decide) ?_
      refine gx_aload_n dL_law_788 rfl 1 rfl ?_
      refine gx_aload_n dL_law_789 rfl 0 rfl ?_
      refine gx_iload dL_law_790 4 rfl ?_
      refine gy_iconst dL_law_792 ?_
      refine gy_iadd dL_law_793 ?_
      refine gx_bE e (fun t224 ht224 e => ?_)
      refine gy_sld (L := L) (xs := xs) rfl ht224 dL_law_794 ?_
      refine gx_aload_n dL_law_795 rfl 3 rfl ?_
      refine gx_bE e (fun q225 hq225 e => ?_)
      refine gx_callSW (n := 3) (st := []) (As := [.ref v1, .int (gI t224), .ref v3]) dL_law_796 (z_L_first hq225) rfl ⟨(by decide +kernel), gw_cw_L_first, gw_0, gp_L_first, ⟨Nat.le_of_ble_eq_true rfl, Nat.le_of_ble_eq_true rfl⟩⟩ gw_1121 gw_1122 ⟨by show (kc + 1) ≤ _; omega, by show (ks + 6) ≤ _; omega⟩ (Nat.le_of_ble_eq_true rfl) (gy_k1 (x := .int (gI q225.1)) (kc2 := (kc + 1)) (ks2 := (ks + 6)) ⟨rfl, rfl⟩ ?_)
      refine gx_istore (ls2 := [(5, .int (gI q225.1)), (0, .ref 100000), (1, .ref v1), (2, .ref v2), (3, .ref v3), (4, .int (gI v4))]) dL_law_799 (Nat.le_of_ble_eq_true rfl) rfl ?_
      refine gx_aload_n dL_law_801 rfl 3 rfl ?_
      refine gx_aload_n dL_law_802 rfl 1 rfl ?_
      refine gx_iload dL_law_803 5 rfl ?_
      refine gy_iconst dL_law_805 ?_
      refine gy_iadd dL_law_806 ?_
      refine gx_bE e (fun t226 ht226 e => ?_)
      refine gy_sld (L := L) (xs := xs) rfl ht226 dL_law_807 ?_
      refine gx_bE e (fun _ hu227 e => ?_)
      refine gx_bE e (fun q228 hq228 e => ?_)
      refine gx_callV (n := 1) (st := []) (As := [.int (gI t226)]) (b := v2) dL_law_808 (z_X12_first hq228) rfl ⟨rfl, gw_cw_X12_first, gw_14, gp_X12_first, ⟨Nat.le_of_ble_eq_true rfl, Nat.le_of_ble_eq_true rfl⟩⟩ (gi_isS hu227) (by decide) gw_1620 gw_1621 gw_1622 rfl ⟨by show (kc + 1) ≤ _; omega, by show (ks + 6) ≤ _; omega⟩ (Nat.le_of_ble_eq_true rfl) (gy_k1 (x := .int (gI q228.1)) (kc2 := (kc + 1)) (ks2 := (ks + 6)) ⟨rfl, rfl⟩ ?_) gy_kn
      refine gx_istore (ls2 := [(6, .int (gI q228.1)), (5, .int (gI q225.1)), (0, .ref 100000), (1, .ref v1), (2, .ref v2), (3, .ref v3), (4, .int (gI v4))]) dL_law_811 (Nat.le_of_ble_eq_true rfl) rfl ?_
      refine gx_aload_n dL_law_813 rfl 4 rfl ?_
      refine gx_bE e (fun _ hu229 e => ?_)
      refine gx_bE e (fun q230 hq230 e => ?_)
      refine gx_callV (n := 0) (st := []) (As := []) (b := v2) dL_law_814 (z_X12_thrown hq230) rfl ⟨rfl, gw_cw_X12_thrown, gw_14, gp_X12_thrown, ⟨Nat.le_of_ble_eq_true rfl, Nat.le_of_ble_eq_true rfl⟩⟩ (gi_isS hu229) (by decide) gw_1463 gw_1464 gw_1465 rfl ⟨by show (kc + 1) ≤ _; omega, by show (ks + 6) ≤ _; omega⟩ (Nat.le_of_ble_eq_true rfl) (gy_k1 (x := .int (gI q230)) (kc2 := (kc + 1)) (ks2 := (ks + 6)) ⟨rfl, rfl⟩ ?_) gy_kn
      refine gx_iload dL_law_817 1 rfl ?_
      refine gx_bE e (fun _ g231 e => ?_)
      refine gx_bE e (fun _ g232 e => ?_)
      refine gx_iE e (fun c233 e => ?_) (fun c233 e => ?_)
      · refine gy_icmp_eq (tgt := 824) (gi_rgS g231) (gi_rgS g232) dL_law_819 (by decide) (fun _ => ?_) (fun z => absurd c233 z)
        refine gx_iload dL_law_824 1 rfl ?_
        refine gx_iE e (fun c234 e => ?_) (fun c234 e => ?_)
        · refine gy_if_ne (tgt := 841) (gi_rgS g232) dL_law_826 (by decide) (fun z => absurd c234 z) (fun _ => ?_)
          refine gx_aload_n dL_law_829 rfl 5 rfl ?_
          refine gy_iconst dL_law_830 ?_
          refine gx_bE e (fun t235 ht235 e => ?_)
          refine gy_l2 ht235 dL_law_831 ?_
          refine gx_iload dL_law_832 0 rfl ?_
          refine gx_bE e (fun _ g236 e => ?_)
          refine gy_i2l (gi_rgS g236) dL_law_834 ?_
          refine gx_bE e (fun _ g237 e => ?_)
          refine gx_bE e (fun _ g238 e => ?_)
          refine gy_lcmp (gi_rgLS g237) (gi_rgLS g238) dL_law_835 ?_
          refine gx_bE e (fun _ g239 e => ?_)
          refine gx_iE e (fun c240 e => ?_) (fun c240 e => ?_)
          · refine gy_if_eq (tgt := 841) (gi_rgS g239) dL_law_836 (by decide) (fun _ => ?_) (fun z => absurd c240 z)
            refine gx_sub (ls2 := [(0, .ref 100000), (1, .ref v1), (2, .ref v2), (3, .ref v3), (4, .int (gI v4))]) [2, 3, 4, 5, 6] rfl ?_
            exact zb_L_law_841 (by show (kc + 1) + _ ≤ _; omega) (by show (ks + 6) + _ ≤ _; omega) hr23 e
          · refine gy_if_eq (tgt := 841) (gi_rgS g239) dL_law_836 (by decide) (fun z => absurd z c240) (fun _ => ?_)
            refine gy_iconst dL_law_839 ?_
            cases e
            exact gx_zret (by decide +kernel) dL_law_840 rfl ⟨by show (kc + 1) ≤ _; omega, by show (ks + 6) ≤ _; omega⟩ (fun z => by cases z)
        · refine gy_if_ne (tgt := 841) (gi_rgS g232) dL_law_826 (by decide) (fun _ => ?_) (fun z => absurd z c234)
          refine gx_sub (ls2 := [(0, .ref 100000), (1, .ref v1), (2, .ref v2), (3, .ref v3), (4, .int (gI v4))]) [2, 3, 4, 5, 6] rfl ?_
          exact zb_L_law_841 (by show (kc + 1) + _ ≤ _; omega) (by show (ks + 6) + _ ≤ _; omega) hr23 e
      · refine gy_icmp_eq (tgt := 824) (gi_rgS g231) (gi_rgS g232) dL_law_819 (by decide) (fun z => absurd z c233) (fun _ => ?_)
        refine gy_iconst dL_law_822 ?_
        cases e
        exact gx_zret (by decide +kernel) dL_law_823 rfl ⟨by show (kc + 1) ≤ _; omega, by show (ks + 6) ≤ _; omega⟩ (fun z => by cases z)
    refine gx_iE e (fun c241 e => ?_) (fun c241 e => ?_)
    · refine gy_tableIn (tgt := 844) (off := 805) (gi_rgS g14) dL_law_39 (by rw [c241]; decide) (by rw [c241]; decide) (by rw [c241]; rfl) (by decide) ?_
      refine gx_aload_n dL_law_844 rfl 1 rfl ?_
      refine gx_aload_n dL_law_845 rfl 0 rfl ?_
      refine gx_iload dL_law_846 4 rfl ?_
      refine gy_iconst dL_law_848 ?_
      refine gy_iadd dL_law_849 ?_
      refine gx_bE e (fun t242 ht242 e => ?_)
      refine gy_sld (L := L) (xs := xs) rfl ht242 dL_law_850 ?_
      refine gx_aload_n dL_law_851 rfl 3 rfl ?_
      refine gx_bE e (fun q243 hq243 e => ?_)
      refine gx_callSW (n := 3) (st := []) (As := [.ref v1, .int (gI t242), .ref v3]) dL_law_852 (z_L_follow hq243) rfl ⟨(by decide +kernel), gw_cw_L_follow, gw_0, gp_L_follow, ⟨Nat.le_of_ble_eq_true rfl, Nat.le_of_ble_eq_true rfl⟩⟩ gw_1132 gw_1133 ⟨by show (kc + 1) ≤ _; omega, by show (ks + 6) ≤ _; omega⟩ (Nat.le_of_ble_eq_true rfl) (gy_k1 (x := .int (gI q243.1)) (kc2 := (kc + 1)) (ks2 := (ks + 6)) ⟨rfl, rfl⟩ ?_)
      refine gx_istore (ls2 := [(5, .int (gI q243.1)), (0, .ref 100000), (1, .ref v1), (2, .ref v2), (3, .ref v3), (4, .int (gI v4))]) dL_law_855 (Nat.le_of_ble_eq_true rfl) rfl ?_
      refine gx_aload_n dL_law_857 rfl 3 rfl ?_
      refine gx_aload_n dL_law_858 rfl 1 rfl ?_
      refine gx_iload dL_law_859 5 rfl ?_
      refine gy_iconst dL_law_861 ?_
      refine gy_iadd dL_law_862 ?_
      refine gx_bE e (fun t244 ht244 e => ?_)
      refine gy_sld (L := L) (xs := xs) rfl ht244 dL_law_863 ?_
      refine gx_bE e (fun _ hu245 e => ?_)
      refine gx_bE e (fun q246 hq246 e => ?_)
      refine gx_callV (n := 1) (st := []) (As := [.int (gI t244)]) (b := v2) dL_law_864 (z_X12_follow hq246) rfl ⟨rfl, gw_cw_X12_follow, gw_14, gp_X12_follow, ⟨Nat.le_of_ble_eq_true rfl, Nat.le_of_ble_eq_true rfl⟩⟩ (gi_isS hu245) (by decide) gw_1624 gw_1625 gw_1626 rfl ⟨by show (kc + 1) ≤ _; omega, by show (ks + 6) ≤ _; omega⟩ (Nat.le_of_ble_eq_true rfl) (gy_k1 (x := .int (gI q246.1)) (kc2 := (kc + 1)) (ks2 := (ks + 6)) ⟨rfl, rfl⟩ ?_) gy_kn
      refine gx_istore (ls2 := [(6, .int (gI q246.1)), (5, .int (gI q243.1)), (0, .ref 100000), (1, .ref v1), (2, .ref v2), (3, .ref v3), (4, .int (gI v4))]) dL_law_867 (Nat.le_of_ble_eq_true rfl) rfl ?_
      refine gx_aload_n dL_law_869 rfl 4 rfl ?_
      refine gx_bE e (fun _ hu247 e => ?_)
      refine gx_bE e (fun q248 hq248 e => ?_)
      refine gx_callV (n := 0) (st := []) (As := []) (b := v2) dL_law_870 (z_X12_thrown hq248) rfl ⟨rfl, gw_cw_X12_thrown, gw_14, gp_X12_thrown, ⟨Nat.le_of_ble_eq_true rfl, Nat.le_of_ble_eq_true rfl⟩⟩ (gi_isS hu247) (by decide) gw_1463 gw_1464 gw_1465 rfl ⟨by show (kc + 1) ≤ _; omega, by show (ks + 6) ≤ _; omega⟩ (Nat.le_of_ble_eq_true rfl) (gy_k1 (x := .int (gI q248)) (kc2 := (kc + 1)) (ks2 := (ks + 6)) ⟨rfl, rfl⟩ ?_) gy_kn
      refine gx_iload dL_law_873 1 rfl ?_
      refine gx_bE e (fun _ g249 e => ?_)
      refine gx_bE e (fun _ g250 e => ?_)
      refine gx_iE e (fun c251 e => ?_) (fun c251 e => ?_)
      · refine gy_icmp_eq (tgt := 880) (gi_rgS g249) (gi_rgS g250) dL_law_875 (by decide) (fun _ => ?_) (fun z => absurd c251 z)
        refine gx_iload dL_law_880 1 rfl ?_
        refine gx_iE e (fun c252 e => ?_) (fun c252 e => ?_)
        · refine gy_if_ne (tgt := 897) (gi_rgS g250) dL_law_882 (by decide) (fun z => absurd c252 z) (fun _ => ?_)
          refine gx_aload_n dL_law_885 rfl 5 rfl ?_
          refine gy_iconst dL_law_886 ?_
          refine gx_bE e (fun t253 ht253 e => ?_)
          refine gy_l2 ht253 dL_law_887 ?_
          refine gx_iload dL_law_888 0 rfl ?_
          refine gx_bE e (fun _ g254 e => ?_)
          refine gy_i2l (gi_rgS g254) dL_law_890 ?_
          refine gx_bE e (fun _ g255 e => ?_)
          refine gx_bE e (fun _ g256 e => ?_)
          refine gy_lcmp (gi_rgLS g255) (gi_rgLS g256) dL_law_891 ?_
          refine gx_bE e (fun _ g257 e => ?_)
          refine gx_iE e (fun c258 e => ?_) (fun c258 e => ?_)
          · refine gy_if_eq (tgt := 897) (gi_rgS g257) dL_law_892 (by decide) (fun _ => ?_) (fun z => absurd c258 z)
            refine gx_sub (ls2 := [(0, .ref 100000), (1, .ref v1), (2, .ref v2), (3, .ref v3), (4, .int (gI v4))]) [2, 3, 4, 5, 6] rfl ?_
            exact zb_L_law_897 (by show (kc + 1) + _ ≤ _; omega) (by show (ks + 6) + _ ≤ _; omega) hr23 e
          · refine gy_if_eq (tgt := 897) (gi_rgS g257) dL_law_892 (by decide) (fun z => absurd z c258) (fun _ => ?_)
            refine gy_iconst dL_law_895 ?_
            cases e
            exact gx_zret (by decide +kernel) dL_law_896 rfl ⟨by show (kc + 1) ≤ _; omega, by show (ks + 6) ≤ _; omega⟩ (fun z => by cases z)
        · refine gy_if_ne (tgt := 897) (gi_rgS g250) dL_law_882 (by decide) (fun _ => ?_) (fun z => absurd z c252)
          refine gx_sub (ls2 := [(0, .ref 100000), (1, .ref v1), (2, .ref v2), (3, .ref v3), (4, .int (gI v4))]) [2, 3, 4, 5, 6] rfl ?_
          exact zb_L_law_897 (by show (kc + 1) + _ ≤ _; omega) (by show (ks + 6) + _ ≤ _; omega) hr23 e
      · refine gy_icmp_eq (tgt := 880) (gi_rgS g249) (gi_rgS g250) dL_law_875 (by decide) (fun z => absurd z c251) (fun _ => ?_)
        refine gy_iconst dL_law_878 ?_
        cases e
        exact gx_zret (by decide +kernel) dL_law_879 rfl ⟨by show (kc + 1) ≤ _; omega, by show (ks + 6) ≤ _; omega⟩ (fun z => by cases z)
    refine gx_iE e (fun c259 e => ?_) (fun c259 e => ?_)
    · refine gy_tableIn (tgt := 900) (off := 861) (gi_rgS g14) dL_law_39 (by rw [c259]; decide) (by rw [c259]; decide) (by rw [c259]; rfl) (by decide) ?_
      refine gx_aload_n dL_law_900 rfl 1 rfl ?_
      refine gx_aload_n dL_law_901 rfl 0 rfl ?_
      refine gx_iload dL_law_902 4 rfl ?_
      refine gy_iconst dL_law_904 ?_
      refine gy_iadd dL_law_905 ?_
      refine gx_bE e (fun t260 ht260 e => ?_)
      refine gy_sld (L := L) (xs := xs) rfl ht260 dL_law_906 ?_
      refine gx_aload_n dL_law_907 rfl 3 rfl ?_
      refine gx_bE e (fun q261 hq261 e => ?_)
      refine gx_callSW (n := 3) (st := []) (As := [.ref v1, .int (gI t260), .ref v3]) dL_law_908 (z_L_uses hq261) rfl ⟨(by decide +kernel), gw_cw_L_uses, gw_0, gp_L_uses, ⟨Nat.le_of_ble_eq_true rfl, Nat.le_of_ble_eq_true rfl⟩⟩ gw_1140 gw_1141 ⟨by show (kc + 1) ≤ _; omega, by show (ks + 6) ≤ _; omega⟩ (Nat.le_of_ble_eq_true rfl) (gy_k1 (x := .int (gI q261.1)) (kc2 := (kc + 1)) (ks2 := (ks + 6)) ⟨rfl, rfl⟩ ?_)
      refine gx_istore (ls2 := [(5, .int (gI q261.1)), (0, .ref 100000), (1, .ref v1), (2, .ref v2), (3, .ref v3), (4, .int (gI v4))]) dL_law_911 (Nat.le_of_ble_eq_true rfl) rfl ?_
      refine gx_aload_n dL_law_913 rfl 3 rfl ?_
      refine gx_aload_n dL_law_914 rfl 1 rfl ?_
      refine gx_iload dL_law_915 5 rfl ?_
      refine gy_iconst dL_law_917 ?_
      refine gy_iadd dL_law_918 ?_
      refine gx_bE e (fun t262 ht262 e => ?_)
      refine gy_sld (L := L) (xs := xs) rfl ht262 dL_law_919 ?_
      refine gx_bE e (fun _ hu263 e => ?_)
      refine gx_bE e (fun q264 hq264 e => ?_)
      refine gx_callV (n := 1) (st := []) (As := [.int (gI t262)]) (b := v2) dL_law_920 (z_X12_uses hq264) rfl ⟨rfl, gw_cw_X12_uses, gw_14, gp_X12_uses, ⟨Nat.le_of_ble_eq_true rfl, Nat.le_of_ble_eq_true rfl⟩⟩ (gi_isS hu263) (by decide) gw_1628 gw_1629 gw_1630 rfl ⟨by show (kc + 1) ≤ _; omega, by show (ks + 6) ≤ _; omega⟩ (Nat.le_of_ble_eq_true rfl) (gy_k1 (x := .int (gI q264.1)) (kc2 := (kc + 1)) (ks2 := (ks + 6)) ⟨rfl, rfl⟩ ?_) gy_kn
      refine gx_istore (ls2 := [(6, .int (gI q264.1)), (5, .int (gI q261.1)), (0, .ref 100000), (1, .ref v1), (2, .ref v2), (3, .ref v3), (4, .int (gI v4))]) dL_law_923 (Nat.le_of_ble_eq_true rfl) rfl ?_
      refine gx_aload_n dL_law_925 rfl 4 rfl ?_
      refine gx_bE e (fun _ hu265 e => ?_)
      refine gx_bE e (fun q266 hq266 e => ?_)
      refine gx_callV (n := 0) (st := []) (As := []) (b := v2) dL_law_926 (z_X12_thrown hq266) rfl ⟨rfl, gw_cw_X12_thrown, gw_14, gp_X12_thrown, ⟨Nat.le_of_ble_eq_true rfl, Nat.le_of_ble_eq_true rfl⟩⟩ (gi_isS hu265) (by decide) gw_1463 gw_1464 gw_1465 rfl ⟨by show (kc + 1) ≤ _; omega, by show (ks + 6) ≤ _; omega⟩ (Nat.le_of_ble_eq_true rfl) (gy_k1 (x := .int (gI q266)) (kc2 := (kc + 1)) (ks2 := (ks + 6)) ⟨rfl, rfl⟩ ?_) gy_kn
      refine gx_iload dL_law_929 1 rfl ?_
      refine gx_bE e (fun _ g267 e => ?_)
      refine gx_bE e (fun _ g268 e => ?_)
      refine gx_iE e (fun c269 e => ?_) (fun c269 e => ?_)
      · refine gy_icmp_eq (tgt := 936) (gi_rgS g267) (gi_rgS g268) dL_law_931 (by decide) (fun _ => ?_) (fun z => absurd c269 z)
        refine gx_iload dL_law_936 1 rfl ?_
        refine gx_iE e (fun c270 e => ?_) (fun c270 e => ?_)
        · refine gy_if_ne (tgt := 953) (gi_rgS g268) dL_law_938 (by decide) (fun z => absurd c270 z) (fun _ => ?_)
          refine gx_aload_n dL_law_941 rfl 5 rfl ?_
          refine gy_iconst dL_law_942 ?_
          refine gx_bE e (fun t271 ht271 e => ?_)
          refine gy_l2 ht271 dL_law_943 ?_
          refine gx_iload dL_law_944 0 rfl ?_
          refine gx_bE e (fun _ g272 e => ?_)
          refine gy_i2l (gi_rgS g272) dL_law_946 ?_
          refine gx_bE e (fun _ g273 e => ?_)
          refine gx_bE e (fun _ g274 e => ?_)
          refine gy_lcmp (gi_rgLS g273) (gi_rgLS g274) dL_law_947 ?_
          refine gx_bE e (fun _ g275 e => ?_)
          refine gx_iE e (fun c276 e => ?_) (fun c276 e => ?_)
          · refine gy_if_eq (tgt := 953) (gi_rgS g275) dL_law_948 (by decide) (fun _ => ?_) (fun z => absurd c276 z)
            refine gx_sub (ls2 := [(0, .ref 100000), (1, .ref v1), (2, .ref v2), (3, .ref v3), (4, .int (gI v4))]) [2, 3, 4, 5, 6] rfl ?_
            exact zb_L_law_953 (by show (kc + 1) + _ ≤ _; omega) (by show (ks + 6) + _ ≤ _; omega) hr23 e
          · refine gy_if_eq (tgt := 953) (gi_rgS g275) dL_law_948 (by decide) (fun z => absurd z c276) (fun _ => ?_)
            refine gy_iconst dL_law_951 ?_
            cases e
            exact gx_zret (by decide +kernel) dL_law_952 rfl ⟨by show (kc + 1) ≤ _; omega, by show (ks + 6) ≤ _; omega⟩ (fun z => by cases z)
        · refine gy_if_ne (tgt := 953) (gi_rgS g268) dL_law_938 (by decide) (fun _ => ?_) (fun z => absurd z c270)
          refine gx_sub (ls2 := [(0, .ref 100000), (1, .ref v1), (2, .ref v2), (3, .ref v3), (4, .int (gI v4))]) [2, 3, 4, 5, 6] rfl ?_
          exact zb_L_law_953 (by show (kc + 1) + _ ≤ _; omega) (by show (ks + 6) + _ ≤ _; omega) hr23 e
      · refine gy_icmp_eq (tgt := 936) (gi_rgS g267) (gi_rgS g268) dL_law_931 (by decide) (fun z => absurd z c269) (fun _ => ?_)
        refine gy_iconst dL_law_934 ?_
        cases e
        exact gx_zret (by decide +kernel) dL_law_935 rfl ⟨by show (kc + 1) ≤ _; omega, by show (ks + 6) ≤ _; omega⟩ (fun z => by cases z)
    refine gx_iE e (fun c277 e => ?_) (fun c277 e => ?_)
    · refine gy_tableIn (tgt := 956) (off := 917) (gi_rgS g14) dL_law_39 (by rw [c277]; decide) (by rw [c277]; decide) (by rw [c277]; rfl) (by decide) ?_
      refine gx_aload_n dL_law_956 rfl 1 rfl ?_
      refine gx_aload_n dL_law_957 rfl 0 rfl ?_
      refine gx_iload dL_law_958 4 rfl ?_
      refine gy_iconst dL_law_960 ?_
      refine gy_iadd dL_law_961 ?_
      refine gx_bE e (fun t278 ht278 e => ?_)
      refine gy_sld (L := L) (xs := xs) rfl ht278 dL_law_962 ?_
      refine gx_aload_n dL_law_963 rfl 3 rfl ?_
      refine gx_bE e (fun q279 hq279 e => ?_)
      refine gx_callSW (n := 3) (st := []) (As := [.ref v1, .int (gI t278), .ref v3]) dL_law_964 (z_L_isLeftRecursive hq279) rfl ⟨(by decide +kernel), gw_cw_L_isLeftRecursive, gw_0, gp_L_isLeftRecursive, ⟨Nat.le_of_ble_eq_true rfl, Nat.le_of_ble_eq_true rfl⟩⟩ gw_1151 gw_1152 ⟨by show (kc + 1) ≤ _; omega, by show (ks + 6) ≤ _; omega⟩ (Nat.le_of_ble_eq_true rfl) (gy_k1 (x := .int (gI q279.1)) (kc2 := (kc + 1)) (ks2 := (ks + 6)) ⟨rfl, rfl⟩ ?_)
      refine gx_istore (ls2 := [(5, .int (gI q279.1)), (0, .ref 100000), (1, .ref v1), (2, .ref v2), (3, .ref v3), (4, .int (gI v4))]) dL_law_967 (Nat.le_of_ble_eq_true rfl) rfl ?_
      refine gx_aload_n dL_law_969 rfl 3 rfl ?_
      refine gx_aload_n dL_law_970 rfl 1 rfl ?_
      refine gx_iload dL_law_971 5 rfl ?_
      refine gy_iconst dL_law_973 ?_
      refine gy_iadd dL_law_974 ?_
      refine gx_bE e (fun t280 ht280 e => ?_)
      refine gy_sld (L := L) (xs := xs) rfl ht280 dL_law_975 ?_
      refine gx_bE e (fun _ hu281 e => ?_)
      refine gx_bE e (fun q282 hq282 e => ?_)
      refine gx_callV (n := 1) (st := []) (As := [.int (gI t280)]) (b := v2) dL_law_976 (z_X12_isLeftRecursive hq282) rfl ⟨rfl, gw_cw_X12_isLeftRecursive, gw_14, gp_X12_isLeftRecursive, ⟨Nat.le_of_ble_eq_true rfl, Nat.le_of_ble_eq_true rfl⟩⟩ (gi_isS hu281) (by decide) gw_1632 gw_1633 gw_1634 rfl ⟨by show (kc + 1) ≤ _; omega, by show (ks + 6) ≤ _; omega⟩ (Nat.le_of_ble_eq_true rfl) (gy_k1 (x := .int (gI q282.1)) (kc2 := (kc + 1)) (ks2 := (ks + 6)) ⟨rfl, rfl⟩ ?_) gy_kn
      refine gx_istore (ls2 := [(6, .int (gI q282.1)), (5, .int (gI q279.1)), (0, .ref 100000), (1, .ref v1), (2, .ref v2), (3, .ref v3), (4, .int (gI v4))]) dL_law_979 (Nat.le_of_ble_eq_true rfl) rfl ?_
      refine gx_aload_n dL_law_981 rfl 4 rfl ?_
      refine gx_bE e (fun _ hu283 e => ?_)
      refine gx_bE e (fun q284 hq284 e => ?_)
      refine gx_callV (n := 0) (st := []) (As := []) (b := v2) dL_law_982 (z_X12_thrown hq284) rfl ⟨rfl, gw_cw_X12_thrown, gw_14, gp_X12_thrown, ⟨Nat.le_of_ble_eq_true rfl, Nat.le_of_ble_eq_true rfl⟩⟩ (gi_isS hu283) (by decide) gw_1463 gw_1464 gw_1465 rfl ⟨by show (kc + 1) ≤ _; omega, by show (ks + 6) ≤ _; omega⟩ (Nat.le_of_ble_eq_true rfl) (gy_k1 (x := .int (gI q284)) (kc2 := (kc + 1)) (ks2 := (ks + 6)) ⟨rfl, rfl⟩ ?_) gy_kn
      refine gx_iload dL_law_985 1 rfl ?_
      refine gx_bE e (fun _ g285 e => ?_)
      refine gx_bE e (fun _ g286 e => ?_)
      refine gx_iE e (fun c287 e => ?_) (fun c287 e => ?_)
      · refine gy_icmp_eq (tgt := 992) (gi_rgS g285) (gi_rgS g286) dL_law_987 (by decide) (fun _ => ?_) (fun z => absurd c287 z)
        refine gx_iload dL_law_992 1 rfl ?_
        refine gx_iE e (fun c288 e => ?_) (fun c288 e => ?_)
        · refine gy_if_ne (tgt := 1016) (gi_rgS g286) dL_law_994 (by decide) (fun z => absurd c288 z) (fun _ => ?_)
          refine gx_aload_n dL_law_997 rfl 5 rfl ?_
          refine gy_iconst dL_law_998 ?_
          refine gx_bE e (fun t289 ht289 e => ?_)
          refine gy_l2 ht289 dL_law_999 ?_
          refine gx_iload dL_law_1000 0 rfl ?_
          refine gx_bE e (fun _ g290 e => ?_)
          refine gx_iE e (fun c291 e => ?_) (fun c291 e => ?_)
          · refine gy_if_eq (tgt := 1009) (gi_rgS g290) dL_law_1002 (by decide) (fun _ => ?_) (fun z => absurd c291 z)
            refine gy_lconst (v := 0) dL_law_1009 (by decide +kernel) ?_
            refine gx_sub (ls2 := [(0, .ref 100000), (1, .ref v1), (2, .ref v2), (3, .ref v3), (4, .int (gI v4))]) [2, 3, 4, 5, 6] rfl ?_
            exact zb_L_law_1010 (by show (kc + 1) + _ ≤ _; omega) (by show (ks + 6) + _ ≤ _; omega) hr23 e
          · refine gy_if_eq (tgt := 1009) (gi_rgS g290) dL_law_1002 (by decide) (fun z => absurd z c291) (fun _ => ?_)
            refine gy_lconst (v := 1) dL_law_1005 (by decide +kernel) ?_
            refine gx_goto (tgt := 1010) dL_law_1006 (by decide) ?_
            refine gx_sub (ls2 := [(0, .ref 100000), (1, .ref v1), (2, .ref v2), (3, .ref v3), (4, .int (gI v4))]) [2, 3, 4, 5, 6] rfl ?_
            exact zb_L_law_1010 (by show (kc + 1) + _ ≤ _; omega) (by show (ks + 6) + _ ≤ _; omega) hr23 e
        · refine gy_if_ne (tgt := 1016) (gi_rgS g286) dL_law_994 (by decide) (fun _ => ?_) (fun z => absurd z c288)
          refine gx_sub (ls2 := [(0, .ref 100000), (1, .ref v1), (2, .ref v2), (3, .ref v3), (4, .int (gI v4))]) [2, 3, 4, 5, 6] rfl ?_
          exact zb_L_law_1016 (by show (kc + 1) + _ ≤ _; omega) (by show (ks + 6) + _ ≤ _; omega) hr23 e
      · refine gy_icmp_eq (tgt := 992) (gi_rgS g285) (gi_rgS g286) dL_law_987 (by decide) (fun z => absurd z c287) (fun _ => ?_)
        refine gy_iconst dL_law_990 ?_
        cases e
        exact gx_zret (by decide +kernel) dL_law_991 rfl ⟨by show (kc + 1) ≤ _; omega, by show (ks + 6) ≤ _; omega⟩ (fun z => by cases z)
    refine gx_iE e (fun c296 e => ?_) (fun c296 e => ?_)
    · refine gy_tableIn (tgt := 1019) (off := 980) (gi_rgS g14) dL_law_39 (by rw [c296]; decide) (by rw [c296]; decide) (by rw [c296]; rfl) (by decide) ?_
      refine gx_aload_n dL_law_1019 rfl 1 rfl ?_
      refine gx_aload_n dL_law_1020 rfl 0 rfl ?_
      refine gx_iload dL_law_1021 4 rfl ?_
      refine gy_iconst dL_law_1023 ?_
      refine gy_iadd dL_law_1024 ?_
      refine gx_bE e (fun t297 ht297 e => ?_)
      refine gy_sld (L := L) (xs := xs) rfl ht297 dL_law_1025 ?_
      refine gx_aload_n dL_law_1026 rfl 3 rfl ?_
      refine gx_bE e (fun q298 hq298 e => ?_)
      refine gx_callSW (n := 3) (st := []) (As := [.ref v1, .int (gI t297), .ref v3]) dL_law_1027 (z_L_shortest hq298) rfl ⟨(by decide +kernel), gw_cw_L_shortest, gw_0, gp_L_shortest, ⟨Nat.le_of_ble_eq_true rfl, Nat.le_of_ble_eq_true rfl⟩⟩ gw_1162 gw_1163 ⟨by show (kc + 1) ≤ _; omega, by show (ks + 6) ≤ _; omega⟩ (Nat.le_of_ble_eq_true rfl) (gy_k1 (x := .int (gI q298.1)) (kc2 := (kc + 1)) (ks2 := (ks + 6)) ⟨rfl, rfl⟩ ?_)
      refine gx_istore (ls2 := [(5, .int (gI q298.1)), (0, .ref 100000), (1, .ref v1), (2, .ref v2), (3, .ref v3), (4, .int (gI v4))]) dL_law_1030 (Nat.le_of_ble_eq_true rfl) rfl ?_
      refine gx_aload_n dL_law_1032 rfl 3 rfl ?_
      refine gx_aload_n dL_law_1033 rfl 1 rfl ?_
      refine gx_iload dL_law_1034 5 rfl ?_
      refine gy_iconst dL_law_1036 ?_
      refine gy_iadd dL_law_1037 ?_
      refine gx_bE e (fun t299 ht299 e => ?_)
      refine gy_sld (L := L) (xs := xs) rfl ht299 dL_law_1038 ?_
      refine gx_bE e (fun _ hu300 e => ?_)
      refine gx_bE e (fun q301 hq301 e => ?_)
      refine gx_callV (n := 1) (st := []) (As := [.int (gI t299)]) (b := v2) dL_law_1039 (z_X12_shortest hq301) rfl ⟨rfl, gw_cw_X12_shortest, gw_14, gp_X12_shortest, ⟨Nat.le_of_ble_eq_true rfl, Nat.le_of_ble_eq_true rfl⟩⟩ (gi_isS hu300) (by decide) gw_1636 gw_1637 gw_1638 rfl ⟨by show (kc + 1) ≤ _; omega, by show (ks + 6) ≤ _; omega⟩ (Nat.le_of_ble_eq_true rfl) (gy_k1 (x := .int (gI q301.1)) (kc2 := (kc + 1)) (ks2 := (ks + 6)) ⟨rfl, rfl⟩ ?_) gy_kn
      refine gx_istore (ls2 := [(6, .int (gI q301.1)), (5, .int (gI q298.1)), (0, .ref 100000), (1, .ref v1), (2, .ref v2), (3, .ref v3), (4, .int (gI v4))]) dL_law_1042 (Nat.le_of_ble_eq_true rfl) rfl ?_
      refine gx_aload_n dL_law_1044 rfl 4 rfl ?_
      refine gx_bE e (fun _ hu302 e => ?_)
      refine gx_bE e (fun q303 hq303 e => ?_)
      refine gx_callV (n := 0) (st := []) (As := []) (b := v2) dL_law_1045 (z_X12_thrown hq303) rfl ⟨rfl, gw_cw_X12_thrown, gw_14, gp_X12_thrown, ⟨Nat.le_of_ble_eq_true rfl, Nat.le_of_ble_eq_true rfl⟩⟩ (gi_isS hu302) (by decide) gw_1463 gw_1464 gw_1465 rfl ⟨by show (kc + 1) ≤ _; omega, by show (ks + 6) ≤ _; omega⟩ (Nat.le_of_ble_eq_true rfl) (gy_k1 (x := .int (gI q303)) (kc2 := (kc + 1)) (ks2 := (ks + 6)) ⟨rfl, rfl⟩ ?_) gy_kn
      refine gx_iload dL_law_1048 1 rfl ?_
      refine gx_bE e (fun _ g304 e => ?_)
      refine gx_bE e (fun _ g305 e => ?_)
      refine gx_iE e (fun c306 e => ?_) (fun c306 e => ?_)
      · refine gy_icmp_eq (tgt := 1055) (gi_rgS g304) (gi_rgS g305) dL_law_1050 (by decide) (fun _ => ?_) (fun z => absurd c306 z)
        refine gx_iload dL_law_1055 1 rfl ?_
        refine gx_iE e (fun c307 e => ?_) (fun c307 e => ?_)
        · refine gy_if_ne (tgt := 1072) (gi_rgS g305) dL_law_1057 (by decide) (fun z => absurd c307 z) (fun _ => ?_)
          refine gx_aload_n dL_law_1060 rfl 5 rfl ?_
          refine gy_iconst dL_law_1061 ?_
          refine gx_bE e (fun t308 ht308 e => ?_)
          refine gy_l2 ht308 dL_law_1062 ?_
          refine gx_iload dL_law_1063 0 rfl ?_
          refine gx_bE e (fun _ g309 e => ?_)
          refine gy_i2l (gi_rgS g309) dL_law_1065 ?_
          refine gx_bE e (fun _ g310 e => ?_)
          refine gx_bE e (fun _ g311 e => ?_)
          refine gy_lcmp (gi_rgLS g310) (gi_rgLS g311) dL_law_1066 ?_
          refine gx_bE e (fun _ g312 e => ?_)
          refine gx_iE e (fun c313 e => ?_) (fun c313 e => ?_)
          · refine gy_if_eq (tgt := 1072) (gi_rgS g312) dL_law_1067 (by decide) (fun _ => ?_) (fun z => absurd c313 z)
            refine gx_sub (ls2 := [(0, .ref 100000), (1, .ref v1), (2, .ref v2), (3, .ref v3), (4, .int (gI v4))]) [2, 3, 4, 5, 6] rfl ?_
            exact zb_L_law_1072 (by show (kc + 1) + _ ≤ _; omega) (by show (ks + 6) + _ ≤ _; omega) hr23 e
          · refine gy_if_eq (tgt := 1072) (gi_rgS g312) dL_law_1067 (by decide) (fun z => absurd z c313) (fun _ => ?_)
            refine gy_iconst dL_law_1070 ?_
            cases e
            exact gx_zret (by decide +kernel) dL_law_1071 rfl ⟨by show (kc + 1) ≤ _; omega, by show (ks + 6) ≤ _; omega⟩ (fun z => by cases z)
        · refine gy_if_ne (tgt := 1072) (gi_rgS g305) dL_law_1057 (by decide) (fun _ => ?_) (fun z => absurd z c307)
          refine gx_sub (ls2 := [(0, .ref 100000), (1, .ref v1), (2, .ref v2), (3, .ref v3), (4, .int (gI v4))]) [2, 3, 4, 5, 6] rfl ?_
          exact zb_L_law_1072 (by show (kc + 1) + _ ≤ _; omega) (by show (ks + 6) + _ ≤ _; omega) hr23 e
      · refine gy_icmp_eq (tgt := 1055) (gi_rgS g304) (gi_rgS g305) dL_law_1050 (by decide) (fun z => absurd z c306) (fun _ => ?_)
        refine gy_iconst dL_law_1053 ?_
        cases e
        exact gx_zret (by decide +kernel) dL_law_1054 rfl ⟨by show (kc + 1) ≤ _; omega, by show (ks + 6) ≤ _; omega⟩ (fun z => by cases z)
    refine gx_iE e (fun c314 e => ?_) (fun c314 e => ?_)
    · refine gy_tableIn (tgt := 1075) (off := 1036) (gi_rgS g14) dL_law_39 (by rw [c314]; decide) (by rw [c314]; decide) (by rw [c314]; rfl) (by decide) ?_
      refine gx_aload_n dL_law_1075 rfl 1 rfl ?_
      refine gx_aload_n dL_law_1076 rfl 0 rfl ?_
      refine gx_iload dL_law_1077 4 rfl ?_
      refine gy_iconst dL_law_1079 ?_
      refine gy_iadd dL_law_1080 ?_
      refine gx_bE e (fun t315 ht315 e => ?_)
      refine gy_sld (L := L) (xs := xs) rfl ht315 dL_law_1081 ?_
      refine gx_aload_n dL_law_1082 rfl 0 rfl ?_
      refine gx_iload dL_law_1083 4 rfl ?_
      refine gy_iconst dL_law_1085 ?_
      refine gy_iadd dL_law_1086 ?_
      refine gx_bE e (fun t316 ht316 e => ?_)
      refine gy_sld (L := L) (xs := xs) rfl ht316 dL_law_1087 ?_
      refine gx_aload_n dL_law_1088 rfl 3 rfl ?_
      refine gx_bE e (fun q317 hq317 e => ?_)
      refine gx_callSW (n := 4) (st := []) (As := [.ref v1, .int (gI t315), .int (gI t316), .ref v3]) dL_law_1089 (z_L_sentence hq317) rfl ⟨(by decide +kernel), gw_cw_L_sentence, gw_0, gp_L_sentence, ⟨Nat.le_of_ble_eq_true rfl, Nat.le_of_ble_eq_true rfl⟩⟩ gw_1170 gw_1171 ⟨by show (kc + 2) ≤ _; omega, by show (ks + 12) ≤ _; omega⟩ (Nat.le_of_ble_eq_true rfl) (gy_k1 (x := .int (gI q317.1)) (kc2 := (kc + 2)) (ks2 := (ks + 12)) ⟨rfl, rfl⟩ ?_)
      refine gx_istore (ls2 := [(5, .int (gI q317.1)), (0, .ref 100000), (1, .ref v1), (2, .ref v2), (3, .ref v3), (4, .int (gI v4))]) dL_law_1092 (Nat.le_of_ble_eq_true rfl) rfl ?_
      refine gx_aload_n dL_law_1094 rfl 3 rfl ?_
      refine gx_aload_n dL_law_1095 rfl 1 rfl ?_
      refine gx_iload dL_law_1096 5 rfl ?_
      refine gy_iconst dL_law_1098 ?_
      refine gy_iadd dL_law_1099 ?_
      refine gx_bE e (fun t318 ht318 e => ?_)
      refine gy_sld (L := L) (xs := xs) rfl ht318 dL_law_1100 ?_
      refine gx_aload_n dL_law_1101 rfl 1 rfl ?_
      refine gx_iload dL_law_1102 5 rfl ?_
      refine gy_iconst dL_law_1104 ?_
      refine gy_iadd dL_law_1105 ?_
      refine gx_bE e (fun t319 ht319 e => ?_)
      refine gy_sld (L := L) (xs := xs) rfl ht319 dL_law_1106 ?_
      refine gx_bE e (fun _ hu320 e => ?_)
      refine gx_bE e (fun q321 hq321 e => ?_)
      refine gx_callV (n := 2) (st := []) (As := [.int (gI t318), .int (gI t319)]) (b := v2) dL_law_1107 (z_X12_sentence hq321) rfl ⟨rfl, gw_cw_X12_sentence, gw_14, gp_X12_sentence, ⟨Nat.le_of_ble_eq_true rfl, Nat.le_of_ble_eq_true rfl⟩⟩ (gi_isS hu320) (by decide) gw_1640 gw_1641 gw_1642 rfl ⟨by show (kc + 2) ≤ _; omega, by show (ks + 12) ≤ _; omega⟩ (Nat.le_of_ble_eq_true rfl) (gy_k1 (x := .int (gI q321.1)) (kc2 := (kc + 2)) (ks2 := (ks + 12)) ⟨rfl, rfl⟩ ?_) gy_kn
      refine gx_istore (ls2 := [(6, .int (gI q321.1)), (5, .int (gI q317.1)), (0, .ref 100000), (1, .ref v1), (2, .ref v2), (3, .ref v3), (4, .int (gI v4))]) dL_law_1110 (Nat.le_of_ble_eq_true rfl) rfl ?_
      refine gx_aload_n dL_law_1112 rfl 4 rfl ?_
      refine gx_bE e (fun _ hu322 e => ?_)
      refine gx_bE e (fun q323 hq323 e => ?_)
      refine gx_callV (n := 0) (st := []) (As := []) (b := v2) dL_law_1113 (z_X12_thrown hq323) rfl ⟨rfl, gw_cw_X12_thrown, gw_14, gp_X12_thrown, ⟨Nat.le_of_ble_eq_true rfl, Nat.le_of_ble_eq_true rfl⟩⟩ (gi_isS hu322) (by decide) gw_1463 gw_1464 gw_1465 rfl ⟨by show (kc + 2) ≤ _; omega, by show (ks + 12) ≤ _; omega⟩ (Nat.le_of_ble_eq_true rfl) (gy_k1 (x := .int (gI q323)) (kc2 := (kc + 2)) (ks2 := (ks + 12)) ⟨rfl, rfl⟩ ?_) gy_kn
      refine gx_iload dL_law_1116 1 rfl ?_
      refine gx_bE e (fun _ g324 e => ?_)
      refine gx_bE e (fun _ g325 e => ?_)
      refine gx_iE e (fun c326 e => ?_) (fun c326 e => ?_)
      · refine gy_icmp_eq (tgt := 1123) (gi_rgS g324) (gi_rgS g325) dL_law_1118 (by decide) (fun _ => ?_) (fun z => absurd c326 z)
        refine gx_iload dL_law_1123 1 rfl ?_
        refine gx_iE e (fun c327 e => ?_) (fun c327 e => ?_)
        · refine gy_if_ne (tgt := 1140) (gi_rgS g325) dL_law_1125 (by decide) (fun z => absurd c327 z) (fun _ => ?_)
          refine gx_aload_n dL_law_1128 rfl 5 rfl ?_
          refine gy_iconst dL_law_1129 ?_
          refine gx_bE e (fun t328 ht328 e => ?_)
          refine gy_l2 ht328 dL_law_1130 ?_
          refine gx_iload dL_law_1131 0 rfl ?_
          refine gx_bE e (fun _ g329 e => ?_)
          refine gy_i2l (gi_rgS g329) dL_law_1133 ?_
          refine gx_bE e (fun _ g330 e => ?_)
          refine gx_bE e (fun _ g331 e => ?_)
          refine gy_lcmp (gi_rgLS g330) (gi_rgLS g331) dL_law_1134 ?_
          refine gx_bE e (fun _ g332 e => ?_)
          refine gx_iE e (fun c333 e => ?_) (fun c333 e => ?_)
          · refine gy_if_eq (tgt := 1140) (gi_rgS g332) dL_law_1135 (by decide) (fun _ => ?_) (fun z => absurd c333 z)
            refine gx_sub (ls2 := [(0, .ref 100000), (1, .ref v1), (2, .ref v2), (3, .ref v3), (4, .int (gI v4))]) [2, 3, 4, 5, 6] rfl ?_
            exact zb_L_law_1140 (by show (kc + 2) + _ ≤ _; omega) (by show (ks + 12) + _ ≤ _; omega) hr23 e
          · refine gy_if_eq (tgt := 1140) (gi_rgS g332) dL_law_1135 (by decide) (fun z => absurd z c333) (fun _ => ?_)
            refine gy_iconst dL_law_1138 ?_
            cases e
            exact gx_zret (by decide +kernel) dL_law_1139 rfl ⟨by show (kc + 2) ≤ _; omega, by show (ks + 12) ≤ _; omega⟩ (fun z => by cases z)
        · refine gy_if_ne (tgt := 1140) (gi_rgS g325) dL_law_1125 (by decide) (fun _ => ?_) (fun z => absurd z c327)
          refine gx_sub (ls2 := [(0, .ref 100000), (1, .ref v1), (2, .ref v2), (3, .ref v3), (4, .int (gI v4))]) [2, 3, 4, 5, 6] rfl ?_
          exact zb_L_law_1140 (by show (kc + 2) + _ ≤ _; omega) (by show (ks + 12) + _ ≤ _; omega) hr23 e
      · refine gy_icmp_eq (tgt := 1123) (gi_rgS g324) (gi_rgS g325) dL_law_1118 (by decide) (fun z => absurd z c326) (fun _ => ?_)
        refine gy_iconst dL_law_1121 ?_
        cases e
        exact gx_zret (by decide +kernel) dL_law_1122 rfl ⟨by show (kc + 2) ≤ _; omega, by show (ks + 12) ≤ _; omega⟩ (fun z => by cases z)
    refine gx_iE e (fun c334 e => ?_) (fun c334 e => ?_)
    · refine gy_tableIn (tgt := 1143) (off := 1104) (gi_rgS g14) dL_law_39 (by rw [c334]; decide) (by rw [c334]; decide) (by rw [c334]; rfl) (by decide) ?_
      refine gx_aload_n dL_law_1143 rfl 1 rfl ?_
      refine gx_aload_n dL_law_1144 rfl 0 rfl ?_
      refine gx_iload dL_law_1145 4 rfl ?_
      refine gy_iconst dL_law_1147 ?_
      refine gy_iadd dL_law_1148 ?_
      refine gx_bE e (fun t335 ht335 e => ?_)
      refine gy_sld (L := L) (xs := xs) rfl ht335 dL_law_1149 ?_
      refine gx_aload_n dL_law_1150 rfl 3 rfl ?_
      refine gx_bE e (fun q336 hq336 e => ?_)
      refine gx_callSW (n := 3) (st := []) (As := [.ref v1, .int (gI t335), .ref v3]) dL_law_1151 (z_L_size hq336) rfl ⟨(by decide +kernel), gw_cw_L_size, gw_0, gp_L_size, ⟨Nat.le_of_ble_eq_true rfl, Nat.le_of_ble_eq_true rfl⟩⟩ gw_1183 gw_1184 ⟨by show (kc + 1) ≤ _; omega, by show (ks + 6) ≤ _; omega⟩ (Nat.le_of_ble_eq_true rfl) (gy_k1 (x := .int (gI q336.1)) (kc2 := (kc + 1)) (ks2 := (ks + 6)) ⟨rfl, rfl⟩ ?_)
      refine gx_istore (ls2 := [(5, .int (gI q336.1)), (0, .ref 100000), (1, .ref v1), (2, .ref v2), (3, .ref v3), (4, .int (gI v4))]) dL_law_1154 (Nat.le_of_ble_eq_true rfl) rfl ?_
      refine gx_aload_n dL_law_1156 rfl 3 rfl ?_
      refine gx_aload_n dL_law_1157 rfl 1 rfl ?_
      refine gx_iload dL_law_1158 5 rfl ?_
      refine gy_iconst dL_law_1160 ?_
      refine gy_iadd dL_law_1161 ?_
      refine gx_bE e (fun t337 ht337 e => ?_)
      refine gy_sld (L := L) (xs := xs) rfl ht337 dL_law_1162 ?_
      refine gx_bE e (fun _ hu338 e => ?_)
      refine gx_bE e (fun q339 hq339 e => ?_)
      refine gx_callV (n := 1) (st := []) (As := [.int (gI t337)]) (b := v2) dL_law_1163 (z_X12_size hq339) rfl ⟨rfl, gw_cw_X12_size, gw_14, gp_X12_size, ⟨Nat.le_of_ble_eq_true rfl, Nat.le_of_ble_eq_true rfl⟩⟩ (gi_isS hu338) (by decide) gw_1645 gw_1646 gw_1647 rfl ⟨by show (kc + 1) ≤ _; omega, by show (ks + 6) ≤ _; omega⟩ (Nat.le_of_ble_eq_true rfl) (gy_k1 (x := .int (gI q339.1)) (kc2 := (kc + 1)) (ks2 := (ks + 6)) ⟨rfl, rfl⟩ ?_) gy_kn
      refine gx_istore (ls2 := [(6, .int (gI q339.1)), (5, .int (gI q336.1)), (0, .ref 100000), (1, .ref v1), (2, .ref v2), (3, .ref v3), (4, .int (gI v4))]) dL_law_1166 (Nat.le_of_ble_eq_true rfl) rfl ?_
      refine gx_aload_n dL_law_1168 rfl 4 rfl ?_
      refine gx_bE e (fun _ hu340 e => ?_)
      refine gx_bE e (fun q341 hq341 e => ?_)
      refine gx_callV (n := 0) (st := []) (As := []) (b := v2) dL_law_1169 (z_X12_thrown hq341) rfl ⟨rfl, gw_cw_X12_thrown, gw_14, gp_X12_thrown, ⟨Nat.le_of_ble_eq_true rfl, Nat.le_of_ble_eq_true rfl⟩⟩ (gi_isS hu340) (by decide) gw_1463 gw_1464 gw_1465 rfl ⟨by show (kc + 1) ≤ _; omega, by show (ks + 6) ≤ _; omega⟩ (Nat.le_of_ble_eq_true rfl) (gy_k1 (x := .int (gI q341)) (kc2 := (kc + 1)) (ks2 := (ks + 6)) ⟨rfl, rfl⟩ ?_) gy_kn
      refine gx_iload dL_law_1172 1 rfl ?_
      refine gx_bE e (fun _ g342 e => ?_)
      refine gx_bE e (fun _ g343 e => ?_)
      refine gx_iE e (fun c344 e => ?_) (fun c344 e => ?_)
      · refine gy_icmp_eq (tgt := 1179) (gi_rgS g342) (gi_rgS g343) dL_law_1174 (by decide) (fun _ => ?_) (fun z => absurd c344 z)
        refine gx_iload dL_law_1179 1 rfl ?_
        refine gx_iE e (fun c345 e => ?_) (fun c345 e => ?_)
        · refine gy_if_ne (tgt := 1196) (gi_rgS g343) dL_law_1181 (by decide) (fun z => absurd c345 z) (fun _ => ?_)
          refine gx_aload_n dL_law_1184 rfl 5 rfl ?_
          refine gy_iconst dL_law_1185 ?_
          refine gx_bE e (fun t346 ht346 e => ?_)
          refine gy_l2 ht346 dL_law_1186 ?_
          refine gx_iload dL_law_1187 0 rfl ?_
          refine gx_bE e (fun _ g347 e => ?_)
          refine gy_i2l (gi_rgS g347) dL_law_1189 ?_
          refine gx_bE e (fun _ g348 e => ?_)
          refine gx_bE e (fun _ g349 e => ?_)
          refine gy_lcmp (gi_rgLS g348) (gi_rgLS g349) dL_law_1190 ?_
          refine gx_bE e (fun _ g350 e => ?_)
          refine gx_iE e (fun c351 e => ?_) (fun c351 e => ?_)
          · refine gy_if_eq (tgt := 1196) (gi_rgS g350) dL_law_1191 (by decide) (fun _ => ?_) (fun z => absurd c351 z)
            refine gx_sub (ls2 := [(0, .ref 100000), (1, .ref v1), (2, .ref v2), (3, .ref v3), (4, .int (gI v4))]) [2, 3, 4, 5, 6] rfl ?_
            exact zb_L_law_1196 (by show (kc + 1) + _ ≤ _; omega) (by show (ks + 6) + _ ≤ _; omega) hr23 e
          · refine gy_if_eq (tgt := 1196) (gi_rgS g350) dL_law_1191 (by decide) (fun z => absurd z c351) (fun _ => ?_)
            refine gy_iconst dL_law_1194 ?_
            cases e
            exact gx_zret (by decide +kernel) dL_law_1195 rfl ⟨by show (kc + 1) ≤ _; omega, by show (ks + 6) ≤ _; omega⟩ (fun z => by cases z)
        · refine gy_if_ne (tgt := 1196) (gi_rgS g343) dL_law_1181 (by decide) (fun _ => ?_) (fun z => absurd z c345)
          refine gx_sub (ls2 := [(0, .ref 100000), (1, .ref v1), (2, .ref v2), (3, .ref v3), (4, .int (gI v4))]) [2, 3, 4, 5, 6] rfl ?_
          exact zb_L_law_1196 (by show (kc + 1) + _ ≤ _; omega) (by show (ks + 6) + _ ≤ _; omega) hr23 e
      · refine gy_icmp_eq (tgt := 1179) (gi_rgS g342) (gi_rgS g343) dL_law_1174 (by decide) (fun z => absurd z c344) (fun _ => ?_)
        refine gy_iconst dL_law_1177 ?_
        cases e
        exact gx_zret (by decide +kernel) dL_law_1178 rfl ⟨by show (kc + 1) ≤ _; omega, by show (ks + 6) ≤ _; omega⟩ (fun z => by cases z)
    refine gx_iE e (fun c352 e => ?_) (fun c352 e => ?_)
    · refine gy_tableIn (tgt := 1199) (off := 1160) (gi_rgS g14) dL_law_39 (by rw [c352]; decide) (by rw [c352]; decide) (by rw [c352]; rfl) (by decide) ?_
      refine gx_aload_n dL_law_1199 rfl 1 rfl ?_
      refine gx_aload_n dL_law_1200 rfl 0 rfl ?_
      refine gx_iload dL_law_1201 4 rfl ?_
      refine gy_iconst dL_law_1203 ?_
      refine gy_iadd dL_law_1204 ?_
      refine gx_bE e (fun t353 ht353 e => ?_)
      refine gy_sld (L := L) (xs := xs) rfl ht353 dL_law_1205 ?_
      refine gx_aload_n dL_law_1206 rfl 3 rfl ?_
      refine gx_bE e (fun q354 hq354 e => ?_)
      refine gx_callSW (n := 3) (st := []) (As := [.ref v1, .int (gI t353), .ref v3]) dL_law_1207 (z_L_conflicts hq354) rfl ⟨(by decide +kernel), gw_cw_L_conflicts, gw_0, gp_L_conflicts, ⟨Nat.le_of_ble_eq_true rfl, Nat.le_of_ble_eq_true rfl⟩⟩ gw_1194 gw_1195 ⟨by show (kc + 1) ≤ _; omega, by show (ks + 6) ≤ _; omega⟩ (Nat.le_of_ble_eq_true rfl) (gy_k1 (x := .int (gI q354.1)) (kc2 := (kc + 1)) (ks2 := (ks + 6)) ⟨rfl, rfl⟩ ?_)
      refine gx_istore (ls2 := [(5, .int (gI q354.1)), (0, .ref 100000), (1, .ref v1), (2, .ref v2), (3, .ref v3), (4, .int (gI v4))]) dL_law_1210 (Nat.le_of_ble_eq_true rfl) rfl ?_
      refine gx_aload_n dL_law_1212 rfl 3 rfl ?_
      refine gx_aload_n dL_law_1213 rfl 1 rfl ?_
      refine gx_iload dL_law_1214 5 rfl ?_
      refine gy_iconst dL_law_1216 ?_
      refine gy_iadd dL_law_1217 ?_
      refine gx_bE e (fun t355 ht355 e => ?_)
      refine gy_sld (L := L) (xs := xs) rfl ht355 dL_law_1218 ?_
      refine gx_bE e (fun _ hu356 e => ?_)
      refine gx_bE e (fun q357 hq357 e => ?_)
      refine gx_callV (n := 1) (st := []) (As := [.int (gI t355)]) (b := v2) dL_law_1219 (z_X12_conflicts hq357) rfl ⟨rfl, gw_cw_X12_conflicts, gw_14, gp_X12_conflicts, ⟨Nat.le_of_ble_eq_true rfl, Nat.le_of_ble_eq_true rfl⟩⟩ (gi_isS hu356) (by decide) gw_1703 gw_1704 gw_1705 rfl ⟨by show (kc + 1) ≤ _; omega, by show (ks + 6) ≤ _; omega⟩ (Nat.le_of_ble_eq_true rfl) (gy_k1 (x := .int (gI q357.1)) (kc2 := (kc + 1)) (ks2 := (ks + 6)) ⟨rfl, rfl⟩ ?_) gy_kn
      refine gx_istore (ls2 := [(6, .int (gI q357.1)), (5, .int (gI q354.1)), (0, .ref 100000), (1, .ref v1), (2, .ref v2), (3, .ref v3), (4, .int (gI v4))]) dL_law_1222 (Nat.le_of_ble_eq_true rfl) rfl ?_
      refine gx_aload_n dL_law_1224 rfl 4 rfl ?_
      refine gx_bE e (fun _ hu358 e => ?_)
      refine gx_bE e (fun q359 hq359 e => ?_)
      refine gx_callV (n := 0) (st := []) (As := []) (b := v2) dL_law_1225 (z_X12_thrown hq359) rfl ⟨rfl, gw_cw_X12_thrown, gw_14, gp_X12_thrown, ⟨Nat.le_of_ble_eq_true rfl, Nat.le_of_ble_eq_true rfl⟩⟩ (gi_isS hu358) (by decide) gw_1463 gw_1464 gw_1465 rfl ⟨by show (kc + 1) ≤ _; omega, by show (ks + 6) ≤ _; omega⟩ (Nat.le_of_ble_eq_true rfl) (gy_k1 (x := .int (gI q359)) (kc2 := (kc + 1)) (ks2 := (ks + 6)) ⟨rfl, rfl⟩ ?_) gy_kn
      refine gx_iload dL_law_1228 1 rfl ?_
      refine gx_bE e (fun _ g360 e => ?_)
      refine gx_bE e (fun _ g361 e => ?_)
      refine gx_iE e (fun c362 e => ?_) (fun c362 e => ?_)
      · refine gy_icmp_eq (tgt := 1235) (gi_rgS g360) (gi_rgS g361) dL_law_1230 (by decide) (fun _ => ?_) (fun z => absurd c362 z)
        refine gx_iload dL_law_1235 1 rfl ?_
        refine gx_iE e (fun c363 e => ?_) (fun c363 e => ?_)
        · refine gy_if_ne (tgt := 1252) (gi_rgS g361) dL_law_1237 (by decide) (fun z => absurd c363 z) (fun _ => ?_)
          refine gx_aload_n dL_law_1240 rfl 5 rfl ?_
          refine gy_iconst dL_law_1241 ?_
          refine gx_bE e (fun t364 ht364 e => ?_)
          refine gy_l2 ht364 dL_law_1242 ?_
          refine gx_iload dL_law_1243 0 rfl ?_
          refine gx_bE e (fun _ g365 e => ?_)
          refine gy_i2l (gi_rgS g365) dL_law_1245 ?_
          refine gx_bE e (fun _ g366 e => ?_)
          refine gx_bE e (fun _ g367 e => ?_)
          refine gy_lcmp (gi_rgLS g366) (gi_rgLS g367) dL_law_1246 ?_
          refine gx_bE e (fun _ g368 e => ?_)
          refine gx_iE e (fun c369 e => ?_) (fun c369 e => ?_)
          · refine gy_if_eq (tgt := 1252) (gi_rgS g368) dL_law_1247 (by decide) (fun _ => ?_) (fun z => absurd c369 z)
            refine gx_sub (ls2 := [(0, .ref 100000), (1, .ref v1), (2, .ref v2), (3, .ref v3), (4, .int (gI v4))]) [2, 3, 4, 5, 6] rfl ?_
            exact zb_L_law_1252 (by show (kc + 1) + _ ≤ _; omega) (by show (ks + 6) + _ ≤ _; omega) hr23 e
          · refine gy_if_eq (tgt := 1252) (gi_rgS g368) dL_law_1247 (by decide) (fun z => absurd z c369) (fun _ => ?_)
            refine gy_iconst dL_law_1250 ?_
            cases e
            exact gx_zret (by decide +kernel) dL_law_1251 rfl ⟨by show (kc + 1) ≤ _; omega, by show (ks + 6) ≤ _; omega⟩ (fun z => by cases z)
        · refine gy_if_ne (tgt := 1252) (gi_rgS g361) dL_law_1237 (by decide) (fun _ => ?_) (fun z => absurd z c363)
          refine gx_sub (ls2 := [(0, .ref 100000), (1, .ref v1), (2, .ref v2), (3, .ref v3), (4, .int (gI v4))]) [2, 3, 4, 5, 6] rfl ?_
          exact zb_L_law_1252 (by show (kc + 1) + _ ≤ _; omega) (by show (ks + 6) + _ ≤ _; omega) hr23 e
      · refine gy_icmp_eq (tgt := 1235) (gi_rgS g360) (gi_rgS g361) dL_law_1230 (by decide) (fun z => absurd z c362) (fun _ => ?_)
        refine gy_iconst dL_law_1233 ?_
        cases e
        exact gx_zret (by decide +kernel) dL_law_1234 rfl ⟨by show (kc + 1) ≤ _; omega, by show (ks + 6) ≤ _; omega⟩ (fun z => by cases z)
    refine gx_iE e (fun c370 e => ?_) (fun c370 e => ?_)
    · refine gy_tableIn (tgt := 1255) (off := 1216) (gi_rgS g14) dL_law_39 (by rw [c370]; decide) (by rw [c370]; decide) (by rw [c370]; rfl) (by decide) ?_
      refine gx_aload_n dL_law_1255 rfl 1 rfl ?_
      refine gx_aload_n dL_law_1256 rfl 0 rfl ?_
      refine gx_iload dL_law_1257 4 rfl ?_
      refine gy_iconst dL_law_1259 ?_
      refine gy_iadd dL_law_1260 ?_
      refine gx_bE e (fun t371 ht371 e => ?_)
      refine gy_sld (L := L) (xs := xs) rfl ht371 dL_law_1261 ?_
      refine gx_aload_n dL_law_1262 rfl 3 rfl ?_
      refine gx_bE e (fun q372 hq372 e => ?_)
      refine gx_callSW (n := 3) (st := []) (As := [.ref v1, .int (gI t371), .ref v3]) dL_law_1263 (z_L_settled hq372) rfl ⟨(by decide +kernel), gw_cw_L_settled, gw_0, gp_L_settled, ⟨Nat.le_of_ble_eq_true rfl, Nat.le_of_ble_eq_true rfl⟩⟩ gw_1201 gw_1202 ⟨by show (kc + 1) ≤ _; omega, by show (ks + 6) ≤ _; omega⟩ (Nat.le_of_ble_eq_true rfl) (gy_k1 (x := .int (gI q372.1)) (kc2 := (kc + 1)) (ks2 := (ks + 6)) ⟨rfl, rfl⟩ ?_)
      refine gx_istore (ls2 := [(5, .int (gI q372.1)), (0, .ref 100000), (1, .ref v1), (2, .ref v2), (3, .ref v3), (4, .int (gI v4))]) dL_law_1266 (Nat.le_of_ble_eq_true rfl) rfl ?_
      refine gx_aload_n dL_law_1268 rfl 3 rfl ?_
      refine gx_aload_n dL_law_1269 rfl 1 rfl ?_
      refine gx_iload dL_law_1270 5 rfl ?_
      refine gy_iconst dL_law_1272 ?_
      refine gy_iadd dL_law_1273 ?_
      refine gx_bE e (fun t373 ht373 e => ?_)
      refine gy_sld (L := L) (xs := xs) rfl ht373 dL_law_1274 ?_
      refine gx_bE e (fun _ hu374 e => ?_)
      refine gx_bE e (fun q375 hq375 e => ?_)
      refine gx_callV (n := 1) (st := []) (As := [.int (gI t373)]) (b := v2) dL_law_1275 (z_X12_settled hq375) rfl ⟨rfl, gw_cw_X12_settled, gw_14, gp_X12_settled, ⟨Nat.le_of_ble_eq_true rfl, Nat.le_of_ble_eq_true rfl⟩⟩ (gi_isS hu374) (by decide) gw_1731 gw_1732 gw_1733 rfl ⟨by show (kc + 1) ≤ _; omega, by show (ks + 6) ≤ _; omega⟩ (Nat.le_of_ble_eq_true rfl) (gy_k1 (x := .int (gI q375.1)) (kc2 := (kc + 1)) (ks2 := (ks + 6)) ⟨rfl, rfl⟩ ?_) gy_kn
      refine gx_istore (ls2 := [(6, .int (gI q375.1)), (5, .int (gI q372.1)), (0, .ref 100000), (1, .ref v1), (2, .ref v2), (3, .ref v3), (4, .int (gI v4))]) dL_law_1278 (Nat.le_of_ble_eq_true rfl) rfl ?_
      refine gx_aload_n dL_law_1280 rfl 4 rfl ?_
      refine gx_bE e (fun _ hu376 e => ?_)
      refine gx_bE e (fun q377 hq377 e => ?_)
      refine gx_callV (n := 0) (st := []) (As := []) (b := v2) dL_law_1281 (z_X12_thrown hq377) rfl ⟨rfl, gw_cw_X12_thrown, gw_14, gp_X12_thrown, ⟨Nat.le_of_ble_eq_true rfl, Nat.le_of_ble_eq_true rfl⟩⟩ (gi_isS hu376) (by decide) gw_1463 gw_1464 gw_1465 rfl ⟨by show (kc + 1) ≤ _; omega, by show (ks + 6) ≤ _; omega⟩ (Nat.le_of_ble_eq_true rfl) (gy_k1 (x := .int (gI q377)) (kc2 := (kc + 1)) (ks2 := (ks + 6)) ⟨rfl, rfl⟩ ?_) gy_kn
      refine gx_iload dL_law_1284 1 rfl ?_
      refine gx_bE e (fun _ g378 e => ?_)
      refine gx_bE e (fun _ g379 e => ?_)
      refine gx_iE e (fun c380 e => ?_) (fun c380 e => ?_)
      · refine gy_icmp_eq (tgt := 1291) (gi_rgS g378) (gi_rgS g379) dL_law_1286 (by decide) (fun _ => ?_) (fun z => absurd c380 z)
        refine gx_iload dL_law_1291 1 rfl ?_
        refine gx_iE e (fun c381 e => ?_) (fun c381 e => ?_)
        · refine gy_if_ne (tgt := 1308) (gi_rgS g379) dL_law_1293 (by decide) (fun z => absurd c381 z) (fun _ => ?_)
          refine gx_aload_n dL_law_1296 rfl 5 rfl ?_
          refine gy_iconst dL_law_1297 ?_
          refine gx_bE e (fun t382 ht382 e => ?_)
          refine gy_l2 ht382 dL_law_1298 ?_
          refine gx_iload dL_law_1299 0 rfl ?_
          refine gx_bE e (fun _ g383 e => ?_)
          refine gy_i2l (gi_rgS g383) dL_law_1301 ?_
          refine gx_bE e (fun _ g384 e => ?_)
          refine gx_bE e (fun _ g385 e => ?_)
          refine gy_lcmp (gi_rgLS g384) (gi_rgLS g385) dL_law_1302 ?_
          refine gx_bE e (fun _ g386 e => ?_)
          refine gx_iE e (fun c387 e => ?_) (fun c387 e => ?_)
          · refine gy_if_eq (tgt := 1308) (gi_rgS g386) dL_law_1303 (by decide) (fun _ => ?_) (fun z => absurd c387 z)
            refine gx_sub (ls2 := [(0, .ref 100000), (1, .ref v1), (2, .ref v2), (3, .ref v3), (4, .int (gI v4))]) [2, 3, 4, 5, 6] rfl ?_
            exact zb_L_law_1308 (by show (kc + 1) + _ ≤ _; omega) (by show (ks + 6) + _ ≤ _; omega) hr23 e
          · refine gy_if_eq (tgt := 1308) (gi_rgS g386) dL_law_1303 (by decide) (fun z => absurd z c387) (fun _ => ?_)
            refine gy_iconst dL_law_1306 ?_
            cases e
            exact gx_zret (by decide +kernel) dL_law_1307 rfl ⟨by show (kc + 1) ≤ _; omega, by show (ks + 6) ≤ _; omega⟩ (fun z => by cases z)
        · refine gy_if_ne (tgt := 1308) (gi_rgS g379) dL_law_1293 (by decide) (fun _ => ?_) (fun z => absurd z c381)
          refine gx_sub (ls2 := [(0, .ref 100000), (1, .ref v1), (2, .ref v2), (3, .ref v3), (4, .int (gI v4))]) [2, 3, 4, 5, 6] rfl ?_
          exact zb_L_law_1308 (by show (kc + 1) + _ ≤ _; omega) (by show (ks + 6) + _ ≤ _; omega) hr23 e
      · refine gy_icmp_eq (tgt := 1291) (gi_rgS g378) (gi_rgS g379) dL_law_1286 (by decide) (fun z => absurd z c380) (fun _ => ?_)
        refine gy_iconst dL_law_1289 ?_
        cases e
        exact gx_zret (by decide +kernel) dL_law_1290 rfl ⟨by show (kc + 1) ≤ _; omega, by show (ks + 6) ≤ _; omega⟩ (fun z => by cases z)
    refine gx_iE e (fun c388 e => ?_) (fun c388 e => ?_)
    · refine gy_tableIn (tgt := 1311) (off := 1272) (gi_rgS g14) dL_law_39 (by rw [c388]; decide) (by rw [c388]; decide) (by rw [c388]; rfl) (by decide) ?_
      refine gx_aload_n dL_law_1311 rfl 1 rfl ?_
      refine gx_bE e (fun _ hu389 e => ?_)
      refine gx_bE e (fun q390 hq390 e => ?_)
      refine gx_callV (n := 0) (st := []) (As := []) (b := v1) dL_law_1312 (z_X11_chosen hq390) rfl ⟨rfl, gw_cw_X11_chosen, gw_1, gp_X11_chosen, ⟨Nat.le_of_ble_eq_true rfl, Nat.le_of_ble_eq_true rfl⟩⟩ (gi_isS hu389) (by decide) gw_396 gw_397 gw_398 rfl ⟨by show kc ≤ _; omega, by show ks ≤ _; omega⟩ (Nat.le_of_ble_eq_true rfl) (gy_k1 (x := .int (gI q390.1)) (kc2 := kc) (ks2 := ks) ⟨rfl, rfl⟩ ?_) gy_kn
      refine gx_aload_n dL_law_1315 rfl 2 rfl ?_
      refine gx_bE e (fun _ hu391 e => ?_)
      refine gx_bE e (fun q392 hq392 e => ?_)
      refine gx_callV (n := 0) (st := [.int (gI q390.1)]) (As := []) (b := v2) dL_law_1316 (z_X12_chosen hq392) rfl ⟨rfl, gw_cw_X12_chosen, gw_14, gp_X12_chosen, ⟨Nat.le_of_ble_eq_true rfl, Nat.le_of_ble_eq_true rfl⟩⟩ (gi_isS hu391) (by decide) gw_1735 gw_1736 gw_1737 rfl ⟨by show kc ≤ _; omega, by show ks ≤ _; omega⟩ (Nat.le_of_ble_eq_true rfl) (gy_k1 (x := .int (gI q392.1)) (kc2 := kc) (ks2 := ks) ⟨rfl, rfl⟩ ?_) gy_kn
      refine gx_bE e (fun _ g393 e => ?_)
      refine gx_bE e (fun _ g394 e => ?_)
      refine gx_iE e (fun c395 e => ?_) (fun c395 e => ?_)
      · refine gy_icmp_eq (tgt := 1586) (gi_rgS g393) (gi_rgS g394) dL_law_1319 (by decide) (fun _ => ?_) (fun z => absurd c395 z)
        exact zb_L_law_1586 (by show kc + _ ≤ _; omega) (by show ks + _ ≤ _; omega) hr23 e
      · refine gy_icmp_eq (tgt := 1586) (gi_rgS g393) (gi_rgS g394) dL_law_1319 (by decide) (fun z => absurd z c395) (fun _ => ?_)
        refine gy_iconst dL_law_1322 ?_
        cases e
        exact gx_zret (by decide +kernel) dL_law_1323 rfl ⟨by show kc ≤ _; omega, by show ks ≤ _; omega⟩ (fun z => by cases z)
    refine gx_iE e (fun c396 e => ?_) (fun c396 e => ?_)
    · refine gy_tableIn (tgt := 1324) (off := 1285) (gi_rgS g14) dL_law_39 (by rw [c396]; decide) (by rw [c396]; decide) (by rw [c396]; rfl) (by decide) ?_
      refine gx_aload_n dL_law_1324 rfl 1 rfl ?_
      refine gx_aload_n dL_law_1325 rfl 0 rfl ?_
      refine gx_iload dL_law_1326 4 rfl ?_
      refine gy_iconst dL_law_1328 ?_
      refine gy_iadd dL_law_1329 ?_
      refine gx_bE e (fun t397 ht397 e => ?_)
      refine gy_sld (L := L) (xs := xs) rfl ht397 dL_law_1330 ?_
      refine gx_aload_n dL_law_1331 rfl 0 rfl ?_
      refine gx_iload dL_law_1332 4 rfl ?_
      refine gy_iconst dL_law_1334 ?_
      refine gy_iadd dL_law_1335 ?_
      refine gx_bE e (fun t398 ht398 e => ?_)
      refine gy_sld (L := L) (xs := xs) rfl ht398 dL_law_1336 ?_
      refine gx_aload_n dL_law_1337 rfl 3 rfl ?_
      refine gx_bE e (fun q399 hq399 e => ?_)
      refine gx_callSW (n := 4) (st := []) (As := [.ref v1, .int (gI t397), .int (gI t398), .ref v3]) dL_law_1338 (z_L_put hq399) rfl ⟨(by decide +kernel), gw_cw_L_put, gw_0, gp_L_put, ⟨Nat.le_of_ble_eq_true rfl, Nat.le_of_ble_eq_true rfl⟩⟩ gw_1208 gw_1209 ⟨by show (kc + 1) ≤ _; omega, by show (ks + 6) ≤ _; omega⟩ (Nat.le_of_ble_eq_true rfl) (gy_k1 (x := .int (gI q399.1)) (kc2 := (kc + 1)) (ks2 := (ks + 6)) ⟨rfl, rfl⟩ ?_)
      refine gx_istore (ls2 := [(5, .int (gI q399.1)), (0, .ref 100000), (1, .ref v1), (2, .ref v2), (3, .ref v3), (4, .int (gI v4))]) dL_law_1341 (Nat.le_of_ble_eq_true rfl) rfl ?_
      refine gx_aload_n dL_law_1343 rfl 3 rfl ?_
      refine gx_aload_n dL_law_1344 rfl 1 rfl ?_
      refine gx_iload dL_law_1345 5 rfl ?_
      refine gy_iconst dL_law_1347 ?_
      refine gy_iadd dL_law_1348 ?_
      refine gx_bE e (fun t400 ht400 e => ?_)
      refine gy_sld (L := L) (xs := xs) rfl ht400 dL_law_1349 ?_
      refine gx_aload_n dL_law_1350 rfl 1 rfl ?_
      refine gx_iload dL_law_1351 5 rfl ?_
      refine gy_iconst dL_law_1353 ?_
      refine gy_iadd dL_law_1354 ?_
      refine gx_bE e (fun t401 ht401 e => ?_)
      refine gy_sld (L := L) (xs := xs) rfl ht401 dL_law_1355 ?_
      refine gx_bE e (fun _ hu402 e => ?_)
      refine gx_bE e (fun q403 hq403 e => ?_)
      refine gx_callV (n := 2) (st := []) (As := [.int (gI t400), .int (gI t401)]) (b := v2) dL_law_1356 (z_X12_put hq403) rfl ⟨rfl, gw_cw_X12_put, gw_14, gp_X12_put, ⟨Nat.le_of_ble_eq_true rfl, Nat.le_of_ble_eq_true rfl⟩⟩ (gi_isS hu402) (by decide) gw_1739 gw_1740 gw_1741 rfl ⟨by show (kc + 1) ≤ _; omega, by show (ks + 6) ≤ _; omega⟩ (Nat.le_of_ble_eq_true rfl) (gy_k1 (x := .int (gI q403.1)) (kc2 := (kc + 1)) (ks2 := (ks + 6)) ⟨rfl, rfl⟩ ?_) gy_kn
      refine gx_istore (ls2 := [(6, .int (gI q403.1)), (5, .int (gI q399.1)), (0, .ref 100000), (1, .ref v1), (2, .ref v2), (3, .ref v3), (4, .int (gI v4))]) dL_law_1359 (Nat.le_of_ble_eq_true rfl) rfl ?_
      refine gx_aload_n dL_law_1361 rfl 4 rfl ?_
      refine gx_bE e (fun _ hu404 e => ?_)
      refine gx_bE e (fun q405 hq405 e => ?_)
      refine gx_callV (n := 0) (st := []) (As := []) (b := v2) dL_law_1362 (z_X12_thrown hq405) rfl ⟨rfl, gw_cw_X12_thrown, gw_14, gp_X12_thrown, ⟨Nat.le_of_ble_eq_true rfl, Nat.le_of_ble_eq_true rfl⟩⟩ (gi_isS hu404) (by decide) gw_1463 gw_1464 gw_1465 rfl ⟨by show (kc + 1) ≤ _; omega, by show (ks + 6) ≤ _; omega⟩ (Nat.le_of_ble_eq_true rfl) (gy_k1 (x := .int (gI q405)) (kc2 := (kc + 1)) (ks2 := (ks + 6)) ⟨rfl, rfl⟩ ?_) gy_kn
      refine gx_iload dL_law_1365 1 rfl ?_
      refine gx_bE e (fun _ g406 e => ?_)
      refine gx_bE e (fun _ g407 e => ?_)
      refine gx_iE e (fun c408 e => ?_) (fun c408 e => ?_)
      · refine gy_icmp_eq (tgt := 1372) (gi_rgS g406) (gi_rgS g407) dL_law_1367 (by decide) (fun _ => ?_) (fun z => absurd c408 z)
        refine gx_iload dL_law_1372 1 rfl ?_
        refine gx_iE e (fun c409 e => ?_) (fun c409 e => ?_)
        · refine gy_if_ne (tgt := 1389) (gi_rgS g407) dL_law_1374 (by decide) (fun z => absurd c409 z) (fun _ => ?_)
          refine gx_aload_n dL_law_1377 rfl 5 rfl ?_
          refine gy_iconst dL_law_1378 ?_
          refine gx_bE e (fun t410 ht410 e => ?_)
          refine gy_l2 ht410 dL_law_1379 ?_
          refine gx_iload dL_law_1380 0 rfl ?_
          refine gx_bE e (fun _ g411 e => ?_)
          refine gy_i2l (gi_rgS g411) dL_law_1382 ?_
          refine gx_bE e (fun _ g412 e => ?_)
          refine gx_bE e (fun _ g413 e => ?_)
          refine gy_lcmp (gi_rgLS g412) (gi_rgLS g413) dL_law_1383 ?_
          refine gx_bE e (fun _ g414 e => ?_)
          refine gx_iE e (fun c415 e => ?_) (fun c415 e => ?_)
          · refine gy_if_eq (tgt := 1389) (gi_rgS g414) dL_law_1384 (by decide) (fun _ => ?_) (fun z => absurd c415 z)
            refine gx_sub (ls2 := [(0, .ref 100000), (1, .ref v1), (2, .ref v2), (3, .ref v3), (4, .int (gI v4))]) [2, 3, 4, 5, 6] rfl ?_
            exact zb_L_law_1389 (by show (kc + 1) + _ ≤ _; omega) (by show (ks + 6) + _ ≤ _; omega) hr23 e
          · refine gy_if_eq (tgt := 1389) (gi_rgS g414) dL_law_1384 (by decide) (fun z => absurd z c415) (fun _ => ?_)
            refine gy_iconst dL_law_1387 ?_
            cases e
            exact gx_zret (by decide +kernel) dL_law_1388 rfl ⟨by show (kc + 1) ≤ _; omega, by show (ks + 6) ≤ _; omega⟩ (fun z => by cases z)
        · refine gy_if_ne (tgt := 1389) (gi_rgS g407) dL_law_1374 (by decide) (fun _ => ?_) (fun z => absurd z c409)
          refine gx_sub (ls2 := [(0, .ref 100000), (1, .ref v1), (2, .ref v2), (3, .ref v3), (4, .int (gI v4))]) [2, 3, 4, 5, 6] rfl ?_
          exact zb_L_law_1389 (by show (kc + 1) + _ ≤ _; omega) (by show (ks + 6) + _ ≤ _; omega) hr23 e
      · refine gy_icmp_eq (tgt := 1372) (gi_rgS g406) (gi_rgS g407) dL_law_1367 (by decide) (fun z => absurd z c408) (fun _ => ?_)
        refine gy_iconst dL_law_1370 ?_
        cases e
        exact gx_zret (by decide +kernel) dL_law_1371 rfl ⟨by show (kc + 1) ≤ _; omega, by show (ks + 6) ≤ _; omega⟩ (fun z => by cases z)
    refine gx_iE e (fun c416 e => ?_) (fun c416 e => ?_)
    · refine gy_tableIn (tgt := 1392) (off := 1353) (gi_rgS g14) dL_law_39 (by rw [c416]; decide) (by rw [c416]; decide) (by rw [c416]; rfl) (by decide) ?_
      refine gx_aload_n dL_law_1392 rfl 1 rfl ?_
      refine gx_aload_n dL_law_1393 rfl 0 rfl ?_
      refine gx_iload dL_law_1394 4 rfl ?_
      refine gy_iconst dL_law_1396 ?_
      refine gy_iadd dL_law_1397 ?_
      refine gx_bE e (fun t417 ht417 e => ?_)
      refine gy_sld (L := L) (xs := xs) rfl ht417 dL_law_1398 ?_
      refine gx_aload_n dL_law_1399 rfl 3 rfl ?_
      refine gx_bE e (fun q418 hq418 e => ?_)
      refine gx_callSW (n := 3) (st := []) (As := [.ref v1, .int (gI t417), .ref v3]) dL_law_1400 (z_L_cut hq418) rfl ⟨(by decide +kernel), gw_cw_L_cut, gw_0, gp_L_cut, ⟨Nat.le_of_ble_eq_true rfl, Nat.le_of_ble_eq_true rfl⟩⟩ gw_1217 gw_1218 ⟨by show (kc + 1) ≤ _; omega, by show (ks + 6) ≤ _; omega⟩ (Nat.le_of_ble_eq_true rfl) (gy_k1 (x := .int (gI q418.1)) (kc2 := (kc + 1)) (ks2 := (ks + 6)) ⟨rfl, rfl⟩ ?_)
      refine gx_istore (ls2 := [(5, .int (gI q418.1)), (0, .ref 100000), (1, .ref v1), (2, .ref v2), (3, .ref v3), (4, .int (gI v4))]) dL_law_1403 (Nat.le_of_ble_eq_true rfl) rfl ?_
      refine gx_aload_n dL_law_1405 rfl 3 rfl ?_
      refine gx_aload_n dL_law_1406 rfl 1 rfl ?_
      refine gx_iload dL_law_1407 5 rfl ?_
      refine gy_iconst dL_law_1409 ?_
      refine gy_iadd dL_law_1410 ?_
      refine gx_bE e (fun t419 ht419 e => ?_)
      refine gy_sld (L := L) (xs := xs) rfl ht419 dL_law_1411 ?_
      refine gx_bE e (fun _ hu420 e => ?_)
      refine gx_bE e (fun q421 hq421 e => ?_)
      refine gx_callV (n := 1) (st := []) (As := [.int (gI t419)]) (b := v2) dL_law_1412 (z_X12_cut hq421) rfl ⟨rfl, gw_cw_X12_cut, gw_14, gp_X12_cut, ⟨Nat.le_of_ble_eq_true rfl, Nat.le_of_ble_eq_true rfl⟩⟩ (gi_isS hu420) (by decide) gw_1743 gw_1744 gw_1745 rfl ⟨by show (kc + 1) ≤ _; omega, by show (ks + 6) ≤ _; omega⟩ (Nat.le_of_ble_eq_true rfl) (gy_k1 (x := .int (gI q421.1)) (kc2 := (kc + 1)) (ks2 := (ks + 6)) ⟨rfl, rfl⟩ ?_) gy_kn
      refine gx_istore (ls2 := [(6, .int (gI q421.1)), (5, .int (gI q418.1)), (0, .ref 100000), (1, .ref v1), (2, .ref v2), (3, .ref v3), (4, .int (gI v4))]) dL_law_1415 (Nat.le_of_ble_eq_true rfl) rfl ?_
      refine gx_aload_n dL_law_1417 rfl 4 rfl ?_
      refine gx_bE e (fun _ hu422 e => ?_)
      refine gx_bE e (fun q423 hq423 e => ?_)
      refine gx_callV (n := 0) (st := []) (As := []) (b := v2) dL_law_1418 (z_X12_thrown hq423) rfl ⟨rfl, gw_cw_X12_thrown, gw_14, gp_X12_thrown, ⟨Nat.le_of_ble_eq_true rfl, Nat.le_of_ble_eq_true rfl⟩⟩ (gi_isS hu422) (by decide) gw_1463 gw_1464 gw_1465 rfl ⟨by show (kc + 1) ≤ _; omega, by show (ks + 6) ≤ _; omega⟩ (Nat.le_of_ble_eq_true rfl) (gy_k1 (x := .int (gI q423)) (kc2 := (kc + 1)) (ks2 := (ks + 6)) ⟨rfl, rfl⟩ ?_) gy_kn
      refine gx_iload dL_law_1421 1 rfl ?_
      refine gx_bE e (fun _ g424 e => ?_)
      refine gx_bE e (fun _ g425 e => ?_)
      refine gx_iE e (fun c426 e => ?_) (fun c426 e => ?_)
      · refine gy_icmp_eq (tgt := 1428) (gi_rgS g424) (gi_rgS g425) dL_law_1423 (by decide) (fun _ => ?_) (fun z => absurd c426 z)
        refine gx_iload dL_law_1428 1 rfl ?_
        refine gx_iE e (fun c427 e => ?_) (fun c427 e => ?_)
        · refine gy_if_ne (tgt := 1445) (gi_rgS g425) dL_law_1430 (by decide) (fun z => absurd c427 z) (fun _ => ?_)
          refine gx_aload_n dL_law_1433 rfl 5 rfl ?_
          refine gy_iconst dL_law_1434 ?_
          refine gx_bE e (fun t428 ht428 e => ?_)
          refine gy_l2 ht428 dL_law_1435 ?_
          refine gx_iload dL_law_1436 0 rfl ?_
          refine gx_bE e (fun _ g429 e => ?_)
          refine gy_i2l (gi_rgS g429) dL_law_1438 ?_
          refine gx_bE e (fun _ g430 e => ?_)
          refine gx_bE e (fun _ g431 e => ?_)
          refine gy_lcmp (gi_rgLS g430) (gi_rgLS g431) dL_law_1439 ?_
          refine gx_bE e (fun _ g432 e => ?_)
          refine gx_iE e (fun c433 e => ?_) (fun c433 e => ?_)
          · refine gy_if_eq (tgt := 1445) (gi_rgS g432) dL_law_1440 (by decide) (fun _ => ?_) (fun z => absurd c433 z)
            refine gx_sub (ls2 := [(0, .ref 100000), (1, .ref v1), (2, .ref v2), (3, .ref v3), (4, .int (gI v4))]) [2, 3, 4, 5, 6] rfl ?_
            exact zb_L_law_1445 (by show (kc + 1) + _ ≤ _; omega) (by show (ks + 6) + _ ≤ _; omega) hr23 e
          · refine gy_if_eq (tgt := 1445) (gi_rgS g432) dL_law_1440 (by decide) (fun z => absurd z c433) (fun _ => ?_)
            refine gy_iconst dL_law_1443 ?_
            cases e
            exact gx_zret (by decide +kernel) dL_law_1444 rfl ⟨by show (kc + 1) ≤ _; omega, by show (ks + 6) ≤ _; omega⟩ (fun z => by cases z)
        · refine gy_if_ne (tgt := 1445) (gi_rgS g425) dL_law_1430 (by decide) (fun _ => ?_) (fun z => absurd z c427)
          refine gx_sub (ls2 := [(0, .ref 100000), (1, .ref v1), (2, .ref v2), (3, .ref v3), (4, .int (gI v4))]) [2, 3, 4, 5, 6] rfl ?_
          exact zb_L_law_1445 (by show (kc + 1) + _ ≤ _; omega) (by show (ks + 6) + _ ≤ _; omega) hr23 e
      · refine gy_icmp_eq (tgt := 1428) (gi_rgS g424) (gi_rgS g425) dL_law_1423 (by decide) (fun z => absurd z c426) (fun _ => ?_)
        refine gy_iconst dL_law_1426 ?_
        cases e
        exact gx_zret (by decide +kernel) dL_law_1427 rfl ⟨by show (kc + 1) ≤ _; omega, by show (ks + 6) ≤ _; omega⟩ (fun z => by cases z)
    refine gx_iE e (fun c434 e => ?_) (fun c434 e => ?_)
    · refine gy_tableIn (tgt := 1448) (off := 1409) (gi_rgS g14) dL_law_39 (by rw [c434]; decide) (by rw [c434]; decide) (by rw [c434]; rfl) (by decide) ?_
      refine gx_aload_n dL_law_1448 rfl 1 rfl ?_
      refine gx_aload_n dL_law_1449 rfl 0 rfl ?_
      refine gx_iload dL_law_1450 4 rfl ?_
      refine gy_iconst dL_law_1452 ?_
      refine gy_iadd dL_law_1453 ?_
      refine gx_bE e (fun t435 ht435 e => ?_)
      refine gy_sld (L := L) (xs := xs) rfl ht435 dL_law_1454 ?_
      refine gx_aload_n dL_law_1455 rfl 3 rfl ?_
      refine gx_bE e (fun q436 hq436 e => ?_)
      refine gx_callSW (n := 3) (st := []) (As := [.ref v1, .int (gI t435), .ref v3]) dL_law_1456 (z_L_parse hq436) rfl ⟨(by decide +kernel), gw_cw_L_parse, gw_0, gp_L_parse, ⟨Nat.le_of_ble_eq_true rfl, Nat.le_of_ble_eq_true rfl⟩⟩ gw_1224 gw_1225 ⟨by show (kc + 1) ≤ _; omega, by show (ks + 6) ≤ _; omega⟩ (Nat.le_of_ble_eq_true rfl) (gy_k1 (x := .int (gI q436.1)) (kc2 := (kc + 1)) (ks2 := (ks + 6)) ⟨rfl, rfl⟩ ?_)
      refine gx_istore (ls2 := [(5, .int (gI q436.1)), (0, .ref 100000), (1, .ref v1), (2, .ref v2), (3, .ref v3), (4, .int (gI v4))]) dL_law_1459 (Nat.le_of_ble_eq_true rfl) rfl ?_
      refine gx_aload_n dL_law_1461 rfl 3 rfl ?_
      refine gx_aload_n dL_law_1462 rfl 1 rfl ?_
      refine gx_iload dL_law_1463 5 rfl ?_
      refine gy_iconst dL_law_1465 ?_
      refine gy_iadd dL_law_1466 ?_
      refine gx_bE e (fun t437 ht437 e => ?_)
      refine gy_sld (L := L) (xs := xs) rfl ht437 dL_law_1467 ?_
      refine gx_bE e (fun _ hu438 e => ?_)
      refine gx_bE e (fun q439 hq439 e => ?_)
      refine gx_callV (n := 1) (st := []) (As := [.int (gI t437)]) (b := v2) dL_law_1468 (z_X12_parse hq439) rfl ⟨rfl, gw_cw_X12_parse, gw_14, gp_X12_parse, ⟨Nat.le_of_ble_eq_true rfl, Nat.le_of_ble_eq_true rfl⟩⟩ (gi_isS hu438) (by decide) gw_1747 gw_1748 gw_1749 rfl ⟨by show (kc + 1) ≤ _; omega, by show (ks + 6) ≤ _; omega⟩ (Nat.le_of_ble_eq_true rfl) (gy_k1 (x := .int (gI q439.1)) (kc2 := (kc + 1)) (ks2 := (ks + 6)) ⟨rfl, rfl⟩ ?_) gy_kn
      refine gx_istore (ls2 := [(6, .int (gI q439.1)), (5, .int (gI q436.1)), (0, .ref 100000), (1, .ref v1), (2, .ref v2), (3, .ref v3), (4, .int (gI v4))]) dL_law_1471 (Nat.le_of_ble_eq_true rfl) rfl ?_
      refine gx_aload_n dL_law_1473 rfl 4 rfl ?_
      refine gx_bE e (fun _ hu440 e => ?_)
      refine gx_bE e (fun q441 hq441 e => ?_)
      refine gx_callV (n := 0) (st := []) (As := []) (b := v2) dL_law_1474 (z_X12_thrown hq441) rfl ⟨rfl, gw_cw_X12_thrown, gw_14, gp_X12_thrown, ⟨Nat.le_of_ble_eq_true rfl, Nat.le_of_ble_eq_true rfl⟩⟩ (gi_isS hu440) (by decide) gw_1463 gw_1464 gw_1465 rfl ⟨by show (kc + 1) ≤ _; omega, by show (ks + 6) ≤ _; omega⟩ (Nat.le_of_ble_eq_true rfl) (gy_k1 (x := .int (gI q441)) (kc2 := (kc + 1)) (ks2 := (ks + 6)) ⟨rfl, rfl⟩ ?_) gy_kn
      refine gx_iload dL_law_1477 1 rfl ?_
      refine gx_bE e (fun _ g442 e => ?_)
      refine gx_bE e (fun _ g443 e => ?_)
      refine gx_iE e (fun c444 e => ?_) (fun c444 e => ?_)
      · refine gy_icmp_eq (tgt := 1484) (gi_rgS g442) (gi_rgS g443) dL_law_1479 (by decide) (fun _ => ?_) (fun z => absurd c444 z)
        refine gx_iload dL_law_1484 1 rfl ?_
        refine gx_iE e (fun c445 e => ?_) (fun c445 e => ?_)
        · refine gy_if_ne (tgt := 1501) (gi_rgS g443) dL_law_1486 (by decide) (fun z => absurd c445 z) (fun _ => ?_)
          refine gx_aload_n dL_law_1489 rfl 5 rfl ?_
          refine gy_iconst dL_law_1490 ?_
          refine gx_bE e (fun t446 ht446 e => ?_)
          refine gy_l2 ht446 dL_law_1491 ?_
          refine gx_iload dL_law_1492 0 rfl ?_
          refine gx_bE e (fun _ g447 e => ?_)
          refine gy_i2l (gi_rgS g447) dL_law_1494 ?_
          refine gx_bE e (fun _ g448 e => ?_)
          refine gx_bE e (fun _ g449 e => ?_)
          refine gy_lcmp (gi_rgLS g448) (gi_rgLS g449) dL_law_1495 ?_
          refine gx_bE e (fun _ g450 e => ?_)
          refine gx_iE e (fun c451 e => ?_) (fun c451 e => ?_)
          · refine gy_if_eq (tgt := 1501) (gi_rgS g450) dL_law_1496 (by decide) (fun _ => ?_) (fun z => absurd c451 z)
            refine gx_sub (ls2 := [(0, .ref 100000), (1, .ref v1), (2, .ref v2), (3, .ref v3), (4, .int (gI v4))]) [2, 3, 4, 5, 6] rfl ?_
            exact zb_L_law_1501 (by show (kc + 1) + _ ≤ _; omega) (by show (ks + 6) + _ ≤ _; omega) hr23 e
          · refine gy_if_eq (tgt := 1501) (gi_rgS g450) dL_law_1496 (by decide) (fun z => absurd z c451) (fun _ => ?_)
            refine gy_iconst dL_law_1499 ?_
            cases e
            exact gx_zret (by decide +kernel) dL_law_1500 rfl ⟨by show (kc + 1) ≤ _; omega, by show (ks + 6) ≤ _; omega⟩ (fun z => by cases z)
        · refine gy_if_ne (tgt := 1501) (gi_rgS g443) dL_law_1486 (by decide) (fun _ => ?_) (fun z => absurd z c445)
          refine gx_sub (ls2 := [(0, .ref 100000), (1, .ref v1), (2, .ref v2), (3, .ref v3), (4, .int (gI v4))]) [2, 3, 4, 5, 6] rfl ?_
          exact zb_L_law_1501 (by show (kc + 1) + _ ≤ _; omega) (by show (ks + 6) + _ ≤ _; omega) hr23 e
      · refine gy_icmp_eq (tgt := 1484) (gi_rgS g442) (gi_rgS g443) dL_law_1479 (by decide) (fun z => absurd z c444) (fun _ => ?_)
        refine gy_iconst dL_law_1482 ?_
        cases e
        exact gx_zret (by decide +kernel) dL_law_1483 rfl ⟨by show (kc + 1) ≤ _; omega, by show (ks + 6) ≤ _; omega⟩ (fun z => by cases z)
    refine gx_iE e (fun c452 e => ?_) (fun c452 e => ?_)
    · refine gy_tableIn (tgt := 1504) (off := 1465) (gi_rgS g14) dL_law_39 (by rw [c452]; decide) (by rw [c452]; decide) (by rw [c452]; rfl) (by decide) ?_
      refine gx_aload_n dL_law_1504 rfl 1 rfl ?_
      refine gx_aload_n dL_law_1505 rfl 0 rfl ?_
      refine gx_iload dL_law_1506 4 rfl ?_
      refine gy_iconst dL_law_1508 ?_
      refine gy_iadd dL_law_1509 ?_
      refine gx_bE e (fun t453 ht453 e => ?_)
      refine gy_sld (L := L) (xs := xs) rfl ht453 dL_law_1510 ?_
      refine gx_aload_n dL_law_1511 rfl 3 rfl ?_
      refine gx_bE e (fun q454 hq454 e => ?_)
      refine gx_callSW (n := 3) (st := []) (As := [.ref v1, .int (gI t453), .ref v3]) dL_law_1512 (z_L_value hq454) rfl ⟨(by decide +kernel), gw_cw_L_value, gw_0, gp_L_value, ⟨Nat.le_of_ble_eq_true rfl, Nat.le_of_ble_eq_true rfl⟩⟩ gw_1307 gw_1308 ⟨by show (kc + 2) ≤ _; omega, by show (ks + 12) ≤ _; omega⟩ (Nat.le_of_ble_eq_true rfl) (gy_k1 (x := .int (gI q454.1)) (kc2 := (kc + 2)) (ks2 := (ks + 12)) ⟨rfl, rfl⟩ ?_)
      refine gx_istore (ls2 := [(5, .int (gI q454.1)), (0, .ref 100000), (1, .ref v1), (2, .ref v2), (3, .ref v3), (4, .int (gI v4))]) dL_law_1515 (Nat.le_of_ble_eq_true rfl) rfl ?_
      refine gx_aload_n dL_law_1517 rfl 3 rfl ?_
      refine gx_aload_n dL_law_1518 rfl 1 rfl ?_
      refine gx_iload dL_law_1519 5 rfl ?_
      refine gy_iconst dL_law_1521 ?_
      refine gy_iadd dL_law_1522 ?_
      refine gx_bE e (fun t455 ht455 e => ?_)
      refine gy_sld (L := L) (xs := xs) rfl ht455 dL_law_1523 ?_
      refine gx_bE e (fun _ hu456 e => ?_)
      refine gx_bE e (fun q457 hq457 e => ?_)
      refine gx_callV (n := 1) (st := []) (As := [.int (gI t455)]) (b := v2) dL_law_1524 (z_X12_value hq457) rfl ⟨rfl, gw_cw_X12_value, gw_14, gp_X12_value, ⟨Nat.le_of_ble_eq_true rfl, Nat.le_of_ble_eq_true rfl⟩⟩ (gi_isS hu456) (by decide) gw_1775 gw_1776 gw_1777 rfl ⟨by show (kc + 2) ≤ _; omega, by show (ks + 12) ≤ _; omega⟩ (Nat.le_of_ble_eq_true rfl) (gy_k1 (x := .int (gI q457.1)) (kc2 := (kc + 2)) (ks2 := (ks + 12)) ⟨rfl, rfl⟩ ?_) gy_kn
      refine gx_istore (ls2 := [(6, .int (gI q457.1)), (5, .int (gI q454.1)), (0, .ref 100000), (1, .ref v1), (2, .ref v2), (3, .ref v3), (4, .int (gI v4))]) dL_law_1527 (Nat.le_of_ble_eq_true rfl) rfl ?_
      refine gx_aload_n dL_law_1529 rfl 4 rfl ?_
      refine gx_bE e (fun _ hu458 e => ?_)
      refine gx_bE e (fun q459 hq459 e => ?_)
      refine gx_callV (n := 0) (st := []) (As := []) (b := v2) dL_law_1530 (z_X12_thrown hq459) rfl ⟨rfl, gw_cw_X12_thrown, gw_14, gp_X12_thrown, ⟨Nat.le_of_ble_eq_true rfl, Nat.le_of_ble_eq_true rfl⟩⟩ (gi_isS hu458) (by decide) gw_1463 gw_1464 gw_1465 rfl ⟨by show (kc + 2) ≤ _; omega, by show (ks + 12) ≤ _; omega⟩ (Nat.le_of_ble_eq_true rfl) (gy_k1 (x := .int (gI q459)) (kc2 := (kc + 2)) (ks2 := (ks + 12)) ⟨rfl, rfl⟩ ?_) gy_kn
      refine gx_iload dL_law_1533 1 rfl ?_
      refine gx_bE e (fun _ g460 e => ?_)
      refine gx_bE e (fun _ g461 e => ?_)
      refine gx_iE e (fun c462 e => ?_) (fun c462 e => ?_)
      · refine gy_icmp_eq (tgt := 1540) (gi_rgS g460) (gi_rgS g461) dL_law_1535 (by decide) (fun _ => ?_) (fun z => absurd c462 z)
        refine gx_iload dL_law_1540 1 rfl ?_
        refine gx_iE e (fun c463 e => ?_) (fun c463 e => ?_)
        · refine gy_if_ne (tgt := 1557) (gi_rgS g461) dL_law_1542 (by decide) (fun z => absurd c463 z) (fun _ => ?_)
          refine gx_aload_n dL_law_1545 rfl 5 rfl ?_
          refine gy_iconst dL_law_1546 ?_
          refine gx_bE e (fun t464 ht464 e => ?_)
          refine gy_l2 ht464 dL_law_1547 ?_
          refine gx_iload dL_law_1548 0 rfl ?_
          refine gx_bE e (fun _ g465 e => ?_)
          refine gy_i2l (gi_rgS g465) dL_law_1550 ?_
          refine gx_bE e (fun _ g466 e => ?_)
          refine gx_bE e (fun _ g467 e => ?_)
          refine gy_lcmp (gi_rgLS g466) (gi_rgLS g467) dL_law_1551 ?_
          refine gx_bE e (fun _ g468 e => ?_)
          refine gx_iE e (fun c469 e => ?_) (fun c469 e => ?_)
          · refine gy_if_eq (tgt := 1557) (gi_rgS g468) dL_law_1552 (by decide) (fun _ => ?_) (fun z => absurd c469 z)
            refine gx_sub (ls2 := [(0, .ref 100000), (1, .ref v1), (2, .ref v2), (3, .ref v3), (4, .int (gI v4))]) [2, 3, 4, 5, 6] rfl ?_
            exact zb_L_law_1557 (by show (kc + 2) + _ ≤ _; omega) (by show (ks + 12) + _ ≤ _; omega) hr23 e
          · refine gy_if_eq (tgt := 1557) (gi_rgS g468) dL_law_1552 (by decide) (fun z => absurd z c469) (fun _ => ?_)
            refine gy_iconst dL_law_1555 ?_
            cases e
            exact gx_zret (by decide +kernel) dL_law_1556 rfl ⟨by show (kc + 2) ≤ _; omega, by show (ks + 12) ≤ _; omega⟩ (fun z => by cases z)
        · refine gy_if_ne (tgt := 1557) (gi_rgS g461) dL_law_1542 (by decide) (fun _ => ?_) (fun z => absurd z c463)
          refine gx_sub (ls2 := [(0, .ref 100000), (1, .ref v1), (2, .ref v2), (3, .ref v3), (4, .int (gI v4))]) [2, 3, 4, 5, 6] rfl ?_
          exact zb_L_law_1557 (by show (kc + 2) + _ ≤ _; omega) (by show (ks + 12) + _ ≤ _; omega) hr23 e
      · refine gy_icmp_eq (tgt := 1540) (gi_rgS g460) (gi_rgS g461) dL_law_1535 (by decide) (fun z => absurd z c462) (fun _ => ?_)
        refine gy_iconst dL_law_1538 ?_
        cases e
        exact gx_zret (by decide +kernel) dL_law_1539 rfl ⟨by show (kc + 2) ≤ _; omega, by show (ks + 12) ≤ _; omega⟩ (fun z => by cases z)
    refine gx_iE e (fun c470 e => ?_) (fun c470 e => ?_)
    · refine gy_tableIn (tgt := 1560) (off := 1521) (gi_rgS g14) dL_law_39 (by rw [c470]; decide) (by rw [c470]; decide) (by rw [c470]; rfl) (by decide) ?_
      refine gx_aload_n dL_law_1560 rfl 1 rfl ?_
      refine gx_bE e (fun _ hu471 e => ?_)
      refine gx_bE e (fun q472 hq472 e => ?_)
      refine gx_callV (n := 0) (st := []) (As := []) (b := v1) dL_law_1561 (z_X11_readings hq472) rfl ⟨rfl, gw_cw_X11_readings, gw_1, gp_X11_readings, ⟨Nat.le_of_ble_eq_true rfl, Nat.le_of_ble_eq_true rfl⟩⟩ (gi_isS hu471) (by decide) gw_694 gw_695 gw_696 rfl ⟨by show kc ≤ _; omega, by show ks ≤ _; omega⟩ (Nat.le_of_ble_eq_true rfl) (gy_k1 (x := .int (gI q472.1)) (kc2 := kc) (ks2 := ks) ⟨rfl, rfl⟩ ?_) gy_kn
      refine gx_aload_n dL_law_1564 rfl 2 rfl ?_
      refine gx_bE e (fun _ hu473 e => ?_)
      refine gx_bE e (fun q474 hq474 e => ?_)
      refine gx_callV (n := 0) (st := [.int (gI q472.1)]) (As := []) (b := v2) dL_law_1565 (z_X12_readings hq474) rfl ⟨rfl, gw_cw_X12_readings, gw_14, gp_X12_readings, ⟨Nat.le_of_ble_eq_true rfl, Nat.le_of_ble_eq_true rfl⟩⟩ (gi_isS hu473) (by decide) gw_1779 gw_1780 gw_1781 rfl ⟨by show kc ≤ _; omega, by show ks ≤ _; omega⟩ (Nat.le_of_ble_eq_true rfl) (gy_k1 (x := .int (gI q474.1)) (kc2 := kc) (ks2 := ks) ⟨rfl, rfl⟩ ?_) gy_kn
      refine gx_bE e (fun _ g475 e => ?_)
      refine gx_bE e (fun _ g476 e => ?_)
      refine gx_iE e (fun c477 e => ?_) (fun c477 e => ?_)
      · refine gy_icmp_eq (tgt := 1586) (gi_rgS g475) (gi_rgS g476) dL_law_1568 (by decide) (fun _ => ?_) (fun z => absurd c477 z)
        exact zb_L_law_1586 (by show kc + _ ≤ _; omega) (by show ks + _ ≤ _; omega) hr23 e
      · refine gy_icmp_eq (tgt := 1586) (gi_rgS g475) (gi_rgS g476) dL_law_1568 (by decide) (fun z => absurd z c477) (fun _ => ?_)
        refine gy_iconst dL_law_1571 ?_
        cases e
        exact gx_zret (by decide +kernel) dL_law_1572 rfl ⟨by show kc ≤ _; omega, by show ks ≤ _; omega⟩ (fun z => by cases z)
    refine gx_iE e (fun c478 e => ?_) (fun c478 e => ?_)
    · refine gy_tableIn (tgt := 1573) (off := 1534) (gi_rgS g14) dL_law_39 (by rw [c478]; decide) (by rw [c478]; decide) (by rw [c478]; rfl) (by decide) ?_
      refine gx_aload_n dL_law_1573 rfl 1 rfl ?_
      refine gx_bE e (fun _ hu479 e => ?_)
      refine gx_bE e (fun q480 hq480 e => ?_)
      refine gx_callV (n := 0) (st := []) (As := []) (b := v1) dL_law_1574 (z_X11_repair hq480) rfl ⟨rfl, gw_cw_X11_repair, gw_1, gp_X11_repair, ⟨Nat.le_of_ble_eq_true rfl, Nat.le_of_ble_eq_true rfl⟩⟩ (gi_isS hu479) (by decide) gw_820 gw_821 gw_822 rfl ⟨by show kc ≤ _; omega, by show ks ≤ _; omega⟩ (Nat.le_of_ble_eq_true rfl) (gy_k1 (x := .int (gI q480.1)) (kc2 := kc) (ks2 := ks) ⟨rfl, rfl⟩ ?_) gy_kn
      refine gx_aload_n dL_law_1577 rfl 2 rfl ?_
      refine gx_bE e (fun _ hu481 e => ?_)
      refine gx_bE e (fun q482 hq482 e => ?_)
      refine gx_callV (n := 0) (st := [.int (gI q480.1)]) (As := []) (b := v2) dL_law_1578 (z_X12_repair hq482) rfl ⟨rfl, gw_cw_X12_repair, gw_14, gp_X12_repair, ⟨Nat.le_of_ble_eq_true rfl, Nat.le_of_ble_eq_true rfl⟩⟩ (gi_isS hu481) (by decide) gw_1798 gw_1799 gw_1800 rfl ⟨by show kc ≤ _; omega, by show ks ≤ _; omega⟩ (Nat.le_of_ble_eq_true rfl) (gy_k1 (x := .int (gI q482.1)) (kc2 := kc) (ks2 := ks) ⟨rfl, rfl⟩ ?_) gy_kn
      refine gx_bE e (fun _ g483 e => ?_)
      refine gx_bE e (fun _ g484 e => ?_)
      refine gx_iE e (fun c485 e => ?_) (fun c485 e => ?_)
      · refine gy_icmp_eq (tgt := 1586) (gi_rgS g483) (gi_rgS g484) dL_law_1581 (by decide) (fun _ => ?_) (fun z => absurd c485 z)
        exact zb_L_law_1586 (by show kc + _ ≤ _; omega) (by show ks + _ ≤ _; omega) hr23 e
      · refine gy_icmp_eq (tgt := 1586) (gi_rgS g483) (gi_rgS g484) dL_law_1581 (by decide) (fun z => absurd z c485) (fun _ => ?_)
        refine gy_iconst dL_law_1584 ?_
        cases e
        exact gx_zret (by decide +kernel) dL_law_1585 rfl ⟨by show kc ≤ _; omega, by show ks ≤ _; omega⟩ (fun z => by cases z)
    refine gy_tableOut (tgt := 1586) (gi_rgS g14) dL_law_39 (by omega) (by decide) ?_
    exact zb_L_law_1586 (by show kc + _ ≤ _; omega) (by show ks + _ ≤ _; omega) hr23 e
def l_L_law_23 (n : Nat) (L : Nat) (xs : Nat → Int)  : Nat → Nat → Nat → Nat → Int → gi_H → Option (Int × gi_H)
  | 0, _, _, _, _, _ => none
  | k + 1, v1, v2, v3, v4, h => b_L_law_23 n L xs  (l_L_law_23 n L xs  k) v1 v2 v3 v4 h
theorem zl_L_law_23 {n : Nat} {L : Nat} {xs : Nat → Int}  {res : Int} {h1 : gi_H}  : ∀ (k kc ks : Nat) (v1 : Nat) (v2 : Nat) (v3 : Nat) (v4 : Int) (h : gi_H), kc + k * 2 ≤ (gx_rm (mL_law L xs)).cells → ks + k * 12 ≤ (gx_rm (mL_law L xs)).slots → l_L_law_23 n L xs  k v1 v2 v3 v4 h = some (res, h1) → gx_Z (mL_law L xs) false false kc ks 23 [(0, .ref 100000), (1, .ref v1), (2, .ref v2), (3, .ref v3), (4, .int (gI v4))] [] (gi_cv h) (.inl (some (.int (gI res)))) (gi_cv h1)
  | 0, _, _, _, _, _, _, _, _, _, e => gx_0E e
  | k + 1, _, _, _, _, _, _, _, hkc, hks, e => zb_L_law_23 (n := n) hkc hks  (fun kc ks => zl_L_law_23  k kc ks) e
set_option maxRecDepth 100000 in
def f_L_law (n : Nat) (L : Nat) (xs : Nat → Int)  (h : gi_H) : Option (Int × gi_H) :=
  Option.bind (gi_mk h) fun _ => gx_nm (gi_nw h (0, 9)) fun h1 => Option.bind (f_X11_init n (gi_sz h) h1) fun q2 => gx_nm (gi_sz h) fun t3 => Option.bind (gi_mk q2) fun _ => gx_nm (gi_nw q2 (0, 10)) fun h4 => Option.bind (f_X12_init (gi_sz q2) h4) fun q5 => gx_nm (gi_sz q2) fun t6 => Option.bind (gi_mk q5) fun _ => gx_nm (gi_nw q5 (2, 1)) fun h7 => gx_nm (gi_sz q5) fun t8 => l_L_law_23 n L xs  520 t3 t6 t8 (0 : Int) h7
set_option maxRecDepth 100000 in
theorem z_L_law {n : Nat} {L : Nat} {xs : Nat → Int}  {h : gi_H} {res : Int} {h1 : gi_H} (e : f_L_law n L xs  h = some (res, h1)) : gx_Z (mL_law L xs) true false 0 0 0 [(0, .ref 100000)] [] (gi_cv h) (.inl (some (.int (gI res)))) (gi_cv h1) := by
  refine gx_bE e (fun _ gh1 e => ?_)
  refine gx_nE e (fun h1 hh1 e => ?_)
  refine gy_new (ci := 9) gh1 hh1 dL_law_0 (by decide) gw_22 gw_23 gw_1 rfl (kc2 := 1) (ks2 := 17) ⟨rfl, rfl⟩ ⟨Nat.le_of_ble_eq_true rfl, Nat.le_of_ble_eq_true rfl⟩ ?_
  refine gx_dup dL_law_3 rfl ?_
  refine gx_bE e (fun q2 hq2 e => ?_)
  refine gx_callI (n := 0) (st := [.ref (gi_sz h)]) (As := []) (b := (gi_sz h)) dL_law_4 (z_X11_init hq2) rfl ⟨rfl, gw_cw_X11_init, gw_1, gp_X11_init, ⟨Nat.le_of_ble_eq_true rfl, Nat.le_of_ble_eq_true rfl⟩⟩ gw_24 gw_25 rfl rfl ⟨Nat.le_of_ble_eq_true rfl, Nat.le_of_ble_eq_true rfl⟩ (Nat.le_of_ble_eq_true rfl) (gy_k0 (kc2 := 185) (ks2 := 64163) ⟨rfl, rfl⟩ ?_) gy_kn
  refine gx_nE e (fun t3 ht3 e => ?_)
  rw [ht3]
  refine gx_astore_n (ls2 := [(1, .ref t3), (0, .ref 100000)]) dL_law_7 rfl (Nat.le_of_ble_eq_true rfl) rfl ?_
  refine gx_bE e (fun _ gh4 e => ?_)
  refine gx_nE e (fun h4 hh4 e => ?_)
  refine gy_new (ci := 10) gh4 hh4 dL_law_8 (by decide) gw_1321 gw_1322 gw_14 rfl (kc2 := 186) (ks2 := 64208) ⟨rfl, rfl⟩ ⟨Nat.le_of_ble_eq_true rfl, Nat.le_of_ble_eq_true rfl⟩ ?_
  refine gx_dup dL_law_11 rfl ?_
  refine gx_bE e (fun q5 hq5 e => ?_)
  refine gx_callI (n := 0) (st := [.ref (gi_sz q2)]) (As := []) (b := (gi_sz q2)) dL_law_12 (z_X12_init hq5) rfl ⟨rfl, gw_cw_X12_init, gw_14, gp_X12_init, ⟨Nat.le_of_ble_eq_true rfl, Nat.le_of_ble_eq_true rfl⟩⟩ gw_1323 gw_1324 rfl rfl ⟨Nat.le_of_ble_eq_true rfl, Nat.le_of_ble_eq_true rfl⟩ (Nat.le_of_ble_eq_true rfl) (gy_k0 (kc2 := 217) (ks2 := 99564) ⟨rfl, rfl⟩ ?_) gy_kn
  refine gx_nE e (fun t6 ht6 e => ?_)
  rw [ht6]
  refine gx_astore_n (ls2 := [(2, .ref t6), (1, .ref t3), (0, .ref 100000)]) dL_law_15 rfl (Nat.le_of_ble_eq_true rfl) rfl ?_
  refine gy_iconst dL_law_16 ?_
  refine gx_bE e (fun _ gh7 e => ?_)
  refine gx_nE e (fun h7 hh7 e => ?_)
  refine gy_newa2 (N := 1) gh7 hh7 dL_law_17 gw_150 (by decide +kernel) (by decide +kernel) (by decide) rfl (kc2 := 218) (ks2 := 99565) ⟨rfl, rfl⟩ ⟨Nat.le_of_ble_eq_true rfl, Nat.le_of_ble_eq_true rfl⟩ ?_
  refine gx_nE e (fun t8 ht8 e => ?_)
  rw [ht8]
  refine gx_astore_n (ls2 := [(3, .ref t8), (2, .ref t6), (1, .ref t3), (0, .ref 100000)]) dL_law_19 rfl (Nat.le_of_ble_eq_true rfl) rfl ?_
  refine gy_iconst dL_law_20 ?_
  refine gx_istore (ls2 := [(4, .int (gI (0 : Int))), (3, .ref t8), (2, .ref t6), (1, .ref t3), (0, .ref 100000)]) dL_law_21 (Nat.le_of_ble_eq_true rfl) rfl ?_
  refine gx_sub (ls2 := [(0, .ref 100000), (1, .ref t3), (2, .ref t6), (3, .ref t8), (4, .int (gI (0 : Int)))]) [4, 3, 2, 1, 0] rfl ?_
  refine gx_weak ?_
  exact zl_L_law_23  520 218 99565 _ _ _ _ _ (Nat.le_of_ble_eq_true rfl) (Nat.le_of_ble_eq_true rfl) e
