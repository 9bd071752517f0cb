/-! ===== the heap behind the constructors: its normal form, and the operations on it (printed by mkhp.py) ===== -/
def gN : Nat := 1000000000000000000000000000000000000000000
def gh_mk : Option gi_H :=
  Option.bind (gi_mk (0, fun _ => (0, 0), fun _ _ => 0, fun _ _ => 0, fun _ _ => none)) fun _ => gx_nm (gi_nw (0, fun _ => (0, 0), fun _ _ => 0, fun _ _ => 0, fun _ _ => none) (0, 9)) fun h1 => Option.bind (f_X11_init gN 0 h1) fun q2 => Option.bind (gi_mk q2) fun _ => some (gi_nw q2 (1, 24))
def h0 : gi_H := gh_mk.getD (0, fun _ => (0, 0), fun _ _ => 0, fun _ _ => 0, fun _ _ => none)
def h0S : List (Nat × Nat) := [(0, 9), (0, 7), (3, 24), (0, 3), (1, 24), (1, 120), (1, 24), (5, 24), (1, 24), (0, 7), (3, 24), (0, 6), (1, 24), (0, 7), (3, 24), (0, 7), (3, 24), (0, 7), (3, 24), (0, 7), (3, 24), (0, 7), (3, 24), (0, 7), (3, 24), (0, 7), (3, 24), (0, 7), (3, 24), (0, 7), (3, 24), (0, 7), (3, 24), (0, 7), (3, 24), (0, 7), (3, 24), (0, 7), (3, 24), (0, 7), (3, 24), (0, 7), (3, 24), (0, 7), (3, 24), (0, 7), (3, 24), (0, 7), (3, 24), (0, 7), (3, 24), (0, 7), (3, 24), (0, 7), (3, 24), (0, 7), (3, 24), (0, 7), (3, 24), (0, 7), (3, 24), (1, 8), (1, 8), (1, 13), (0, 2), (1, 32), (1, 16), (1, 24), (1, 32), (2, 32), (1, 16), (1, 150), (1, 150), (0, 0), (1, 12000), (1, 2560), (1, 80), (4, 80), (1, 150), (0, 0), (1, 12000), (1, 2560), (1, 80), (4, 80), (1, 150), (1, 2704), (1, 25350), (0, 3), (1, 24), (1, 120), (1, 24), (5, 24), (1, 24), (0, 7), (3, 24), (0, 6), (1, 24), (0, 7), (3, 24), (0, 7), (3, 24), (0, 7), (3, 24), (0, 7), (3, 24), (0, 7), (3, 24), (0, 7), (3, 24), (0, 7), (3, 24), (0, 7), (3, 24), (0, 7), (3, 24), (0, 7), (3, 24), (0, 7), (3, 24), (0, 7), (3, 24), (0, 7), (3, 24), (0, 7), (3, 24), (0, 7), (3, 24), (0, 7), (3, 24), (0, 7), (3, 24), (0, 7), (3, 24), (0, 7), (3, 24), (0, 7), (3, 24), (0, 7), (3, 24), (0, 7), (3, 24), (0, 7), (3, 24), (0, 7), (3, 24), (0, 4), (1, 1501), (1, 300), (0, 8), (1, 301), (1, 301), (0, 8), (1, 301), (1, 301), (0, 8), (1, 301), (1, 301), (0, 1), (1, 16), (0, 5), (1, 16), (1, 24)]
set_option maxRecDepth 1000000 in
theorem h0_some : gh_mk.isSome = true := by decide +kernel
set_option maxRecDepth 1000000 in
theorem h0_sz : gi_sz h0 = 162 := by decide +kernel
set_option maxRecDepth 1000000 in
theorem h0_S : ∀ a, a < 162 → gi_S h0 a = h0S.getD a (0, 0) := by decide +kernel
def h0R : List (Nat × Nat × Nat) := [(0, 0, 1), (0, 1, 3), (0, 2, 87), (0, 4, 61), (0, 5, 62), (0, 6, 63), (0, 8, 64), (0, 9, 73), (0, 10, 79), (0, 11, 145), (0, 12, 148), (0, 13, 151), (0, 14, 154), (0, 15, 157), (0, 16, 159), (1, 0, 2), (3, 0, 4), (3, 1, 5), (3, 2, 6), (3, 4, 7), (3, 5, 8), (3, 8, 9), (3, 9, 11), (7, 0, 13), (7, 1, 15), (7, 2, 17), (7, 3, 19), (7, 4, 21), (7, 5, 23), (7, 6, 25), (7, 7, 27), (7, 8, 29), (7, 9, 31), (7, 10, 33), (7, 11, 35), (7, 12, 37), (7, 13, 39), (7, 14, 41), (7, 15, 43), (7, 16, 45), (7, 17, 47), (7, 18, 49), (7, 19, 51), (7, 20, 53), (7, 21, 55), (7, 22, 57), (7, 23, 59), (9, 0, 10), (11, 0, 12), (13, 0, 14), (15, 0, 16), (17, 0, 18), (19, 0, 20), (21, 0, 22), (23, 0, 24), (25, 0, 26), (27, 0, 28), (29, 0, 30), (31, 0, 32), (33, 0, 34), (35, 0, 36), (37, 0, 38), (39, 0, 40), (41, 0, 42), (43, 0, 44), (45, 0, 46), (47, 0, 48), (49, 0, 50), (51, 0, 52), (53, 0, 54), (55, 0, 56), (57, 0, 58), (59, 0, 60), (64, 0, 3), (64, 5, 65), (64, 6, 66), (64, 7, 67), (64, 8, 68), (64, 9, 69), (64, 11, 70), (64, 12, 71), (64, 13, 72), (73, 0, 64), (73, 5, 74), (73, 6, 75), (73, 7, 76), (73, 8, 77), (73, 9, 78), (79, 0, 64), (79, 5, 80), (79, 6, 81), (79, 7, 82), (79, 8, 83), (79, 9, 84), (87, 0, 88), (87, 1, 89), (87, 2, 90), (87, 4, 91), (87, 5, 92), (87, 8, 93), (87, 9, 95), (91, 0, 97), (91, 1, 99), (91, 2, 101), (91, 3, 103), (91, 4, 105), (91, 5, 107), (91, 6, 109), (91, 7, 111), (91, 8, 113), (91, 9, 115), (91, 10, 117), (91, 11, 119), (91, 12, 121), (91, 13, 123), (91, 14, 125), (91, 15, 127), (91, 16, 129), (91, 17, 131), (91, 18, 133), (91, 19, 135), (91, 20, 137), (91, 21, 139), (91, 22, 141), (91, 23, 143), (93, 0, 94), (95, 0, 96), (97, 0, 98), (99, 0, 100), (101, 0, 102), (103, 0, 104), (105, 0, 106), (107, 0, 108), (109, 0, 110), (111, 0, 112), (113, 0, 114), (115, 0, 116), (117, 0, 118), (119, 0, 120), (121, 0, 122), (123, 0, 124), (125, 0, 126), (127, 0, 128), (129, 0, 130), (131, 0, 132), (133, 0, 134), (135, 0, 136), (137, 0, 138), (139, 0, 140), (141, 0, 142), (143, 0, 144), (145, 1, 64), (145, 2, 63), (145, 3, 146), (145, 5, 147), (148, 1, 73), (148, 3, 61), (148, 4, 62), (148, 5, 63), (148, 10, 149), (148, 11, 150), (151, 1, 73), (151, 3, 61), (151, 4, 62), (151, 5, 63), (151, 10, 152), (151, 11, 153), (154, 1, 79), (154, 3, 61), (154, 4, 62), (154, 5, 63), (154, 10, 155), (154, 11, 156), (157, 0, 64), (157, 1, 63), (157, 2, 85), (157, 3, 86), (157, 4, 158), (159, 0, 64), (159, 1, 63), (159, 2, 85), (159, 3, 86), (159, 4, 160)]
set_option maxRecDepth 1000000 in
theorem h0_R : ∀ q ∈ h0R, gi_R h0 q.1 q.2.1 = some q.2.2 := by decide +kernel
def gU (u : Nat) : Nat := if u = 0 then 3 else 87
def gO (u : Nat) : Nat := if u = 0 then 87 else 3
def hR (u a k : Nat) : Option Nat := if a = 0 ∧ k = 1 then some (gU u) else if a = 0 ∧ k = 2 then some (gO u) else if a = 64 ∧ k = 0 then some (gU u) else gi_R h0 a k
/-- the heap: which grammar is in use, the ints, the longs -/
def S0 : Nat → Nat × Nat := gi_S h0
def hp (u : Nat) (I L : Nat → Nat → Int) : gi_H := (162, S0, I, L, hR u)
theorem h0_eq : h0 = hp 0 (gi_I h0) (gi_L h0) := by
  have hr : gi_R h0 = hR 0 := by
    funext a k
    unfold hR
    split
    · next h => rw [h.1, h.2]; exact h0_R (0, 1, 3) (by decide)
    · split
      · next h => rw [h.1, h.2]; exact h0_R (0, 2, 87) (by decide)
      · split
        · next h => rw [h.1, h.2]; exact h0_R (64, 0, 3) (by decide)
        · rfl
  show h0 = (162, S0, gi_I h0, gi_L h0, hR 0)
  rw [← hr, ← h0_sz]
  rfl
theorem gU_mem (u : Nat) : gU u ∈ [3, 87] := by unfold gU; split <;> decide
theorem gO_mem (u : Nat) : gO u ∈ [3, 87] := by unfold gO; split <;> decide
theorem gu_same (I : Nat → Nat → Int) (a k : Nat) (x : Int) : gx_u I a k x a k = x := by simp [gx_u]
theorem gu_at (I : Nat → Nat → Int) (a k : Nat) (x : Int) (j : Nat) : gx_u I a k x a j = if j = k then x else I a j := by simp [gx_u]
theorem gu_ne {I : Nat → Nat → Int} {a k : Nat} {x : Int} {b : Nat} (h : b ≠ a) : gx_u I a k x b = I b := by funext j; simp [gx_u, h]
theorem rg_ok {x : Int} (h1 : -2147483648 ≤ x) (h2 : x ≤ 2147483647) : gi_rg x = some () := if_pos ⟨h1, h2⟩
theorem rgL_ok {x : Int} (h1 : -9223372036854775808 ≤ x) (h2 : x ≤ 9223372036854775807) : gi_rgL x = some () := if_pos ⟨h1, h2⟩
theorem dg_ok {x y : Int} (h1 : 0 ≤ x) (h2 : x ≤ 2147483647) (h3 : 0 < y) (h4 : y ≤ 2147483647) : gi_dg x y = some () := if_pos ⟨h1, h2, h3, h4⟩
theorem zo_0 : gi_zo 0 = some () := rfl
theorem zo_1 : gi_zo 1 = some () := rfl
theorem zo_ok {x : Int} (h : x = 0 ∨ x = 1) : gi_zo x = some () := if_pos h
theorem ch_ok {x : Int} (h1 : 0 ≤ x) (h2 : x ≤ 65535) : gi_ch x = some () := if_pos ⟨h1, h2⟩
theorem nm_eq {α β : Type} (a : α) (k : α → Option β) : gx_nm a k = k a := rfl
theorem sm_inl {α β : Type} (x : α) (f : α → Option β) (g : String → Option β) : gx_sm (.inl x) f g = f x := rfl
theorem sm_inr {α β : Type} (E : String) (f : α → Option β) (g : String → Option β) : gx_sm (.inr E) f g = g E := rfl
section HP
variable {u : Nat} {I L : Nat → Nat → Int}
theorem hS0 : gi_S (hp u I L) = S0 := by simp only [gi_S, hp]
theorem hS (a : Nat) {s : Nat × Nat} (h : h0S.getD a (0, 0) = s) (ha : a < 162) : gi_S (hp u I L) a = s := by
  rw [hS0, ← h]; exact h0_S a ha
theorem hg0 {v ci k : Nat} (h : h0S.getD v (0, 0) = (0, ci)) (ha : v < 162) : gi_gI (hp u I L) v ci k = some (I v k) := if_pos ⟨ha, hS v h ha⟩
theorem hGc {v ci k t : Nat} (h : h0S.getD v (0, 0) = (0, ci)) (ha : v < 162) (hr : hR u v k = some t) : gi_gR (hp u I L) v ci k = some t := (if_pos ⟨ha, hS v h ha⟩).trans hr
theorem hq0 {v ci k : Nat} {x : Int} (h : h0S.getD v (0, 0) = (0, ci)) (ha : v < 162) : gi_pI (hp u I L) v ci k x = some (hp u (gx_u I v k x) L) := if_pos ⟨ha, hS v h ha⟩
theorem hz0 {v ci k : Nat} {x : Int} (h : h0S.getD v (0, 0) = (0, ci)) (ha : v < 162) (hx : x = 0 ∨ x = 1) : gi_pZ (hp u I L) v ci k x = some (hp u (gx_u I v k x) L) := if_pos ⟨⟨ha, hS v h ha⟩, hx⟩
theorem hi0 {v ci : Nat} (h : h0S.getD v (0, 0) = (0, ci)) (ha : v < 162) : gi_is (hp u I L) v ci = some () := if_pos ⟨ha, hS v h ha⟩
theorem ha0 {a kd N : Nat} {i : Int} (h : h0S.getD a (0, 0) = (kd, N)) (ha : a < 162) (hN : N ≤ 2147483647) (h1 : 0 ≤ i) (h2 : i < (N : Int)) : gi_aI (hp u I L) kd a i = some (I a i.toNat) := by
  have e := hS (u := u) (I := I) (L := L) a h ha
  exact if_pos ⟨ha, by rw [e], h1, by rw [e]; exact h2, by omega⟩
theorem haL0 {a N : Nat} {i : Int} (h : h0S.getD a (0, 0) = (2, N)) (ha : a < 162) (hN : N ≤ 2147483647) (h1 : 0 ≤ i) (h2 : i < (N : Int)) : gi_aL (hp u I L) a i = some (L a i.toNat) := by
  have e := hS (u := u) (I := I) (L := L) a h ha
  exact if_pos ⟨ha, by rw [e], h1, by rw [e]; exact h2, by omega⟩
theorem haR0 {a N : Nat} {i : Int} (h : h0S.getD a (0, 0) = (5, N)) (ha : a < 162) (hN : N ≤ 2147483647) (h1 : 0 ≤ i) (h2 : i < (N : Int)) : gi_aR (hp u I L) a i = some (hR u a i.toNat) := by
  have e := hS (u := u) (I := I) (L := L) a h ha
  exact if_pos ⟨ha, by rw [e], h1, by rw [e]; exact h2, by omega⟩
theorem hs0 {a N : Nat} {i x : Int} (h : h0S.getD a (0, 0) = (1, N)) (ha : a < 162) (hN : N ≤ 2147483647) (h1 : 0 ≤ i) (h2 : i < (N : Int)) : gi_s1 (hp u I L) a i x = some (hp u (gx_u I a i.toNat x) L) := by
  have e := hS (u := u) (I := I) (L := L) a h ha
  exact if_pos ⟨ha, by rw [e], h1, by rw [e]; exact h2, by omega⟩
theorem hs20 {a N : Nat} {i x : Int} (h : h0S.getD a (0, 0) = (2, N)) (ha : a < 162) (hN : N ≤ 2147483647) (h1 : 0 ≤ i) (h2 : i < (N : Int)) : gi_s2 (hp u I L) a i x = some (hp u I (gx_u L a i.toNat x)) := by
  have e := hS (u := u) (I := I) (L := L) a h ha
  exact if_pos ⟨ha, by rw [e], h1, by rw [e]; exact h2, by omega⟩
theorem hs30 {a N : Nat} {i x : Int} (h : h0S.getD a (0, 0) = (3, N)) (ha : a < 162) (hN : N ≤ 2147483647) (h1 : 0 ≤ i) (h2 : i < (N : Int)) (h3 : 0 ≤ x) (h4 : x ≤ 65535) : gi_s3 (hp u I L) a i x = some (hp u (gx_u I a i.toNat x) L) := by
  have e := hS (u := u) (I := I) (L := L) a h ha
  exact if_pos ⟨⟨ha, by rw [e], h1, by rw [e]; exact h2, by omega⟩, h3, h4⟩
theorem hs40 {a N : Nat} {i x : Int} (h : h0S.getD a (0, 0) = (4, N)) (ha : a < 162) (hN : N ≤ 2147483647) (h1 : 0 ≤ i) (h2 : i < (N : Int)) (h3 : x = 0 ∨ x = 1) : gi_s4 (hp u I L) a i x = some (hp u (gx_u I a i.toNat x) L) := by
  have e := hS (u := u) (I := I) (L := L) a h ha
  exact if_pos ⟨⟨ha, by rw [e], h1, by rw [e]; exact h2, by omega⟩, h3⟩
theorem hl0 {a kd N : Nat} (h : h0S.getD a (0, 0) = (kd, N)) (ha : a < 162) (hk : 1 ≤ kd ∧ kd ≤ 5) : gi_ln (hp u I L) a = some (N : Int) := by
  have e := hS (u := u) (I := I) (L := L) a h ha
  show (if a < 162 ∧ 1 ≤ (gi_S (hp u I L) a).1 ∧ (gi_S (hp u I L) a).1 ≤ 5 then some (((gi_S (hp u I L) a).2 : Nat) : Int) else none) = _
  rw [e, if_pos ⟨ha, hk.1, hk.2⟩]
def gTX : List Nat := [1, 9, 13, 15, 17, 19, 21, 23, 25, 27, 29, 31, 33, 35, 37, 39, 41, 43, 45, 47, 49, 51, 53, 55, 57, 59, 93, 97, 99, 101, 103, 105, 107, 109, 111, 113, 115, 117, 119, 121, 123, 125, 127, 129, 131, 133, 135, 137, 139, 141, 143]
theorem hi_X : gi_is (hp u I L) 0 9 = some () := hi0 rfl (by decide)
theorem hG_X_0 : gi_gR (hp u I L) 0 9 0 = some 1 := hGc rfl (by decide) ((show hR u 0 0 = gi_R h0 0 0 by unfold hR; rw [if_neg (by decide), if_neg (by decide), if_neg (by decide)]).trans (h0_R (0, 0, 1) (by decide)))
theorem hG_X_1 : gi_gR (hp u I L) 0 9 1 = some (gU u) := hGc rfl (by decide) rfl
theorem hG_X_2 : gi_gR (hp u I L) 0 9 2 = some (gO u) := hGc rfl (by decide) rfl
theorem hg_X_3 : gi_gI (hp u I L) 0 9 3 = some (I 0 3) := hg0 rfl (by decide)
theorem hq_X_3 {x : Int} : gi_pI (hp u I L) 0 9 3 x = some (hp u (gx_u I 0 3 x) L) := hq0 rfl (by decide)
theorem hG_X_4 : gi_gR (hp u I L) 0 9 4 = some 61 := hGc rfl (by decide) ((show hR u 0 4 = gi_R h0 0 4 by unfold hR; rw [if_neg (by decide), if_neg (by decide), if_neg (by decide)]).trans (h0_R (0, 4, 61) (by decide)))
theorem hG_X_5 : gi_gR (hp u I L) 0 9 5 = some 62 := hGc rfl (by decide) ((show hR u 0 5 = gi_R h0 0 5 by unfold hR; rw [if_neg (by decide), if_neg (by decide), if_neg (by decide)]).trans (h0_R (0, 5, 62) (by decide)))
theorem hG_X_6 : gi_gR (hp u I L) 0 9 6 = some 63 := hGc rfl (by decide) ((show hR u 0 6 = gi_R h0 0 6 by unfold hR; rw [if_neg (by decide), if_neg (by decide), if_neg (by decide)]).trans (h0_R (0, 6, 63) (by decide)))
theorem hg_X_7 : gi_gI (hp u I L) 0 9 7 = some (I 0 7) := hg0 rfl (by decide)
theorem hq_X_7 {x : Int} : gi_pI (hp u I L) 0 9 7 x = some (hp u (gx_u I 0 7 x) L) := hq0 rfl (by decide)
theorem hG_X_8 : gi_gR (hp u I L) 0 9 8 = some 64 := hGc rfl (by decide) ((show hR u 0 8 = gi_R h0 0 8 by unfold hR; rw [if_neg (by decide), if_neg (by decide), if_neg (by decide)]).trans (h0_R (0, 8, 64) (by decide)))
theorem hG_X_9 : gi_gR (hp u I L) 0 9 9 = some 73 := hGc rfl (by decide) ((show hR u 0 9 = gi_R h0 0 9 by unfold hR; rw [if_neg (by decide), if_neg (by decide), if_neg (by decide)]).trans (h0_R (0, 9, 73) (by decide)))
theorem hG_X_10 : gi_gR (hp u I L) 0 9 10 = some 79 := hGc rfl (by decide) ((show hR u 0 10 = gi_R h0 0 10 by unfold hR; rw [if_neg (by decide), if_neg (by decide), if_neg (by decide)]).trans (h0_R (0, 10, 79) (by decide)))
theorem hG_X_11 : gi_gR (hp u I L) 0 9 11 = some 145 := hGc rfl (by decide) ((show hR u 0 11 = gi_R h0 0 11 by unfold hR; rw [if_neg (by decide), if_neg (by decide), if_neg (by decide)]).trans (h0_R (0, 11, 145) (by decide)))
theorem hG_X_12 : gi_gR (hp u I L) 0 9 12 = some 148 := hGc rfl (by decide) ((show hR u 0 12 = gi_R h0 0 12 by unfold hR; rw [if_neg (by decide), if_neg (by decide), if_neg (by decide)]).trans (h0_R (0, 12, 148) (by decide)))
theorem hG_X_13 : gi_gR (hp u I L) 0 9 13 = some 151 := hGc rfl (by decide) ((show hR u 0 13 = gi_R h0 0 13 by unfold hR; rw [if_neg (by decide), if_neg (by decide), if_neg (by decide)]).trans (h0_R (0, 13, 151) (by decide)))
theorem hG_X_14 : gi_gR (hp u I L) 0 9 14 = some 154 := hGc rfl (by decide) ((show hR u 0 14 = gi_R h0 0 14 by unfold hR; rw [if_neg (by decide), if_neg (by decide), if_neg (by decide)]).trans (h0_R (0, 14, 154) (by decide)))
theorem hG_X_15 : gi_gR (hp u I L) 0 9 15 = some 157 := hGc rfl (by decide) ((show hR u 0 15 = gi_R h0 0 15 by unfold hR; rw [if_neg (by decide), if_neg (by decide), if_neg (by decide)]).trans (h0_R (0, 15, 157) (by decide)))
theorem hG_X_16 : gi_gR (hp u I L) 0 9 16 = some 159 := hGc rfl (by decide) ((show hR u 0 16 = gi_R h0 0 16 by unfold hR; rw [if_neg (by decide), if_neg (by decide), if_neg (by decide)]).trans (h0_R (0, 16, 159) (by decide)))
theorem hi_T {v : Nat} (hv : v ∈ gTX) : gi_is (hp u I L) v 7 = some () := by
  have key : ∀ v ∈ gTX, h0S.getD v (0, 0) = (0, 7) ∧ v < 162 := by decide
  exact hi0 (key v hv).1 (key v hv).2
theorem hG_T_0 {v : Nat} (hv : v ∈ gTX) : gi_gR (hp u I L) v 7 0 = some (v + 1) := by
  have key : ∀ v ∈ gTX, h0S.getD v (0, 0) = (0, 7) ∧ v < 162 ∧ (v, 0, (v + 1)) ∈ h0R ∧ ¬ (v = 0 ∧ 0 = 1) ∧ ¬ (v = 0 ∧ 0 = 2) ∧ ¬ (v = 64 ∧ 0 = 0) := by decide
  obtain ⟨k1, k2, k3, k4, k5, k6⟩ := key v hv
  refine hGc k1 k2 ?_
  unfold hR
  rw [if_neg k4, if_neg k5, if_neg k6]
  exact h0_R _ k3
theorem hg_T_1 {v : Nat} (hv : v ∈ gTX) : gi_gI (hp u I L) v 7 1 = some (I v 1) := by
  have key : ∀ v ∈ gTX, h0S.getD v (0, 0) = (0, 7) ∧ v < 162 := by decide
  exact hg0 (key v hv).1 (key v hv).2
theorem hq_T_1 {v : Nat} {x : Int} (hv : v ∈ gTX) : gi_pI (hp u I L) v 7 1 x = some (hp u (gx_u I v 1 x) L) := by
  have key : ∀ v ∈ gTX, h0S.getD v (0, 0) = (0, 7) ∧ v < 162 := by decide
  exact hq0 (key v hv).1 (key v hv).2
theorem hi_G {v : Nat} (hv : v ∈ [3, 87]) : gi_is (hp u I L) v 3 = some () := by
  have key : ∀ v ∈ [3, 87], h0S.getD v (0, 0) = (0, 3) ∧ v < 162 := by decide
  exact hi0 (key v hv).1 (key v hv).2
theorem hG_G_0 {v : Nat} (hv : v ∈ [3, 87]) : gi_gR (hp u I L) v 3 0 = some (v + 1) := by
  have key : ∀ v ∈ [3, 87], h0S.getD v (0, 0) = (0, 3) ∧ v < 162 ∧ (v, 0, (v + 1)) ∈ h0R ∧ ¬ (v = 0 ∧ 0 = 1) ∧ ¬ (v = 0 ∧ 0 = 2) ∧ ¬ (v = 64 ∧ 0 = 0) := by decide
  obtain ⟨k1, k2, k3, k4, k5, k6⟩ := key v hv
  refine hGc k1 k2 ?_
  unfold hR
  rw [if_neg k4, if_neg k5, if_neg k6]
  exact h0_R _ k3
theorem hG_G_1 {v : Nat} (hv : v ∈ [3, 87]) : gi_gR (hp u I L) v 3 1 = some (v + 2) := by
  have key : ∀ v ∈ [3, 87], h0S.getD v (0, 0) = (0, 3) ∧ v < 162 ∧ (v, 1, (v + 2)) ∈ h0R ∧ ¬ (v = 0 ∧ 1 = 1) ∧ ¬ (v = 0 ∧ 1 = 2) ∧ ¬ (v = 64 ∧ 1 = 0) := by decide
  obtain ⟨k1, k2, k3, k4, k5, k6⟩ := key v hv
  refine hGc k1 k2 ?_
  unfold hR
  rw [if_neg k4, if_neg k5, if_neg k6]
  exact h0_R _ k3
theorem hG_G_2 {v : Nat} (hv : v ∈ [3, 87]) : gi_gR (hp u I L) v 3 2 = some (v + 3) := by
  have key : ∀ v ∈ [3, 87], h0S.getD v (0, 0) = (0, 3) ∧ v < 162 ∧ (v, 2, (v + 3)) ∈ h0R ∧ ¬ (v = 0 ∧ 2 = 1) ∧ ¬ (v = 0 ∧ 2 = 2) ∧ ¬ (v = 64 ∧ 2 = 0) := by decide
  obtain ⟨k1, k2, k3, k4, k5, k6⟩ := key v hv
  refine hGc k1 k2 ?_
  unfold hR
  rw [if_neg k4, if_neg k5, if_neg k6]
  exact h0_R _ k3
theorem hg_G_3 {v : Nat} (hv : v ∈ [3, 87]) : gi_gI (hp u I L) v 3 3 = some (I v 3) := by
  have key : ∀ v ∈ [3, 87], h0S.getD v (0, 0) = (0, 3) ∧ v < 162 := by decide
  exact hg0 (key v hv).1 (key v hv).2
theorem hq_G_3 {v : Nat} {x : Int} (hv : v ∈ [3, 87]) : gi_pI (hp u I L) v 3 3 x = some (hp u (gx_u I v 3 x) L) := by
  have key : ∀ v ∈ [3, 87], h0S.getD v (0, 0) = (0, 3) ∧ v < 162 := by decide
  exact hq0 (key v hv).1 (key v hv).2
theorem hG_G_4 {v : Nat} (hv : v ∈ [3, 87]) : gi_gR (hp u I L) v 3 4 = some (v + 4) := by
  have key : ∀ v ∈ [3, 87], h0S.getD v (0, 0) = (0, 3) ∧ v < 162 ∧ (v, 4, (v + 4)) ∈ h0R ∧ ¬ (v = 0 ∧ 4 = 1) ∧ ¬ (v = 0 ∧ 4 = 2) ∧ ¬ (v = 64 ∧ 4 = 0) := by decide
  obtain ⟨k1, k2, k3, k4, k5, k6⟩ := key v hv
  refine hGc k1 k2 ?_
  unfold hR
  rw [if_neg k4, if_neg k5, if_neg k6]
  exact h0_R _ k3
theorem hG_G_5 {v : Nat} (hv : v ∈ [3, 87]) : gi_gR (hp u I L) v 3 5 = some (v + 5) := by
  have key : ∀ v ∈ [3, 87], h0S.getD v (0, 0) = (0, 3) ∧ v < 162 ∧ (v, 5, (v + 5)) ∈ h0R ∧ ¬ (v = 0 ∧ 5 = 1) ∧ ¬ (v = 0 ∧ 5 = 2) ∧ ¬ (v = 64 ∧ 5 = 0) := by decide
  obtain ⟨k1, k2, k3, k4, k5, k6⟩ := key v hv
  refine hGc k1 k2 ?_
  unfold hR
  rw [if_neg k4, if_neg k5, if_neg k6]
  exact h0_R _ k3
theorem hg_G_6 {v : Nat} (hv : v ∈ [3, 87]) : gi_gI (hp u I L) v 3 6 = some (I v 6) := by
  have key : ∀ v ∈ [3, 87], h0S.getD v (0, 0) = (0, 3) ∧ v < 162 := by decide
  exact hg0 (key v hv).1 (key v hv).2
theorem hq_G_6 {v : Nat} {x : Int} (hv : v ∈ [3, 87]) : gi_pI (hp u I L) v 3 6 x = some (hp u (gx_u I v 6 x) L) := by
  have key : ∀ v ∈ [3, 87], h0S.getD v (0, 0) = (0, 3) ∧ v < 162 := by decide
  exact hq0 (key v hv).1 (key v hv).2
theorem hg_G_7 {v : Nat} (hv : v ∈ [3, 87]) : gi_gI (hp u I L) v 3 7 = some (I v 7) := by
  have key : ∀ v ∈ [3, 87], h0S.getD v (0, 0) = (0, 3) ∧ v < 162 := by decide
  exact hg0 (key v hv).1 (key v hv).2
theorem hq_G_7 {v : Nat} {x : Int} (hv : v ∈ [3, 87]) : gi_pI (hp u I L) v 3 7 x = some (hp u (gx_u I v 7 x) L) := by
  have key : ∀ v ∈ [3, 87], h0S.getD v (0, 0) = (0, 3) ∧ v < 162 := by decide
  exact hq0 (key v hv).1 (key v hv).2
theorem hG_G_8 {v : Nat} (hv : v ∈ [3, 87]) : gi_gR (hp u I L) v 3 8 = some (v + 6) := by
  have key : ∀ v ∈ [3, 87], h0S.getD v (0, 0) = (0, 3) ∧ v < 162 ∧ (v, 8, (v + 6)) ∈ h0R ∧ ¬ (v = 0 ∧ 8 = 1) ∧ ¬ (v = 0 ∧ 8 = 2) ∧ ¬ (v = 64 ∧ 8 = 0) := by decide
  obtain ⟨k1, k2, k3, k4, k5, k6⟩ := key v hv
  refine hGc k1 k2 ?_
  unfold hR
  rw [if_neg k4, if_neg k5, if_neg k6]
  exact h0_R _ k3
theorem hG_G_9 {v : Nat} (hv : v ∈ [3, 87]) : gi_gR (hp u I L) v 3 9 = some (v + 8) := by
  have key : ∀ v ∈ [3, 87], h0S.getD v (0, 0) = (0, 3) ∧ v < 162 ∧ (v, 9, (v + 8)) ∈ h0R ∧ ¬ (v = 0 ∧ 9 = 1) ∧ ¬ (v = 0 ∧ 9 = 2) ∧ ¬ (v = 64 ∧ 9 = 0) := by decide
  obtain ⟨k1, k2, k3, k4, k5, k6⟩ := key v hv
  refine hGc k1 k2 ?_
  unfold hR
  rw [if_neg k4, if_neg k5, if_neg k6]
  exact h0_R _ k3
theorem hi_R {v : Nat} (hv : v ∈ [11, 95]) : gi_is (hp u I L) v 6 = some () := by
  have key : ∀ v ∈ [11, 95], h0S.getD v (0, 0) = (0, 6) ∧ v < 162 := by decide
  exact hi0 (key v hv).1 (key v hv).2
theorem hG_R_0 {v : Nat} (hv : v ∈ [11, 95]) : gi_gR (hp u I L) v 6 0 = some (v + 1) := by
  have key : ∀ v ∈ [11, 95], h0S.getD v (0, 0) = (0, 6) ∧ v < 162 ∧ (v, 0, (v + 1)) ∈ h0R ∧ ¬ (v = 0 ∧ 0 = 1) ∧ ¬ (v = 0 ∧ 0 = 2) ∧ ¬ (v = 64 ∧ 0 = 0) := by decide
  obtain ⟨k1, k2, k3, k4, k5, k6⟩ := key v hv
  refine hGc k1 k2 ?_
  unfold hR
  rw [if_neg k4, if_neg k5, if_neg k6]
  exact h0_R _ k3
theorem hg_R_1 {v : Nat} (hv : v ∈ [11, 95]) : gi_gI (hp u I L) v 6 1 = some (I v 1) := by
  have key : ∀ v ∈ [11, 95], h0S.getD v (0, 0) = (0, 6) ∧ v < 162 := by decide
  exact hg0 (key v hv).1 (key v hv).2
theorem hq_R_1 {v : Nat} {x : Int} (hv : v ∈ [11, 95]) : gi_pI (hp u I L) v 6 1 x = some (hp u (gx_u I v 1 x) L) := by
  have key : ∀ v ∈ [11, 95], h0S.getD v (0, 0) = (0, 6) ∧ v < 162 := by decide
  exact hq0 (key v hv).1 (key v hv).2
theorem hi_F : gi_is (hp u I L) 64 2 = some () := hi0 rfl (by decide)
theorem hG_F_0 : gi_gR (hp u I L) 64 2 0 = some (gU u) := hGc rfl (by decide) rfl
theorem hg_F_1 : gi_gI (hp u I L) 64 2 1 = some (I 64 1) := hg0 rfl (by decide)
theorem hq_F_1 {x : Int} (hx : x = 0 ∨ x = 1) : gi_pZ (hp u I L) 64 2 1 x = some (hp u (gx_u I 64 1 x) L) := hz0 rfl (by decide) hx
theorem hg_F_2 : gi_gI (hp u I L) 64 2 2 = some (I 64 2) := hg0 rfl (by decide)
theorem hq_F_2 {x : Int} : gi_pI (hp u I L) 64 2 2 x = some (hp u (gx_u I 64 2 x) L) := hq0 rfl (by decide)
theorem hg_F_3 : gi_gI (hp u I L) 64 2 3 = some (I 64 3) := hg0 rfl (by decide)
theorem hq_F_3 {x : Int} : gi_pI (hp u I L) 64 2 3 x = some (hp u (gx_u I 64 3 x) L) := hq0 rfl (by decide)
theorem hg_F_4 : gi_gI (hp u I L) 64 2 4 = some (I 64 4) := hg0 rfl (by decide)
theorem hq_F_4 {x : Int} : gi_pI (hp u I L) 64 2 4 x = some (hp u (gx_u I 64 4 x) L) := hq0 rfl (by decide)
theorem hG_F_5 : gi_gR (hp u I L) 64 2 5 = some 65 := hGc rfl (by decide) ((show hR u 64 5 = gi_R h0 64 5 by unfold hR; rw [if_neg (by decide), if_neg (by decide), if_neg (by decide)]).trans (h0_R (64, 5, 65) (by decide)))
theorem hG_F_6 : gi_gR (hp u I L) 64 2 6 = some 66 := hGc rfl (by decide) ((show hR u 64 6 = gi_R h0 64 6 by unfold hR; rw [if_neg (by decide), if_neg (by decide), if_neg (by decide)]).trans (h0_R (64, 6, 66) (by decide)))
theorem hG_F_7 : gi_gR (hp u I L) 64 2 7 = some 67 := hGc rfl (by decide) ((show hR u 64 7 = gi_R h0 64 7 by unfold hR; rw [if_neg (by decide), if_neg (by decide), if_neg (by decide)]).trans (h0_R (64, 7, 67) (by decide)))
theorem hG_F_8 : gi_gR (hp u I L) 64 2 8 = some 68 := hGc rfl (by decide) ((show hR u 64 8 = gi_R h0 64 8 by unfold hR; rw [if_neg (by decide), if_neg (by decide), if_neg (by decide)]).trans (h0_R (64, 8, 68) (by decide)))
theorem hG_F_9 : gi_gR (hp u I L) 64 2 9 = some 69 := hGc rfl (by decide) ((show hR u 64 9 = gi_R h0 64 9 by unfold hR; rw [if_neg (by decide), if_neg (by decide), if_neg (by decide)]).trans (h0_R (64, 9, 69) (by decide)))
theorem hg_F_10 : gi_gI (hp u I L) 64 2 10 = some (I 64 10) := hg0 rfl (by decide)
theorem hq_F_10 {x : Int} : gi_pI (hp u I L) 64 2 10 x = some (hp u (gx_u I 64 10 x) L) := hq0 rfl (by decide)
theorem hG_F_11 : gi_gR (hp u I L) 64 2 11 = some 70 := hGc rfl (by decide) ((show hR u 64 11 = gi_R h0 64 11 by unfold hR; rw [if_neg (by decide), if_neg (by decide), if_neg (by decide)]).trans (h0_R (64, 11, 70) (by decide)))
theorem hG_F_12 : gi_gR (hp u I L) 64 2 12 = some 71 := hGc rfl (by decide) ((show hR u 64 12 = gi_R h0 64 12 by unfold hR; rw [if_neg (by decide), if_neg (by decide), if_neg (by decide)]).trans (h0_R (64, 12, 71) (by decide)))
theorem hG_F_13 : gi_gR (hp u I L) 64 2 13 = some 72 := hGc rfl (by decide) ((show hR u 64 13 = gi_R h0 64 13 by unfold hR; rw [if_neg (by decide), if_neg (by decide), if_neg (by decide)]).trans (h0_R (64, 13, 72) (by decide)))
theorem hi_A {v : Nat} (hv : v ∈ [73, 79]) : gi_is (hp u I L) v 0 = some () := by
  have key : ∀ v ∈ [73, 79], h0S.getD v (0, 0) = (0, 0) ∧ v < 162 := by decide
  exact hi0 (key v hv).1 (key v hv).2
theorem hG_A_0 {v : Nat} (hv : v ∈ [73, 79]) : gi_gR (hp u I L) v 0 0 = some 64 := by
  have key : ∀ v ∈ [73, 79], h0S.getD v (0, 0) = (0, 0) ∧ v < 162 ∧ (v, 0, 64) ∈ h0R ∧ ¬ (v = 0 ∧ 0 = 1) ∧ ¬ (v = 0 ∧ 0 = 2) ∧ ¬ (v = 64 ∧ 0 = 0) := by decide
  obtain ⟨k1, k2, k3, k4, k5, k6⟩ := key v hv
  refine hGc k1 k2 ?_
  unfold hR
  rw [if_neg k4, if_neg k5, if_neg k6]
  exact h0_R _ k3
theorem hg_A_1 {v : Nat} (hv : v ∈ [73, 79]) : gi_gI (hp u I L) v 0 1 = some (I v 1) := by
  have key : ∀ v ∈ [73, 79], h0S.getD v (0, 0) = (0, 0) ∧ v < 162 := by decide
  exact hg0 (key v hv).1 (key v hv).2
theorem hq_A_1 {v : Nat} {x : Int} (hv : v ∈ [73, 79]) (hx : x = 0 ∨ x = 1) : gi_pZ (hp u I L) v 0 1 x = some (hp u (gx_u I v 1 x) L) := by
  have key : ∀ v ∈ [73, 79], h0S.getD v (0, 0) = (0, 0) ∧ v < 162 := by decide
  exact hz0 (key v hv).1 (key v hv).2 hx
theorem hg_A_2 {v : Nat} (hv : v ∈ [73, 79]) : gi_gI (hp u I L) v 0 2 = some (I v 2) := by
  have key : ∀ v ∈ [73, 79], h0S.getD v (0, 0) = (0, 0) ∧ v < 162 := by decide
  exact hg0 (key v hv).1 (key v hv).2
theorem hq_A_2 {v : Nat} {x : Int} (hv : v ∈ [73, 79]) (hx : x = 0 ∨ x = 1) : gi_pZ (hp u I L) v 0 2 x = some (hp u (gx_u I v 2 x) L) := by
  have key : ∀ v ∈ [73, 79], h0S.getD v (0, 0) = (0, 0) ∧ v < 162 := by decide
  exact hz0 (key v hv).1 (key v hv).2 hx
theorem hg_A_3 {v : Nat} (hv : v ∈ [73, 79]) : gi_gI (hp u I L) v 0 3 = some (I v 3) := by
  have key : ∀ v ∈ [73, 79], h0S.getD v (0, 0) = (0, 0) ∧ v < 162 := by decide
  exact hg0 (key v hv).1 (key v hv).2
theorem hq_A_3 {v : Nat} {x : Int} (hv : v ∈ [73, 79]) (hx : x = 0 ∨ x = 1) : gi_pZ (hp u I L) v 0 3 x = some (hp u (gx_u I v 3 x) L) := by
  have key : ∀ v ∈ [73, 79], h0S.getD v (0, 0) = (0, 0) ∧ v < 162 := by decide
  exact hz0 (key v hv).1 (key v hv).2 hx
theorem hg_A_4 {v : Nat} (hv : v ∈ [73, 79]) : gi_gI (hp u I L) v 0 4 = some (I v 4) := by
  have key : ∀ v ∈ [73, 79], h0S.getD v (0, 0) = (0, 0) ∧ v < 162 := by decide
  exact hg0 (key v hv).1 (key v hv).2
theorem hq_A_4 {v : Nat} {x : Int} (hv : v ∈ [73, 79]) : gi_pI (hp u I L) v 0 4 x = some (hp u (gx_u I v 4 x) L) := by
  have key : ∀ v ∈ [73, 79], h0S.getD v (0, 0) = (0, 0) ∧ v < 162 := by decide
  exact hq0 (key v hv).1 (key v hv).2
theorem hG_A_5 {v : Nat} (hv : v ∈ [73, 79]) : gi_gR (hp u I L) v 0 5 = some (v + 1) := by
  have key : ∀ v ∈ [73, 79], h0S.getD v (0, 0) = (0, 0) ∧ v < 162 ∧ (v, 5, (v + 1)) ∈ h0R ∧ ¬ (v = 0 ∧ 5 = 1) ∧ ¬ (v = 0 ∧ 5 = 2) ∧ ¬ (v = 64 ∧ 5 = 0) := by decide
  obtain ⟨k1, k2, k3, k4, k5, k6⟩ := key v hv
  refine hGc k1 k2 ?_
  unfold hR
  rw [if_neg k4, if_neg k5, if_neg k6]
  exact h0_R _ k3
theorem hG_A_6 {v : Nat} (hv : v ∈ [73, 79]) : gi_gR (hp u I L) v 0 6 = some (v + 2) := by
  have key : ∀ v ∈ [73, 79], h0S.getD v (0, 0) = (0, 0) ∧ v < 162 ∧ (v, 6, (v + 2)) ∈ h0R ∧ ¬ (v = 0 ∧ 6 = 1) ∧ ¬ (v = 0 ∧ 6 = 2) ∧ ¬ (v = 64 ∧ 6 = 0) := by decide
  obtain ⟨k1, k2, k3, k4, k5, k6⟩ := key v hv
  refine hGc k1 k2 ?_
  unfold hR
  rw [if_neg k4, if_neg k5, if_neg k6]
  exact h0_R _ k3
theorem hG_A_7 {v : Nat} (hv : v ∈ [73, 79]) : gi_gR (hp u I L) v 0 7 = some (v + 3) := by
  have key : ∀ v ∈ [73, 79], h0S.getD v (0, 0) = (0, 0) ∧ v < 162 ∧ (v, 7, (v + 3)) ∈ h0R ∧ ¬ (v = 0 ∧ 7 = 1) ∧ ¬ (v = 0 ∧ 7 = 2) ∧ ¬ (v = 64 ∧ 7 = 0) := by decide
  obtain ⟨k1, k2, k3, k4, k5, k6⟩ := key v hv
  refine hGc k1 k2 ?_
  unfold hR
  rw [if_neg k4, if_neg k5, if_neg k6]
  exact h0_R _ k3
theorem hG_A_8 {v : Nat} (hv : v ∈ [73, 79]) : gi_gR (hp u I L) v 0 8 = some (v + 4) := by
  have key : ∀ v ∈ [73, 79], h0S.getD v (0, 0) = (0, 0) ∧ v < 162 ∧ (v, 8, (v + 4)) ∈ h0R ∧ ¬ (v = 0 ∧ 8 = 1) ∧ ¬ (v = 0 ∧ 8 = 2) ∧ ¬ (v = 64 ∧ 8 = 0) := by decide
  obtain ⟨k1, k2, k3, k4, k5, k6⟩ := key v hv
  refine hGc k1 k2 ?_
  unfold hR
  rw [if_neg k4, if_neg k5, if_neg k6]
  exact h0_R _ k3
theorem hG_A_9 {v : Nat} (hv : v ∈ [73, 79]) : gi_gR (hp u I L) v 0 9 = some (v + 5) := by
  have key : ∀ v ∈ [73, 79], h0S.getD v (0, 0) = (0, 0) ∧ v < 162 ∧ (v, 9, (v + 5)) ∈ h0R ∧ ¬ (v = 0 ∧ 9 = 1) ∧ ¬ (v = 0 ∧ 9 = 2) ∧ ¬ (v = 64 ∧ 9 = 0) := by decide
  obtain ⟨k1, k2, k3, k4, k5, k6⟩ := key v hv
  refine hGc k1 k2 ?_
  unfold hR
  rw [if_neg k4, if_neg k5, if_neg k6]
  exact h0_R _ k3
theorem hi_P : gi_is (hp u I L) 145 4 = some () := hi0 rfl (by decide)
theorem hg_P_0 : gi_gI (hp u I L) 145 4 0 = some (I 145 0) := hg0 rfl (by decide)
theorem hq_P_0 {x : Int} : gi_pI (hp u I L) 145 4 0 x = some (hp u (gx_u I 145 0 x) L) := hq0 rfl (by decide)
theorem hG_P_1 : gi_gR (hp u I L) 145 4 1 = some 64 := hGc rfl (by decide) ((show hR u 145 1 = gi_R h0 145 1 by unfold hR; rw [if_neg (by decide), if_neg (by decide), if_neg (by decide)]).trans (h0_R (145, 1, 64) (by decide)))
theorem hG_P_2 : gi_gR (hp u I L) 145 4 2 = some 63 := hGc rfl (by decide) ((show hR u 145 2 = gi_R h0 145 2 by unfold hR; rw [if_neg (by decide), if_neg (by decide), if_neg (by decide)]).trans (h0_R (145, 2, 63) (by decide)))
theorem hG_P_3 : gi_gR (hp u I L) 145 4 3 = some 146 := hGc rfl (by decide) ((show hR u 145 3 = gi_R h0 145 3 by unfold hR; rw [if_neg (by decide), if_neg (by decide), if_neg (by decide)]).trans (h0_R (145, 3, 146) (by decide)))
theorem hg_P_4 : gi_gI (hp u I L) 145 4 4 = some (I 145 4) := hg0 rfl (by decide)
theorem hq_P_4 {x : Int} : gi_pI (hp u I L) 145 4 4 x = some (hp u (gx_u I 145 4 x) L) := hq0 rfl (by decide)
theorem hG_P_5 : gi_gR (hp u I L) 145 4 5 = some 147 := hGc rfl (by decide) ((show hR u 145 5 = gi_R h0 145 5 by unfold hR; rw [if_neg (by decide), if_neg (by decide), if_neg (by decide)]).trans (h0_R (145, 5, 147) (by decide)))
theorem hg_P_6 : gi_gI (hp u I L) 145 4 6 = some (I 145 6) := hg0 rfl (by decide)
theorem hq_P_6 {x : Int} : gi_pI (hp u I L) 145 4 6 x = some (hp u (gx_u I 145 6 x) L) := hq0 rfl (by decide)
theorem hi_S {v : Nat} (hv : v ∈ [148, 151, 154]) : gi_is (hp u I L) v 8 = some () := by
  have key : ∀ v ∈ [148, 151, 154], h0S.getD v (0, 0) = (0, 8) ∧ v < 162 := by decide
  exact hi0 (key v hv).1 (key v hv).2
theorem hg_S_0 {v : Nat} (hv : v ∈ [148, 151, 154]) : gi_gI (hp u I L) v 8 0 = some (I v 0) := by
  have key : ∀ v ∈ [148, 151, 154], h0S.getD v (0, 0) = (0, 8) ∧ v < 162 := by decide
  exact hg0 (key v hv).1 (key v hv).2
theorem hq_S_0 {v : Nat} {x : Int} (hv : v ∈ [148, 151, 154]) : gi_pI (hp u I L) v 8 0 x = some (hp u (gx_u I v 0 x) L) := by
  have key : ∀ v ∈ [148, 151, 154], h0S.getD v (0, 0) = (0, 8) ∧ v < 162 := by decide
  exact hq0 (key v hv).1 (key v hv).2
theorem hG_S_1 {v : Nat} (hv : v ∈ [148, 151, 154]) : gi_gR (hp u I L) v 8 1 = some (if v = 154 then 79 else 73) := by
  have key : ∀ v ∈ [148, 151, 154], h0S.getD v (0, 0) = (0, 8) ∧ v < 162 ∧ (v, 1, (if v = 154 then 79 else 73)) ∈ h0R ∧ ¬ (v = 0 ∧ 1 = 1) ∧ ¬ (v = 0 ∧ 1 = 2) ∧ ¬ (v = 64 ∧ 1 = 0) := by decide
  obtain ⟨k1, k2, k3, k4, k5, k6⟩ := key v hv
  refine hGc k1 k2 ?_
  unfold hR
  rw [if_neg k4, if_neg k5, if_neg k6]
  exact h0_R _ k3
theorem hg_S_2 {v : Nat} (hv : v ∈ [148, 151, 154]) : gi_gI (hp u I L) v 8 2 = some (I v 2) := by
  have key : ∀ v ∈ [148, 151, 154], h0S.getD v (0, 0) = (0, 8) ∧ v < 162 := by decide
  exact hg0 (key v hv).1 (key v hv).2
theorem hq_S_2 {v : Nat} {x : Int} (hv : v ∈ [148, 151, 154]) (hx : x = 0 ∨ x = 1) : gi_pZ (hp u I L) v 8 2 x = some (hp u (gx_u I v 2 x) L) := by
  have key : ∀ v ∈ [148, 151, 154], h0S.getD v (0, 0) = (0, 8) ∧ v < 162 := by decide
  exact hz0 (key v hv).1 (key v hv).2 hx
theorem hG_S_3 {v : Nat} (hv : v ∈ [148, 151, 154]) : gi_gR (hp u I L) v 8 3 = some 61 := by
  have key : ∀ v ∈ [148, 151, 154], h0S.getD v (0, 0) = (0, 8) ∧ v < 162 ∧ (v, 3, 61) ∈ h0R ∧ ¬ (v = 0 ∧ 3 = 1) ∧ ¬ (v = 0 ∧ 3 = 2) ∧ ¬ (v = 64 ∧ 3 = 0) := by decide
  obtain ⟨k1, k2, k3, k4, k5, k6⟩ := key v hv
  refine hGc k1 k2 ?_
  unfold hR
  rw [if_neg k4, if_neg k5, if_neg k6]
  exact h0_R _ k3
theorem hG_S_4 {v : Nat} (hv : v ∈ [148, 151, 154]) : gi_gR (hp u I L) v 8 4 = some 62 := by
  have key : ∀ v ∈ [148, 151, 154], h0S.getD v (0, 0) = (0, 8) ∧ v < 162 ∧ (v, 4, 62) ∈ h0R ∧ ¬ (v = 0 ∧ 4 = 1) ∧ ¬ (v = 0 ∧ 4 = 2) ∧ ¬ (v = 64 ∧ 4 = 0) := by decide
  obtain ⟨k1, k2, k3, k4, k5, k6⟩ := key v hv
  refine hGc k1 k2 ?_
  unfold hR
  rw [if_neg k4, if_neg k5, if_neg k6]
  exact h0_R _ k3
theorem hG_S_5 {v : Nat} (hv : v ∈ [148, 151, 154]) : gi_gR (hp u I L) v 8 5 = some 63 := by
  have key : ∀ v ∈ [148, 151, 154], h0S.getD v (0, 0) = (0, 8) ∧ v < 162 ∧ (v, 5, 63) ∈ h0R ∧ ¬ (v = 0 ∧ 5 = 1) ∧ ¬ (v = 0 ∧ 5 = 2) ∧ ¬ (v = 64 ∧ 5 = 0) := by decide
  obtain ⟨k1, k2, k3, k4, k5, k6⟩ := key v hv
  refine hGc k1 k2 ?_
  unfold hR
  rw [if_neg k4, if_neg k5, if_neg k6]
  exact h0_R _ k3
theorem hg_S_6 {v : Nat} (hv : v ∈ [148, 151, 154]) : gi_gI (hp u I L) v 8 6 = some (I v 6) := by
  have key : ∀ v ∈ [148, 151, 154], h0S.getD v (0, 0) = (0, 8) ∧ v < 162 := by decide
  exact hg0 (key v hv).1 (key v hv).2
theorem hq_S_6 {v : Nat} {x : Int} (hv : v ∈ [148, 151, 154]) (hx : x = 0 ∨ x = 1) : gi_pZ (hp u I L) v 8 6 x = some (hp u (gx_u I v 6 x) L) := by
  have key : ∀ v ∈ [148, 151, 154], h0S.getD v (0, 0) = (0, 8) ∧ v < 162 := by decide
  exact hz0 (key v hv).1 (key v hv).2 hx
theorem hg_S_7 {v : Nat} (hv : v ∈ [148, 151, 154]) : gi_gI (hp u I L) v 8 7 = some (I v 7) := by
  have key : ∀ v ∈ [148, 151, 154], h0S.getD v (0, 0) = (0, 8) ∧ v < 162 := by decide
  exact hg0 (key v hv).1 (key v hv).2
theorem hq_S_7 {v : Nat} {x : Int} (hv : v ∈ [148, 151, 154]) (hx : x = 0 ∨ x = 1) : gi_pZ (hp u I L) v 8 7 x = some (hp u (gx_u I v 7 x) L) := by
  have key : ∀ v ∈ [148, 151, 154], h0S.getD v (0, 0) = (0, 8) ∧ v < 162 := by decide
  exact hz0 (key v hv).1 (key v hv).2 hx
theorem hg_S_8 {v : Nat} (hv : v ∈ [148, 151, 154]) : gi_gI (hp u I L) v 8 8 = some (I v 8) := by
  have key : ∀ v ∈ [148, 151, 154], h0S.getD v (0, 0) = (0, 8) ∧ v < 162 := by decide
  exact hg0 (key v hv).1 (key v hv).2
theorem hq_S_8 {v : Nat} {x : Int} (hv : v ∈ [148, 151, 154]) : gi_pI (hp u I L) v 8 8 x = some (hp u (gx_u I v 8 x) L) := by
  have key : ∀ v ∈ [148, 151, 154], h0S.getD v (0, 0) = (0, 8) ∧ v < 162 := by decide
  exact hq0 (key v hv).1 (key v hv).2
theorem hg_S_9 {v : Nat} (hv : v ∈ [148, 151, 154]) : gi_gI (hp u I L) v 8 9 = some (I v 9) := by
  have key : ∀ v ∈ [148, 151, 154], h0S.getD v (0, 0) = (0, 8) ∧ v < 162 := by decide
  exact hg0 (key v hv).1 (key v hv).2
theorem hq_S_9 {v : Nat} {x : Int} (hv : v ∈ [148, 151, 154]) : gi_pI (hp u I L) v 8 9 x = some (hp u (gx_u I v 9 x) L) := by
  have key : ∀ v ∈ [148, 151, 154], h0S.getD v (0, 0) = (0, 8) ∧ v < 162 := by decide
  exact hq0 (key v hv).1 (key v hv).2
theorem hG_S_10 {v : Nat} (hv : v ∈ [148, 151, 154]) : gi_gR (hp u I L) v 8 10 = some (v + 1) := by
  have key : ∀ v ∈ [148, 151, 154], h0S.getD v (0, 0) = (0, 8) ∧ v < 162 ∧ (v, 10, (v + 1)) ∈ h0R ∧ ¬ (v = 0 ∧ 10 = 1) ∧ ¬ (v = 0 ∧ 10 = 2) ∧ ¬ (v = 64 ∧ 10 = 0) := by decide
  obtain ⟨k1, k2, k3, k4, k5, k6⟩ := key v hv
  refine hGc k1 k2 ?_
  unfold hR
  rw [if_neg k4, if_neg k5, if_neg k6]
  exact h0_R _ k3
theorem hG_S_11 {v : Nat} (hv : v ∈ [148, 151, 154]) : gi_gR (hp u I L) v 8 11 = some (v + 2) := by
  have key : ∀ v ∈ [148, 151, 154], h0S.getD v (0, 0) = (0, 8) ∧ v < 162 ∧ (v, 11, (v + 2)) ∈ h0R ∧ ¬ (v = 0 ∧ 11 = 1) ∧ ¬ (v = 0 ∧ 11 = 2) ∧ ¬ (v = 64 ∧ 11 = 0) := by decide
  obtain ⟨k1, k2, k3, k4, k5, k6⟩ := key v hv
  refine hGc k1 k2 ?_
  unfold hR
  rw [if_neg k4, if_neg k5, if_neg k6]
  exact h0_R _ k3
theorem hg_S_12 {v : Nat} (hv : v ∈ [148, 151, 154]) : gi_gI (hp u I L) v 8 12 = some (I v 12) := by
  have key : ∀ v ∈ [148, 151, 154], h0S.getD v (0, 0) = (0, 8) ∧ v < 162 := by decide
  exact hg0 (key v hv).1 (key v hv).2
theorem hq_S_12 {v : Nat} {x : Int} (hv : v ∈ [148, 151, 154]) : gi_pI (hp u I L) v 8 12 x = some (hp u (gx_u I v 12 x) L) := by
  have key : ∀ v ∈ [148, 151, 154], h0S.getD v (0, 0) = (0, 8) ∧ v < 162 := by decide
  exact hq0 (key v hv).1 (key v hv).2
theorem hi_C : gi_is (hp u I L) 157 1 = some () := hi0 rfl (by decide)
theorem hG_C_0 : gi_gR (hp u I L) 157 1 0 = some 64 := hGc rfl (by decide) ((show hR u 157 0 = gi_R h0 157 0 by unfold hR; rw [if_neg (by decide), if_neg (by decide), if_neg (by decide)]).trans (h0_R (157, 0, 64) (by decide)))
theorem hG_C_1 : gi_gR (hp u I L) 157 1 1 = some 63 := hGc rfl (by decide) ((show hR u 157 1 = gi_R h0 157 1 by unfold hR; rw [if_neg (by decide), if_neg (by decide), if_neg (by decide)]).trans (h0_R (157, 1, 63) (by decide)))
theorem hG_C_2 : gi_gR (hp u I L) 157 1 2 = some 85 := hGc rfl (by decide) ((show hR u 157 2 = gi_R h0 157 2 by unfold hR; rw [if_neg (by decide), if_neg (by decide), if_neg (by decide)]).trans (h0_R (157, 2, 85) (by decide)))
theorem hG_C_3 : gi_gR (hp u I L) 157 1 3 = some 86 := hGc rfl (by decide) ((show hR u 157 3 = gi_R h0 157 3 by unfold hR; rw [if_neg (by decide), if_neg (by decide), if_neg (by decide)]).trans (h0_R (157, 3, 86) (by decide)))
theorem hG_C_4 : gi_gR (hp u I L) 157 1 4 = some 158 := hGc rfl (by decide) ((show hR u 157 4 = gi_R h0 157 4 by unfold hR; rw [if_neg (by decide), if_neg (by decide), if_neg (by decide)]).trans (h0_R (157, 4, 158) (by decide)))
theorem hi_D : gi_is (hp u I L) 159 5 = some () := hi0 rfl (by decide)
theorem hG_D_0 : gi_gR (hp u I L) 159 5 0 = some 64 := hGc rfl (by decide) ((show hR u 159 0 = gi_R h0 159 0 by unfold hR; rw [if_neg (by decide), if_neg (by decide), if_neg (by decide)]).trans (h0_R (159, 0, 64) (by decide)))
theorem hG_D_1 : gi_gR (hp u I L) 159 5 1 = some 63 := hGc rfl (by decide) ((show hR u 159 1 = gi_R h0 159 1 by unfold hR; rw [if_neg (by decide), if_neg (by decide), if_neg (by decide)]).trans (h0_R (159, 1, 63) (by decide)))
theorem hG_D_2 : gi_gR (hp u I L) 159 5 2 = some 85 := hGc rfl (by decide) ((show hR u 159 2 = gi_R h0 159 2 by unfold hR; rw [if_neg (by decide), if_neg (by decide), if_neg (by decide)]).trans (h0_R (159, 2, 85) (by decide)))
theorem hG_D_3 : gi_gR (hp u I L) 159 5 3 = some 86 := hGc rfl (by decide) ((show hR u 159 3 = gi_R h0 159 3 by unfold hR; rw [if_neg (by decide), if_neg (by decide), if_neg (by decide)]).trans (h0_R (159, 3, 86) (by decide)))
theorem hG_D_4 : gi_gR (hp u I L) 159 5 4 = some 160 := hGc rfl (by decide) ((show hR u 159 4 = gi_R h0 159 4 by unfold hR; rw [if_neg (by decide), if_neg (by decide), if_neg (by decide)]).trans (h0_R (159, 4, 160) (by decide)))
theorem ha_T_1 {v : Nat} {i : Int} (hv : v ∈ gTX) (h1 : 0 ≤ i) (h2 : i < 24) : gi_aI (hp u I L) 3 (v + 1) i = some (I (v + 1) i.toNat) := by
  have key : ∀ v ∈ gTX, h0S.getD (v + 1) (0, 0) = (3, 24) ∧ v + 1 < 162 := by decide
  exact ha0 (key v hv).1 (key v hv).2 (by decide) h1 h2
theorem hs_T_1 {v : Nat} {i x : Int} (hv : v ∈ gTX) (h1 : 0 ≤ i) (h2 : i < 24) (h3 : 0 ≤ x) (h4 : x ≤ 65535) : gi_s3 (hp u I L) (v + 1) i x = some (hp u (gx_u I (v + 1) i.toNat x) L) := by
  have key : ∀ v ∈ gTX, h0S.getD (v + 1) (0, 0) = (3, 24) ∧ v + 1 < 162 := by decide
  exact hs30 (key v hv).1 (key v hv).2 (by decide) h1 h2 h3 h4
theorem hl_T_1 {v : Nat} (hv : v ∈ gTX) : gi_ln (hp u I L) (v + 1) = some 24 := by
  have key : ∀ v ∈ gTX, h0S.getD (v + 1) (0, 0) = (3, 24) ∧ v + 1 < 162 := by decide
  exact hl0 (key v hv).1 (key v hv).2 (by decide)
theorem ha_G_1 {v : Nat} {i : Int} (hv : v ∈ [3, 87]) (h1 : 0 ≤ i) (h2 : i < 24) : gi_aI (hp u I L) 1 (v + 1) i = some (I (v + 1) i.toNat) := by
  have key : ∀ v ∈ [3, 87], h0S.getD (v + 1) (0, 0) = (1, 24) ∧ v + 1 < 162 := by decide
  exact ha0 (key v hv).1 (key v hv).2 (by decide) h1 h2
theorem hs_G_1 {v : Nat} {i x : Int} (hv : v ∈ [3, 87]) (h1 : 0 ≤ i) (h2 : i < 24) : gi_s1 (hp u I L) (v + 1) i x = some (hp u (gx_u I (v + 1) i.toNat x) L) := by
  have key : ∀ v ∈ [3, 87], h0S.getD (v + 1) (0, 0) = (1, 24) ∧ v + 1 < 162 := by decide
  exact hs0 (key v hv).1 (key v hv).2 (by decide) h1 h2
theorem hl_G_1 {v : Nat} (hv : v ∈ [3, 87]) : gi_ln (hp u I L) (v + 1) = some 24 := by
  have key : ∀ v ∈ [3, 87], h0S.getD (v + 1) (0, 0) = (1, 24) ∧ v + 1 < 162 := by decide
  exact hl0 (key v hv).1 (key v hv).2 (by decide)
theorem ha_G_2 {v : Nat} {i : Int} (hv : v ∈ [3, 87]) (h1 : 0 ≤ i) (h2 : i < 120) : gi_aI (hp u I L) 1 (v + 2) i = some (I (v + 2) i.toNat) := by
  have key : ∀ v ∈ [3, 87], h0S.getD (v + 2) (0, 0) = (1, 120) ∧ v + 2 < 162 := by decide
  exact ha0 (key v hv).1 (key v hv).2 (by decide) h1 h2
theorem hs_G_2 {v : Nat} {i x : Int} (hv : v ∈ [3, 87]) (h1 : 0 ≤ i) (h2 : i < 120) : gi_s1 (hp u I L) (v + 2) i x = some (hp u (gx_u I (v + 2) i.toNat x) L) := by
  have key : ∀ v ∈ [3, 87], h0S.getD (v + 2) (0, 0) = (1, 120) ∧ v + 2 < 162 := by decide
  exact hs0 (key v hv).1 (key v hv).2 (by decide) h1 h2
theorem hl_G_2 {v : Nat} (hv : v ∈ [3, 87]) : gi_ln (hp u I L) (v + 2) = some 120 := by
  have key : ∀ v ∈ [3, 87], h0S.getD (v + 2) (0, 0) = (1, 120) ∧ v + 2 < 162 := by decide
  exact hl0 (key v hv).1 (key v hv).2 (by decide)
theorem ha_G_3 {v : Nat} {i : Int} (hv : v ∈ [3, 87]) (h1 : 0 ≤ i) (h2 : i < 24) : gi_aI (hp u I L) 1 (v + 3) i = some (I (v + 3) i.toNat) := by
  have key : ∀ v ∈ [3, 87], h0S.getD (v + 3) (0, 0) = (1, 24) ∧ v + 3 < 162 := by decide
  exact ha0 (key v hv).1 (key v hv).2 (by decide) h1 h2
theorem hs_G_3 {v : Nat} {i x : Int} (hv : v ∈ [3, 87]) (h1 : 0 ≤ i) (h2 : i < 24) : gi_s1 (hp u I L) (v + 3) i x = some (hp u (gx_u I (v + 3) i.toNat x) L) := by
  have key : ∀ v ∈ [3, 87], h0S.getD (v + 3) (0, 0) = (1, 24) ∧ v + 3 < 162 := by decide
  exact hs0 (key v hv).1 (key v hv).2 (by decide) h1 h2
theorem hl_G_3 {v : Nat} (hv : v ∈ [3, 87]) : gi_ln (hp u I L) (v + 3) = some 24 := by
  have key : ∀ v ∈ [3, 87], h0S.getD (v + 3) (0, 0) = (1, 24) ∧ v + 3 < 162 := by decide
  exact hl0 (key v hv).1 (key v hv).2 (by decide)
theorem ha_G_4 {v : Nat} {i : Int} (hv : v ∈ [3, 87]) (h1 : 0 ≤ i) (h2 : i < 24) : gi_aR (hp u I L) (v + 4) i = some (hR u (v + 4) i.toNat) := by
  have key : ∀ v ∈ [3, 87], h0S.getD (v + 4) (0, 0) = (5, 24) ∧ v + 4 < 162 := by decide
  exact haR0 (key v hv).1 (key v hv).2 (by decide) h1 h2
theorem hl_G_4 {v : Nat} (hv : v ∈ [3, 87]) : gi_ln (hp u I L) (v + 4) = some 24 := by
  have key : ∀ v ∈ [3, 87], h0S.getD (v + 4) (0, 0) = (5, 24) ∧ v + 4 < 162 := by decide
  exact hl0 (key v hv).1 (key v hv).2 (by decide)
theorem ha_G_5 {v : Nat} {i : Int} (hv : v ∈ [3, 87]) (h1 : 0 ≤ i) (h2 : i < 24) : gi_aI (hp u I L) 1 (v + 5) i = some (I (v + 5) i.toNat) := by
  have key : ∀ v ∈ [3, 87], h0S.getD (v + 5) (0, 0) = (1, 24) ∧ v + 5 < 162 := by decide
  exact ha0 (key v hv).1 (key v hv).2 (by decide) h1 h2
theorem hs_G_5 {v : Nat} {i x : Int} (hv : v ∈ [3, 87]) (h1 : 0 ≤ i) (h2 : i < 24) : gi_s1 (hp u I L) (v + 5) i x = some (hp u (gx_u I (v + 5) i.toNat x) L) := by
  have key : ∀ v ∈ [3, 87], h0S.getD (v + 5) (0, 0) = (1, 24) ∧ v + 5 < 162 := by decide
  exact hs0 (key v hv).1 (key v hv).2 (by decide) h1 h2
theorem hl_G_5 {v : Nat} (hv : v ∈ [3, 87]) : gi_ln (hp u I L) (v + 5) = some 24 := by
  have key : ∀ v ∈ [3, 87], h0S.getD (v + 5) (0, 0) = (1, 24) ∧ v + 5 < 162 := by decide
  exact hl0 (key v hv).1 (key v hv).2 (by decide)
theorem ha_R_1 {v : Nat} {i : Int} (hv : v ∈ [11, 95]) (h1 : 0 ≤ i) (h2 : i < 24) : gi_aI (hp u I L) 1 (v + 1) i = some (I (v + 1) i.toNat) := by
  have key : ∀ v ∈ [11, 95], h0S.getD (v + 1) (0, 0) = (1, 24) ∧ v + 1 < 162 := by decide
  exact ha0 (key v hv).1 (key v hv).2 (by decide) h1 h2
theorem hs_R_1 {v : Nat} {i x : Int} (hv : v ∈ [11, 95]) (h1 : 0 ≤ i) (h2 : i < 24) : gi_s1 (hp u I L) (v + 1) i x = some (hp u (gx_u I (v + 1) i.toNat x) L) := by
  have key : ∀ v ∈ [11, 95], h0S.getD (v + 1) (0, 0) = (1, 24) ∧ v + 1 < 162 := by decide
  exact hs0 (key v hv).1 (key v hv).2 (by decide) h1 h2
theorem hl_R_1 {v : Nat} (hv : v ∈ [11, 95]) : gi_ln (hp u I L) (v + 1) = some 24 := by
  have key : ∀ v ∈ [11, 95], h0S.getD (v + 1) (0, 0) = (1, 24) ∧ v + 1 < 162 := by decide
  exact hl0 (key v hv).1 (key v hv).2 (by decide)
theorem ha_A_1 {v : Nat} {i : Int} (hv : v ∈ [73, 79]) (h1 : 0 ≤ i) (h2 : i < 12000) : gi_aI (hp u I L) 1 (v + 1) i = some (I (v + 1) i.toNat) := by
  have key : ∀ v ∈ [73, 79], h0S.getD (v + 1) (0, 0) = (1, 12000) ∧ v + 1 < 162 := by decide
  exact ha0 (key v hv).1 (key v hv).2 (by decide) h1 h2
theorem hs_A_1 {v : Nat} {i x : Int} (hv : v ∈ [73, 79]) (h1 : 0 ≤ i) (h2 : i < 12000) : gi_s1 (hp u I L) (v + 1) i x = some (hp u (gx_u I (v + 1) i.toNat x) L) := by
  have key : ∀ v ∈ [73, 79], h0S.getD (v + 1) (0, 0) = (1, 12000) ∧ v + 1 < 162 := by decide
  exact hs0 (key v hv).1 (key v hv).2 (by decide) h1 h2
theorem hl_A_1 {v : Nat} (hv : v ∈ [73, 79]) : gi_ln (hp u I L) (v + 1) = some 12000 := by
  have key : ∀ v ∈ [73, 79], h0S.getD (v + 1) (0, 0) = (1, 12000) ∧ v + 1 < 162 := by decide
  exact hl0 (key v hv).1 (key v hv).2 (by decide)
theorem ha_A_2 {v : Nat} {i : Int} (hv : v ∈ [73, 79]) (h1 : 0 ≤ i) (h2 : i < 2560) : gi_aI (hp u I L) 1 (v + 2) i = some (I (v + 2) i.toNat) := by
  have key : ∀ v ∈ [73, 79], h0S.getD (v + 2) (0, 0) = (1, 2560) ∧ v + 2 < 162 := by decide
  exact ha0 (key v hv).1 (key v hv).2 (by decide) h1 h2
theorem hs_A_2 {v : Nat} {i x : Int} (hv : v ∈ [73, 79]) (h1 : 0 ≤ i) (h2 : i < 2560) : gi_s1 (hp u I L) (v + 2) i x = some (hp u (gx_u I (v + 2) i.toNat x) L) := by
  have key : ∀ v ∈ [73, 79], h0S.getD (v + 2) (0, 0) = (1, 2560) ∧ v + 2 < 162 := by decide
  exact hs0 (key v hv).1 (key v hv).2 (by decide) h1 h2
theorem hl_A_2 {v : Nat} (hv : v ∈ [73, 79]) : gi_ln (hp u I L) (v + 2) = some 2560 := by
  have key : ∀ v ∈ [73, 79], h0S.getD (v + 2) (0, 0) = (1, 2560) ∧ v + 2 < 162 := by decide
  exact hl0 (key v hv).1 (key v hv).2 (by decide)
theorem ha_A_3 {v : Nat} {i : Int} (hv : v ∈ [73, 79]) (h1 : 0 ≤ i) (h2 : i < 80) : gi_aI (hp u I L) 1 (v + 3) i = some (I (v + 3) i.toNat) := by
  have key : ∀ v ∈ [73, 79], h0S.getD (v + 3) (0, 0) = (1, 80) ∧ v + 3 < 162 := by decide
  exact ha0 (key v hv).1 (key v hv).2 (by decide) h1 h2
theorem hs_A_3 {v : Nat} {i x : Int} (hv : v ∈ [73, 79]) (h1 : 0 ≤ i) (h2 : i < 80) : gi_s1 (hp u I L) (v + 3) i x = some (hp u (gx_u I (v + 3) i.toNat x) L) := by
  have key : ∀ v ∈ [73, 79], h0S.getD (v + 3) (0, 0) = (1, 80) ∧ v + 3 < 162 := by decide
  exact hs0 (key v hv).1 (key v hv).2 (by decide) h1 h2
theorem hl_A_3 {v : Nat} (hv : v ∈ [73, 79]) : gi_ln (hp u I L) (v + 3) = some 80 := by
  have key : ∀ v ∈ [73, 79], h0S.getD (v + 3) (0, 0) = (1, 80) ∧ v + 3 < 162 := by decide
  exact hl0 (key v hv).1 (key v hv).2 (by decide)
theorem ha_A_4 {v : Nat} {i : Int} (hv : v ∈ [73, 79]) (h1 : 0 ≤ i) (h2 : i < 80) : gi_aI (hp u I L) 4 (v + 4) i = some (I (v + 4) i.toNat) := by
  have key : ∀ v ∈ [73, 79], h0S.getD (v + 4) (0, 0) = (4, 80) ∧ v + 4 < 162 := by decide
  exact ha0 (key v hv).1 (key v hv).2 (by decide) h1 h2
theorem hs_A_4 {v : Nat} {i x : Int} (hv : v ∈ [73, 79]) (h1 : 0 ≤ i) (h2 : i < 80) (h3 : x = 0 ∨ x = 1) : gi_s4 (hp u I L) (v + 4) i x = some (hp u (gx_u I (v + 4) i.toNat x) L) := by
  have key : ∀ v ∈ [73, 79], h0S.getD (v + 4) (0, 0) = (4, 80) ∧ v + 4 < 162 := by decide
  exact hs40 (key v hv).1 (key v hv).2 (by decide) h1 h2 h3
theorem hl_A_4 {v : Nat} (hv : v ∈ [73, 79]) : gi_ln (hp u I L) (v + 4) = some 80 := by
  have key : ∀ v ∈ [73, 79], h0S.getD (v + 4) (0, 0) = (4, 80) ∧ v + 4 < 162 := by decide
  exact hl0 (key v hv).1 (key v hv).2 (by decide)
theorem ha_A_5 {v : Nat} {i : Int} (hv : v ∈ [73, 79]) (h1 : 0 ≤ i) (h2 : i < 150) : gi_aI (hp u I L) 1 (v + 5) i = some (I (v + 5) i.toNat) := by
  have key : ∀ v ∈ [73, 79], h0S.getD (v + 5) (0, 0) = (1, 150) ∧ v + 5 < 162 := by decide
  exact ha0 (key v hv).1 (key v hv).2 (by decide) h1 h2
theorem hs_A_5 {v : Nat} {i x : Int} (hv : v ∈ [73, 79]) (h1 : 0 ≤ i) (h2 : i < 150) : gi_s1 (hp u I L) (v + 5) i x = some (hp u (gx_u I (v + 5) i.toNat x) L) := by
  have key : ∀ v ∈ [73, 79], h0S.getD (v + 5) (0, 0) = (1, 150) ∧ v + 5 < 162 := by decide
  exact hs0 (key v hv).1 (key v hv).2 (by decide) h1 h2
theorem hl_A_5 {v : Nat} (hv : v ∈ [73, 79]) : gi_ln (hp u I L) (v + 5) = some 150 := by
  have key : ∀ v ∈ [73, 79], h0S.getD (v + 5) (0, 0) = (1, 150) ∧ v + 5 < 162 := by decide
  exact hl0 (key v hv).1 (key v hv).2 (by decide)
theorem ha_S_1 {v : Nat} {i : Int} (hv : v ∈ [148, 151, 154]) (h1 : 0 ≤ i) (h2 : i < 301) : gi_aI (hp u I L) 1 (v + 1) i = some (I (v + 1) i.toNat) := by
  have key : ∀ v ∈ [148, 151, 154], h0S.getD (v + 1) (0, 0) = (1, 301) ∧ v + 1 < 162 := by decide
  exact ha0 (key v hv).1 (key v hv).2 (by decide) h1 h2
theorem hs_S_1 {v : Nat} {i x : Int} (hv : v ∈ [148, 151, 154]) (h1 : 0 ≤ i) (h2 : i < 301) : gi_s1 (hp u I L) (v + 1) i x = some (hp u (gx_u I (v + 1) i.toNat x) L) := by
  have key : ∀ v ∈ [148, 151, 154], h0S.getD (v + 1) (0, 0) = (1, 301) ∧ v + 1 < 162 := by decide
  exact hs0 (key v hv).1 (key v hv).2 (by decide) h1 h2
theorem hl_S_1 {v : Nat} (hv : v ∈ [148, 151, 154]) : gi_ln (hp u I L) (v + 1) = some 301 := by
  have key : ∀ v ∈ [148, 151, 154], h0S.getD (v + 1) (0, 0) = (1, 301) ∧ v + 1 < 162 := by decide
  exact hl0 (key v hv).1 (key v hv).2 (by decide)
theorem ha_S_2 {v : Nat} {i : Int} (hv : v ∈ [148, 151, 154]) (h1 : 0 ≤ i) (h2 : i < 301) : gi_aI (hp u I L) 1 (v + 2) i = some (I (v + 2) i.toNat) := by
  have key : ∀ v ∈ [148, 151, 154], h0S.getD (v + 2) (0, 0) = (1, 301) ∧ v + 2 < 162 := by decide
  exact ha0 (key v hv).1 (key v hv).2 (by decide) h1 h2
theorem hs_S_2 {v : Nat} {i x : Int} (hv : v ∈ [148, 151, 154]) (h1 : 0 ≤ i) (h2 : i < 301) : gi_s1 (hp u I L) (v + 2) i x = some (hp u (gx_u I (v + 2) i.toNat x) L) := by
  have key : ∀ v ∈ [148, 151, 154], h0S.getD (v + 2) (0, 0) = (1, 301) ∧ v + 2 < 162 := by decide
  exact hs0 (key v hv).1 (key v hv).2 (by decide) h1 h2
theorem hl_S_2 {v : Nat} (hv : v ∈ [148, 151, 154]) : gi_ln (hp u I L) (v + 2) = some 301 := by
  have key : ∀ v ∈ [148, 151, 154], h0S.getD (v + 2) (0, 0) = (1, 301) ∧ v + 2 < 162 := by decide
  exact hl0 (key v hv).1 (key v hv).2 (by decide)
theorem ha_61 {i : Int} (h1 : 0 ≤ i) (h2 : i < 8) : gi_aI (hp u I L) 1 61 i = some (I 61 i.toNat) := ha0 rfl (by decide) (by decide) h1 h2
theorem hs_61 {i x : Int} (h1 : 0 ≤ i) (h2 : i < 8) : gi_s1 (hp u I L) 61 i x = some (hp u (gx_u I 61 i.toNat x) L) := hs0 rfl (by decide) (by decide) h1 h2
theorem hl_61 : gi_ln (hp u I L) 61 = some 8 := hl0 rfl (by decide) (by decide)
theorem ha_62 {i : Int} (h1 : 0 ≤ i) (h2 : i < 8) : gi_aI (hp u I L) 1 62 i = some (I 62 i.toNat) := ha0 rfl (by decide) (by decide) h1 h2
theorem hs_62 {i x : Int} (h1 : 0 ≤ i) (h2 : i < 8) : gi_s1 (hp u I L) 62 i x = some (hp u (gx_u I 62 i.toNat x) L) := hs0 rfl (by decide) (by decide) h1 h2
theorem hl_62 : gi_ln (hp u I L) 62 = some 8 := hl0 rfl (by decide) (by decide)
theorem ha_63 {i : Int} (h1 : 0 ≤ i) (h2 : i < 13) : gi_aI (hp u I L) 1 63 i = some (I 63 i.toNat) := ha0 rfl (by decide) (by decide) h1 h2
theorem hs_63 {i x : Int} (h1 : 0 ≤ i) (h2 : i < 13) : gi_s1 (hp u I L) 63 i x = some (hp u (gx_u I 63 i.toNat x) L) := hs0 rfl (by decide) (by decide) h1 h2
theorem hl_63 : gi_ln (hp u I L) 63 = some 13 := hl0 rfl (by decide) (by decide)
theorem ha_65 {i : Int} (h1 : 0 ≤ i) (h2 : i < 32) : gi_aI (hp u I L) 1 65 i = some (I 65 i.toNat) := ha0 rfl (by decide) (by decide) h1 h2
theorem hs_65 {i x : Int} (h1 : 0 ≤ i) (h2 : i < 32) : gi_s1 (hp u I L) 65 i x = some (hp u (gx_u I 65 i.toNat x) L) := hs0 rfl (by decide) (by decide) h1 h2
theorem hl_65 : gi_ln (hp u I L) 65 = some 32 := hl0 rfl (by decide) (by decide)
theorem ha_66 {i : Int} (h1 : 0 ≤ i) (h2 : i < 16) : gi_aI (hp u I L) 1 66 i = some (I 66 i.toNat) := ha0 rfl (by decide) (by decide) h1 h2
theorem hs_66 {i x : Int} (h1 : 0 ≤ i) (h2 : i < 16) : gi_s1 (hp u I L) 66 i x = some (hp u (gx_u I 66 i.toNat x) L) := hs0 rfl (by decide) (by decide) h1 h2
theorem hl_66 : gi_ln (hp u I L) 66 = some 16 := hl0 rfl (by decide) (by decide)
theorem ha_67 {i : Int} (h1 : 0 ≤ i) (h2 : i < 24) : gi_aI (hp u I L) 1 67 i = some (I 67 i.toNat) := ha0 rfl (by decide) (by decide) h1 h2
theorem hs_67 {i x : Int} (h1 : 0 ≤ i) (h2 : i < 24) : gi_s1 (hp u I L) 67 i x = some (hp u (gx_u I 67 i.toNat x) L) := hs0 rfl (by decide) (by decide) h1 h2
theorem hl_67 : gi_ln (hp u I L) 67 = some 24 := hl0 rfl (by decide) (by decide)
theorem ha_68 {i : Int} (h1 : 0 ≤ i) (h2 : i < 32) : gi_aI (hp u I L) 1 68 i = some (I 68 i.toNat) := ha0 rfl (by decide) (by decide) h1 h2
theorem hs_68 {i x : Int} (h1 : 0 ≤ i) (h2 : i < 32) : gi_s1 (hp u I L) 68 i x = some (hp u (gx_u I 68 i.toNat x) L) := hs0 rfl (by decide) (by decide) h1 h2
theorem hl_68 : gi_ln (hp u I L) 68 = some 32 := hl0 rfl (by decide) (by decide)
theorem ha_69 {i : Int} (h1 : 0 ≤ i) (h2 : i < 32) : gi_aL (hp u I L) 69 i = some (L 69 i.toNat) := haL0 rfl (by decide) (by decide) h1 h2
theorem hs_69 {i x : Int} (h1 : 0 ≤ i) (h2 : i < 32) : gi_s2 (hp u I L) 69 i x = some (hp u I (gx_u L 69 i.toNat x)) := hs20 rfl (by decide) (by decide) h1 h2
theorem hl_69 : gi_ln (hp u I L) 69 = some 32 := hl0 rfl (by decide) (by decide)
theorem ha_70 {i : Int} (h1 : 0 ≤ i) (h2 : i < 16) : gi_aI (hp u I L) 1 70 i = some (I 70 i.toNat) := ha0 rfl (by decide) (by decide) h1 h2
theorem hs_70 {i x : Int} (h1 : 0 ≤ i) (h2 : i < 16) : gi_s1 (hp u I L) 70 i x = some (hp u (gx_u I 70 i.toNat x) L) := hs0 rfl (by decide) (by decide) h1 h2
theorem hl_70 : gi_ln (hp u I L) 70 = some 16 := hl0 rfl (by decide) (by decide)
theorem ha_71 {i : Int} (h1 : 0 ≤ i) (h2 : i < 150) : gi_aI (hp u I L) 1 71 i = some (I 71 i.toNat) := ha0 rfl (by decide) (by decide) h1 h2
theorem hs_71 {i x : Int} (h1 : 0 ≤ i) (h2 : i < 150) : gi_s1 (hp u I L) 71 i x = some (hp u (gx_u I 71 i.toNat x) L) := hs0 rfl (by decide) (by decide) h1 h2
theorem hl_71 : gi_ln (hp u I L) 71 = some 150 := hl0 rfl (by decide) (by decide)
theorem ha_72 {i : Int} (h1 : 0 ≤ i) (h2 : i < 150) : gi_aI (hp u I L) 1 72 i = some (I 72 i.toNat) := ha0 rfl (by decide) (by decide) h1 h2
theorem hs_72 {i x : Int} (h1 : 0 ≤ i) (h2 : i < 150) : gi_s1 (hp u I L) 72 i x = some (hp u (gx_u I 72 i.toNat x) L) := hs0 rfl (by decide) (by decide) h1 h2
theorem hl_72 : gi_ln (hp u I L) 72 = some 150 := hl0 rfl (by decide) (by decide)
theorem ha_85 {i : Int} (h1 : 0 ≤ i) (h2 : i < 2704) : gi_aI (hp u I L) 1 85 i = some (I 85 i.toNat) := ha0 rfl (by decide) (by decide) h1 h2
theorem hs_85 {i x : Int} (h1 : 0 ≤ i) (h2 : i < 2704) : gi_s1 (hp u I L) 85 i x = some (hp u (gx_u I 85 i.toNat x) L) := hs0 rfl (by decide) (by decide) h1 h2
theorem hl_85 : gi_ln (hp u I L) 85 = some 2704 := hl0 rfl (by decide) (by decide)
theorem ha_86 {i : Int} (h1 : 0 ≤ i) (h2 : i < 25350) : gi_aI (hp u I L) 1 86 i = some (I 86 i.toNat) := ha0 rfl (by decide) (by decide) h1 h2
theorem hs_86 {i x : Int} (h1 : 0 ≤ i) (h2 : i < 25350) : gi_s1 (hp u I L) 86 i x = some (hp u (gx_u I 86 i.toNat x) L) := hs0 rfl (by decide) (by decide) h1 h2
theorem hl_86 : gi_ln (hp u I L) 86 = some 25350 := hl0 rfl (by decide) (by decide)
theorem ha_146 {i : Int} (h1 : 0 ≤ i) (h2 : i < 1501) : gi_aI (hp u I L) 1 146 i = some (I 146 i.toNat) := ha0 rfl (by decide) (by decide) h1 h2
theorem hs_146 {i x : Int} (h1 : 0 ≤ i) (h2 : i < 1501) : gi_s1 (hp u I L) 146 i x = some (hp u (gx_u I 146 i.toNat x) L) := hs0 rfl (by decide) (by decide) h1 h2
theorem hl_146 : gi_ln (hp u I L) 146 = some 1501 := hl0 rfl (by decide) (by decide)
theorem ha_147 {i : Int} (h1 : 0 ≤ i) (h2 : i < 300) : gi_aI (hp u I L) 1 147 i = some (I 147 i.toNat) := ha0 rfl (by decide) (by decide) h1 h2
theorem hs_147 {i x : Int} (h1 : 0 ≤ i) (h2 : i < 300) : gi_s1 (hp u I L) 147 i x = some (hp u (gx_u I 147 i.toNat x) L) := hs0 rfl (by decide) (by decide) h1 h2
theorem hl_147 : gi_ln (hp u I L) 147 = some 300 := hl0 rfl (by decide) (by decide)
theorem ha_158 {i : Int} (h1 : 0 ≤ i) (h2 : i < 16) : gi_aI (hp u I L) 1 158 i = some (I 158 i.toNat) := ha0 rfl (by decide) (by decide) h1 h2
theorem hs_158 {i x : Int} (h1 : 0 ≤ i) (h2 : i < 16) : gi_s1 (hp u I L) 158 i x = some (hp u (gx_u I 158 i.toNat x) L) := hs0 rfl (by decide) (by decide) h1 h2
theorem hl_158 : gi_ln (hp u I L) 158 = some 16 := hl0 rfl (by decide) (by decide)
theorem ha_160 {i : Int} (h1 : 0 ≤ i) (h2 : i < 16) : gi_aI (hp u I L) 1 160 i = some (I 160 i.toNat) := ha0 rfl (by decide) (by decide) h1 h2
theorem hs_160 {i x : Int} (h1 : 0 ≤ i) (h2 : i < 16) : gi_s1 (hp u I L) 160 i x = some (hp u (gx_u I 160 i.toNat x) L) := hs0 rfl (by decide) (by decide) h1 h2
theorem hl_160 : gi_ln (hp u I L) 160 = some 16 := hl0 rfl (by decide) (by decide)
theorem ha_161 {i : Int} (h1 : 0 ≤ i) (h2 : i < 24) : gi_aI (hp u I L) 1 161 i = some (I 161 i.toNat) := ha0 rfl (by decide) (by decide) h1 h2
theorem hs_161 {i x : Int} (h1 : 0 ≤ i) (h2 : i < 24) : gi_s1 (hp u I L) 161 i x = some (hp u (gx_u I 161 i.toNat x) L) := hs0 rfl (by decide) (by decide) h1 h2
theorem hl_161 : gi_ln (hp u I L) 161 = some 24 := hl0 rfl (by decide) (by decide)
end HP
