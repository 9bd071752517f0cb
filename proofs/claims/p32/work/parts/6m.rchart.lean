/-! ===== the class finds the fewest edits ===== -/
/-- a terminal is in a stretch -/
def htm (w : Nat → Nat) (s x : Nat) : Nat → Bool
  | 0 => false
  | c + 1 => htm w s x c || decide (w (x + c) = s)
def mn (a b : Nat) : Nat := if b < a then b else a
def eTm (w : Nat → Nat) (s x y : Nat) : Nat := if x = y then 1 else if htm w s x (y - x) = true then y - x - 1 else y - x
def opR (_ : GT) (w : Nat → Nat) : OP := (1000, fun x y => y - x, eTm w, fun a b => if a = 1000 ∨ b = 1000 then 1000 else mn 99 (a + b), fun a b => mn a b, fun _ s => s)
theorem eTm_le {w : Nat → Nat} {s x y : Nat} (h : x ≤ y) (hy : y ≤ 12) : eTm w s x y ≤ 12 := by
  unfold eTm; split
  · omega
  · split <;> omega
theorem mn_le (a b : Nat) : mn a b ≤ a ∧ mn a b ≤ b := by unfold mn; split <;> omega
theorem opR_b {g : GT} {w : Nat → Nat} : OB (opR g w) := by
  refine ⟨Nat.le_refl _, fun x y _ h => ?_, fun s x y _ h1 h2 => ?_, fun a b h1 h2 => ⟨?_, ?_⟩, fun a b h => h⟩
  · show y - x ≤ 1000; omega
  · show eTm w s x y ≤ 1000; have := eTm_le (w := w) (s := s) h1 h2; omega
  · show (if a = 1000 ∨ b = 1000 then 1000 else mn 99 (a + b)) ≤ 1000
    split
    · omega
    · have := mn_le 99 (a + b); omega
  · show mn a b ≤ 1000; have := mn_le a b; omega
theorem min_mn (a b : Nat) : gi_min (a : Int) (b : Int) = (mn a b : Int) := by
  unfold gi_min mn
  split <;> split <;> omega
section QR
variable {u : Nat} {n : Nat} {L : Nat → Nat → Int} {g : GT} {w : Nat → Nat}
theorem q5_none (h : gi_H) : f_X6_none 159 h = some (oN (opR g w) : Int) := rfl
theorem q5_blank {J : Nat → Nat → Int} {x y : Nat} (hxy : x ≤ y) (hy : y ≤ 12) : f_X6_blank 159 (x : Int) (y : Int) (hp u J L) = some (oB (opR g w) x y : Int) := by
  have e : oB (opR g w) x y = y - x := rfl
  have e2 : (y : Int) - (x : Int) = ((y - x : Nat) : Int) := by omega
  rw [e, ← e2]; rfl
theorem htm_s {s x c : Nat} : htm w s x (c + 1) = (htm w s x c || decide (w (x + c) = s)) := rfl
theorem htm_t {s x j : Nat} : ∀ c, j < c → w (x + j) = s → htm w s x c = true
  | 0, h, _ => absurd h (by omega)
  | c + 1, h, q => by
    rw [htm_s, Bool.or_eq_true, decide_eq_true_eq]
    by_cases e : j = c
    · rw [← e]; exact Or.inr q
    · exact Or.inl (htm_t c (by omega) q)
theorem htm_f {s x : Nat} : ∀ c, (∀ j, j < c → w (x + j) ≠ s) → htm w s x c = false
  | 0, _ => rfl
  | c + 1, h => by
    rw [htm_s, htm_f c (fun j hj => h j (by omega)), Bool.false_or, decide_eq_false_iff_not]
    exact h c (by omega)
theorem q5_term (hw9 : ∀ i, (w i : Int) ≤ 2147483647) (hn : 1000000000000000000000000000000 ≤ n) {J : Nat → Nat → Int} (hs : CSE w J) {s x y : Nat} (h8 : s < 8) (hxy : x ≤ y) (hy : y ≤ 12) : f_X6_ofTerminal n 159 (s : Int) (x : Int) (y : Int) (hp u J L) = some (oT (opR g w) s x y : Int) := by
  have e : oT (opR g w) s x y = if x = y then 1 else if htm w s x (y - x) = true then y - x - 1 else y - x := rfl
  rw [e]
  by_cases c : x = y
  · rw [if_pos c]
    simp (disch := omega) only [f_X6_ofTerminal, ↓dhi_D, ↓dhG_D_0, ↓dhG_D_1, ↓dhG_D_2, ↓dhG_D_3, ↓dhG_D_4, Option.bind_some, ↓nm_eq, ↓sm_inl, ↓sm_inr, ↓dzo_0, ↓dzo_1, ↓drg_ok, ↓if_pos, ↓if_neg, if_pos, if_neg, if_true, if_false, Int.toNat_natCast, rg_ok] <;> rfl
  · rw [if_neg c]
    have e2 : (y : Int) - (x : Int) = ((y - x : Nat) : Int) := by omega
    have e3 : ((y - x : Nat) : Int) - 1 = ((y - x - 1 : Nat) : Int) := by omega
    have key : zLP (y - x) (fun f i (_ : Unit) => l_X6_ofTerminal_10 n f 159 (s : Int) (x : Int) (y : Int) ((x + i : Nat) : Int) (hp u J L)) (fun i _ => ∀ j, j < i → w (x + j) ≠ s) (fun res => res = some ((if htm w s x (y - x) = true then y - x - 1 else y - x : Nat) : Int)) := by
      refine zlp ?_ ?_
      · rintro f i _ hi hB
        have ew := hs (x + i) (by omega)
        have elk : f_X1_look_5 159 ((x + i : Nat) : Int) (hp u J L) = some (w (x + i) : Int) := by
          simp (disch := omega) only [f_X1_look_5, ↓dhi_D, ↓dhG_D_0, ↓dhG_D_1, ↓dhG_D_2, ↓dhG_D_3, ↓dhG_D_4, ↓dha_63, ↓dhs_63, ↓dhl_63, Option.bind_some, ↓nm_eq, ↓sm_inl, ↓sm_inr, ↓dzo_0, ↓dzo_1, ↓drg_ok, ↓if_pos, ↓if_neg, if_pos, if_neg, if_true, if_false, Int.toNat_natCast, rg_ok, Int.toNat_natCast, ew]
        have ek : ((x + i : Nat) : Int) + 1 = ((x + (i + 1) : Nat) : Int) := by omega
        by_cases c2 : w (x + i) = s
        · left
          rw [if_pos (htm_t (y - x) hi c2)]
          simp (disch := omega) only [l_X6_ofTerminal_10, b_X6_ofTerminal_10, b_X6_ofTerminal_26, ↓dhi_D, ↓dhG_D_0, ↓dhG_D_1, ↓dhG_D_2, ↓dhG_D_3, ↓dhG_D_4, Option.bind_some, ↓nm_eq, ↓sm_inl, ↓sm_inr, ↓dzo_0, ↓dzo_1, ↓drg_ok, ↓if_pos, ↓if_neg, if_pos, if_neg, if_true, if_false, Int.toNat_natCast, rg_ok, ↓bnd elk, e2, e3]
        · right
          refine ⟨(), ?_, fun j hj => ?_⟩
          · have h9 : (w (x + i) : Int) ≤ 2147483647 := hw9 (x + i)
            simp (disch := omega) only [l_X6_ofTerminal_10, b_X6_ofTerminal_10, ↓dhi_D, ↓dhG_D_0, ↓dhG_D_1, ↓dhG_D_2, ↓dhG_D_3, ↓dhG_D_4, Option.bind_some, ↓nm_eq, ↓sm_inl, ↓sm_inr, ↓dzo_0, ↓dzo_1, ↓drg_ok, ↓if_pos, ↓if_neg, if_pos, if_neg, if_true, if_false, Int.toNat_natCast, rg_ok, ↓bnd elk, ek]
          · by_cases e : j = i
            · rw [e]; exact c2
            · exact hB j (by omega)
      · rintro f _ hB
        rw [htm_f (y - x) hB, if_neg (by decide)]
        have ey : x + (y - x) = y := by omega
        rw [ey]
        simp (disch := omega) only [l_X6_ofTerminal_10, b_X6_ofTerminal_10, b_X6_ofTerminal_38, Option.bind_some, ↓nm_eq, ↓sm_inl, ↓sm_inr, ↓dzo_0, ↓dzo_1, ↓drg_ok, ↓if_pos, ↓if_neg, if_pos, if_neg, if_true, if_false, Int.toNat_natCast, rg_ok, e2]
    have k0 := key (y - x) n 0 () (by omega) (by omega) (fun j hj => absurd hj (by omega))
    have k1 : l_X6_ofTerminal_10 n n 159 (s : Int) (x : Int) (y : Int) (x : Int) (hp u J L) = _ := k0
    rw [← k1]
    simp (disch := omega) only [f_X6_ofTerminal, ↓dhi_D, ↓dhG_D_0, ↓dhG_D_1, ↓dhG_D_2, ↓dhG_D_3, ↓dhG_D_4, Option.bind_some, ↓nm_eq, ↓sm_inl, ↓sm_inr, ↓dzo_0, ↓dzo_1, ↓drg_ok, ↓if_pos, ↓if_neg, if_pos, if_neg, if_true, if_false, Int.toNat_natCast, rg_ok]
theorem q5_both {J : Nat → Nat → Int} {a b : Nat} (ha : a ≤ 1000) (hb : b ≤ 1000) : f_X6_both 159 (a : Int) (b : Int) (hp u J L) = some (oO (opR g w) a b : Int) := by
  have e : oO (opR g w) a b = if a = 1000 ∨ b = 1000 then 1000 else mn 99 (a + b) := rfl
  rw [e]
  by_cases c : a = 1000
  · rw [if_pos (Or.inl c)]
    simp (disch := omega) only [f_X6_both, b_X6_both_14, ↓dhi_D, ↓dhG_D_0, ↓dhG_D_1, ↓dhG_D_2, ↓dhG_D_3, ↓dhG_D_4, Option.bind_some, ↓nm_eq, ↓sm_inl, ↓sm_inr, ↓dzo_0, ↓dzo_1, ↓drg_ok, ↓if_pos, ↓if_neg, if_pos, if_neg, if_true, if_false, Int.toNat_natCast, rg_ok] <;> rfl
  · by_cases c2 : b = 1000
    · rw [if_pos (Or.inr c2)]
      simp (disch := omega) only [f_X6_both, b_X6_both_14, ↓dhi_D, ↓dhG_D_0, ↓dhG_D_1, ↓dhG_D_2, ↓dhG_D_3, ↓dhG_D_4, Option.bind_some, ↓nm_eq, ↓sm_inl, ↓sm_inr, ↓dzo_0, ↓dzo_1, ↓drg_ok, ↓if_pos, ↓if_neg, if_pos, if_neg, if_true, if_false, Int.toNat_natCast, rg_ok] <;> rfl
    · rw [if_neg (by omega)]
      have em : (a : Int) + (b : Int) = ((a + b : Nat) : Int) := rfl
      have e2 : gi_min 99 ((a + b : Nat) : Int) = (mn 99 (a + b) : Int) := min_mn 99 (a + b)
      rw [← e2]
      simp (disch := omega) only [f_X6_both, b_X6_both_14, ↓dhi_D, ↓dhG_D_0, ↓dhG_D_1, ↓dhG_D_2, ↓dhG_D_3, ↓dhG_D_4, Option.bind_some, ↓nm_eq, ↓sm_inl, ↓sm_inr, ↓dzo_0, ↓dzo_1, ↓drg_ok, ↓if_pos, ↓if_neg, if_pos, if_neg, if_true, if_false, Int.toNat_natCast, rg_ok, em]
theorem q5_either {J : Nat → Nat → Int} {a b : Nat} (ha : a ≤ 1000) (hb : b ≤ 1000) : f_X6_either 159 (a : Int) (b : Int) (hp u J L) = some (oE (opR g w) a b : Int) := by
  have e : oE (opR g w) a b = mn a b := rfl
  rw [e, ← min_mn]
  simp (disch := omega) only [f_X6_either, ↓dhi_D, ↓dhG_D_0, ↓dhG_D_1, ↓dhG_D_2, ↓dhG_D_3, ↓dhG_D_4, Option.bind_some, ↓nm_eq, ↓sm_inl, ↓sm_inr, ↓dzo_0, ↓dzo_1, ↓drg_ok, ↓if_pos, ↓if_neg, if_pos, if_neg, if_true, if_false, Int.toNat_natCast, rg_ok]
theorem q5_nt {J : Nat → Nat → Int} (_ : CTB u g 0 J L) {a s : Nat} (_ : a < 16) (_ : s ≤ 1000) : f_X6_ofNonterminal 159 (a : Int) (s : Int) (hp u J L) = some (oC (opR g w) a s : Int) := rfl
end QR
section CH5
variable {u : Nat} {n : Nat} {nw : Nat} {L : Nat → Nat → Int} {g : GT} {w : Nat → Nat}
def CL5 : List Nat := [85, 86, 160]
theorem CTB.own5 {kd : Nat} {J J' L : Nat → Nat → Int} (h : CTB u g kd J L) (f : Fr CL5 J J') : CTB u g kd J' L :=
  h.fr f (by decide) (fun a ha => by rw [f a (by simp at ha; simp [CL5]; omega)]) rfl
theorem X1_whole_5 {J : Nat → Nat → Int} {a x y : Nat} (ha : a < 16) (hx : x ≤ 12) (hy : y ≤ 12) : f_X1_whole_5 159 (a : Int) (x : Int) (y : Int) (hp u J L) = some (J 85 (169 * a + 13 * x + y)) := by
  have ei : ((a : Int) * 169 + (x : Int) * 13 + (y : Int)).toNat = 169 * a + 13 * x + y := by omega
  simp (disch := omega) only [f_X1_whole_5, f_X1_cell_5, ↓dhi_D, ↓dhG_D_0, ↓dhG_D_1, ↓dhG_D_2, ↓dhG_D_3, ↓dhG_D_4, ↓dha_85, ↓dhs_85, ↓dhl_85, Option.bind_some, ↓nm_eq, ↓sm_inl, ↓sm_inr, ↓dzo_0, ↓dzo_1, ↓drg_ok, ↓if_pos, ↓if_neg, if_pos, if_neg, if_true, if_false, Int.toNat_natCast, rg_ok, ei]
theorem X1_part_5 {J : Nat → Nat → Int} {a x y : Nat} (ha : a < 150) (hx : x ≤ 12) (hy : y ≤ 12) : f_X1_part_5 159 (a : Int) (x : Int) (y : Int) (hp u J L) = some (J 86 (169 * a + 13 * x + y)) := by
  have ei : ((a : Int) * 169 + (x : Int) * 13 + (y : Int)).toNat = 169 * a + 13 * x + y := by omega
  simp (disch := omega) only [f_X1_part_5, f_X1_cell_5, ↓dhi_D, ↓dhG_D_0, ↓dhG_D_1, ↓dhG_D_2, ↓dhG_D_3, ↓dhG_D_4, ↓dha_86, ↓dhs_86, ↓dhl_86, Option.bind_some, ↓nm_eq, ↓sm_inl, ↓sm_inr, ↓dzo_0, ↓dzo_1, ↓drg_ok, ↓if_pos, ↓if_neg, if_pos, if_neg, if_true, if_false, Int.toNat_natCast, rg_ok, ei]
theorem X1_setWhole_5 {J : Nat → Nat → Int} {a x y : Nat} (z : Int) (ha : a < 16) (hx : x ≤ 12) (hy : y ≤ 12) : f_X1_setWhole_5 159 (a : Int) (x : Int) (y : Int) z (hp u J L) = some (hp u (gx_u J 85 (169 * a + 13 * x + y) z) L) := by
  have ei : ((a : Int) * 169 + (x : Int) * 13 + (y : Int)).toNat = 169 * a + 13 * x + y := by omega
  simp (disch := omega) only [f_X1_setWhole_5, f_X1_cell_5, ↓dhi_D, ↓dhG_D_0, ↓dhG_D_1, ↓dhG_D_2, ↓dhG_D_3, ↓dhG_D_4, ↓dha_85, ↓dhs_85, ↓dhl_85, Option.bind_some, ↓nm_eq, ↓sm_inl, ↓sm_inr, ↓dzo_0, ↓dzo_1, ↓drg_ok, ↓if_pos, ↓if_neg, if_pos, if_neg, if_true, if_false, Int.toNat_natCast, rg_ok, ei]
theorem X1_setPart_5 {J : Nat → Nat → Int} {a x y : Nat} (z : Int) (ha : a < 150) (hx : x ≤ 12) (hy : y ≤ 12) : f_X1_setPart_5 159 (a : Int) (x : Int) (y : Int) z (hp u J L) = some (hp u (gx_u J 86 (169 * a + 13 * x + y) z) L) := by
  have ei : ((a : Int) * 169 + (x : Int) * 13 + (y : Int)).toNat = 169 * a + 13 * x + y := by omega
  simp (disch := omega) only [f_X1_setPart_5, f_X1_cell_5, ↓dhi_D, ↓dhG_D_0, ↓dhG_D_1, ↓dhG_D_2, ↓dhG_D_3, ↓dhG_D_4, ↓dha_86, ↓dhs_86, ↓dhl_86, Option.bind_some, ↓nm_eq, ↓sm_inl, ↓sm_inr, ↓dzo_0, ↓dzo_1, ↓drg_ok, ↓if_pos, ↓if_neg, if_pos, if_neg, if_true, if_false, Int.toNat_natCast, rg_ok, ei]
theorem X1_mid_5 (hn : 1000000000000000000000000000000 ≤ n) {J : Nat → Nat → Int} (hC : CTB u g 0 J L) (hs : CSE w J) (hsw : SW w nw) {v : CV} (hv : vB v) {p x y k : Nat} (hk : k < Gl g p) (hxy : x ≤ y) (hy : y ≤ 12)
    (hP : ∀ m, x ≤ m → m ≤ y → J 86 (169 * (6 * p + k) + 13 * x + m) = (gD (opR g w) g v p k x m : Int)) (hW : ∀ a, a < 16 → ∀ m, x ≤ m → m ≤ y → J 85 (169 * a + 13 * m + y) = (v a m y : Int)) (r27 : Nat → Int → Int → Int → Int → Int → Int → gi_H → Option (Int × gi_H)) :
    l_X1_ofProduction_5_67 n r27 n 159 (p : Int) (x : Int) (y : Int) ((6 * p : Nat) : Int) (oN (opR g w) : Int) (k : Int) (Gs g p k : Int) (x : Int) (hp u J L) = b_X1_ofProduction_5_147 n r27 159 (p : Int) (x : Int) (y : Int) ((6 * p : Nat) : Int) (gD (opR g w) g v p (k + 1) x y : Int) (k : Int) (hp u J L) := by
  have hg := hC.1.gr
  have h24 := hg.1
  have hp1 := hg.2.2.2.2.1 p k hk
  have h5 := hg.2.2.2.1 p
  have hsr := hg.2.2.2.2.2 p k hk
  have hoB := (opR_b (g := g) (w := w))
  suffices key : zLP (y + 1 - x) (fun f i (_ : Unit) => l_X1_ofProduction_5_67 n r27 f 159 (p : Int) (x : Int) (y : Int) ((6 * p : Nat) : Int) (gfo (opR g w) (fun i => oO (opR g w) (gD (opR g w) g v p k x (x + i)) (gsv (opR g w) v (Gs g p k) (x + i) y)) i : Int) (k : Int) (Gs g p k : Int) ((x + i : Nat) : Int) (hp u J L)) (fun _ _ => True)
      (fun res => res = b_X1_ofProduction_5_147 n r27 159 (p : Int) (x : Int) (y : Int) ((6 * p : Nat) : Int) (gD (opR g w) g v p (k + 1) x y : Int) (k : Int) (hp u J L)) by
    exact key (y + 1 - x) n 0 () (by omega) (by omega) trivial
  refine zlp ?_ ?_
  · rintro f i _ hi -
    right
    refine ⟨(), ?_, trivial⟩
    have e6 : ((6 * p : Nat) : Int) + (k : Int) = ((6 * p + k : Nat) : Int) := by omega
    have epa := X1_part_5 (u := u) (L := L) (J := J) (a := 6 * p + k) (x := x) (y := x + i) (by omega) (by omega) (by omega)
    rw [hP (x + i) (by omega) (by omega)] at epa
    have b1 := gD_le hoB hg hv (p := p) (x := x) k (x + i) (by omega) (by omega) (by omega)
    have b2 := gsv_le hoB hv (s := Gs g p k) (x := x + i) (y := y) hsr (by omega) hy
    have b3 := gfo_le hoB (f := fun i => oO (opR g w) (gD (opR g w) g v p k x (x + i)) (gsv (opR g w) v (Gs g p k) (x + i) y)) i (fun j hj => (hoB.2.2.2.1 _ _ (gD_le hoB hg hv (p := p) (x := x) k (x + j) (by omega) (by omega) (by omega)) (gsv_le hoB hv (s := Gs g p k) (x := x + j) (y := y) hsr (by omega) hy)).1)
    have b4 := (hoB.2.2.2.1 _ _ b1 b2).1
    have ebo := q5_both (u := u) (L := L) (J := J) (g := g) (w := w) b1 b2
    have eei := q5_either (u := u) (L := L) (J := J) (g := g) (w := w) b3 b4
    have ek : ((x + i : Nat) : Int) + 1 = ((x + (i + 1) : Nat) : Int) := by omega
    by_cases c : Gs g p k < 16
    · have et := X11_isT1 (Gs g p k) (by omega) (hp u J L)
      have ev : gsv (opR g w) v (Gs g p k) (x + i) y = oT (opR g w) (Gs g p k) (x + i) y := if_pos c
      have etm := q5_term (u := u) (L := L) (g := g) (fun i => by have := hsw.le i; omega) hn hs (s := Gs g p k) (x := x + i) (y := y) (by omega) (by omega) hy
      rw [ev] at ebo
      rw [gfo_s]
      try dsimp only
      rw [ev] at eei ⊢
      simp (disch := omega) only [l_X1_ofProduction_5_67, b_X1_ofProduction_5_67, b_X1_ofProduction_5_123, ↓dhi_D, ↓dhG_D_0, ↓dhG_D_1, ↓dhG_D_2, ↓dhG_D_3, ↓dhG_D_4, Option.bind_some, ↓nm_eq, ↓sm_inl, ↓sm_inr, ↓dzo_0, ↓dzo_1, ↓drg_ok, ↓if_pos, ↓if_neg, if_pos, if_neg, if_true, if_false, Int.toNat_natCast, rg_ok, e6, ↓bnd epa, ↓bnd et, ↓bnd etm, ↓bnd ebo, ↓bnd eei, ek]
    · have et := X11_isT0 (Gs g p k) (by omega) (by omega) (hp u J L)
      have ev : gsv (opR g w) v (Gs g p k) (x + i) y = v (Gs g p k - 16) (x + i) y := if_neg c
      have e16 : (Gs g p k : Int) - 16 = ((Gs g p k - 16 : Nat) : Int) := by omega
      have ewh := X1_whole_5 (u := u) (L := L) (J := J) (a := Gs g p k - 16) (x := x + i) (y := y) (by omega) (by omega) hy
      rw [hW _ (by omega) (x + i) (by omega) (by omega)] at ewh
      rw [ev] at ebo
      rw [gfo_s]
      try dsimp only
      rw [ev] at eei ⊢
      simp (disch := omega) only [l_X1_ofProduction_5_67, b_X1_ofProduction_5_67, b_X1_ofProduction_5_123, ↓dhi_D, ↓dhG_D_0, ↓dhG_D_1, ↓dhG_D_2, ↓dhG_D_3, ↓dhG_D_4, Option.bind_some, ↓nm_eq, ↓sm_inl, ↓sm_inr, ↓dzo_0, ↓dzo_1, ↓drg_ok, ↓if_pos, ↓if_neg, if_pos, if_neg, if_true, if_false, Int.toNat_natCast, rg_ok, e6, ↓bnd epa, ↓bnd et, e16, ↓bnd ewh, ↓bnd ebo, ↓bnd eei, ek]
  · rintro f _ -
    have ey : x + (y + 1 - x) = y + 1 := by omega
    rw [ey, gD_s]
    simp (disch := omega) only [l_X1_ofProduction_5_67, b_X1_ofProduction_5_67, Option.bind_some, ↓nm_eq, ↓sm_inl, ↓sm_inr, ↓dzo_0, ↓dzo_1, ↓drg_ok, ↓if_pos, ↓if_neg, if_pos, if_neg, if_true, if_false, Int.toNat_natCast, rg_ok]
theorem X1_ofProduction_5 (hn : 1000000000000000000000000000000 ≤ n) {J0 : Nat → Nat → Int} (hC : CTB u g 0 J0 L) (hs : CSE w J0) (hsw : SW w nw) {v : CV} (hv : vB v) {p x y : Nat} (hp1 : p < Gn g) (hxy : x ≤ y) (hy : y ≤ 12)
    (hP : ∀ k, k ≤ Gl g p → ∀ m, x ≤ m → m < y → J0 86 (169 * (6 * p + k) + 13 * x + m) = (gD (opR g w) g v p k x m : Int)) (hW : ∀ a, a < 16 → ∀ m, x ≤ m → m ≤ y → J0 85 (169 * a + 13 * m + y) = (v a m y : Int)) :
    ∃ J, f_X1_ofProduction_5 n 159 (p : Int) (x : Int) (y : Int) (hp u J0 L) = some ((gD (opR g w) g v p (Gl g p) x y : Int), hp u J L) ∧ Fr [86] J0 J ∧ (∀ r x' y', x' ≤ 12 → y' ≤ 12 → (¬ (x' = x ∧ y' = y) ∨ r < 6 * p ∨ 6 * p + 6 ≤ r) → J 86 (169 * r + 13 * x' + y') = J0 86 (169 * r + 13 * x' + y')) ∧ ∀ k, k ≤ Gl g p → J 86 (169 * (6 * p + k) + 13 * x + y) = (gD (opR g w) g v p k x y : Int) := by
  have hg := hC.1.gr
  have h24 := hg.1
  have h5 := hg.2.2.2.1 p
  have hgm := gU_mem u
  have hoB := (opR_b (g := g) (w := w))
  suffices key : zLP (Gl g p) (fun f k (J : Nat → Nat → Int) => l_X1_ofProduction_5_27 n f 159 (p : Int) (x : Int) (y : Int) ((6 * p : Nat) : Int) (gD (opR g w) g v p k x y : Int) (k : Int) (hp u J L))
      (fun k J => Fr [86] J0 J ∧ (∀ r x' y', x' ≤ 12 → y' ≤ 12 → (¬ (x' = x ∧ y' = y) ∨ r < 6 * p ∨ 6 * p + 6 ≤ r) → J 86 (169 * r + 13 * x' + y') = J0 86 (169 * r + 13 * x' + y')) ∧ ∀ j, j ≤ k → J 86 (169 * (6 * p + j) + 13 * x + y) = (gD (opR g w) g v p j x y : Int))
      (fun res => ∃ J, res = some ((gD (opR g w) g v p (Gl g p) x y : Int), hp u J L) ∧ Fr [86] J0 J ∧ (∀ r x' y', x' ≤ 12 → y' ≤ 12 → (¬ (x' = x ∧ y' = y) ∨ r < 6 * p ∨ 6 * p + 6 ≤ r) → J 86 (169 * r + 13 * x' + y') = J0 86 (169 * r + 13 * x' + y')) ∧ ∀ j, j ≤ Gl g p → J 86 (169 * (6 * p + j) + 13 * x + y) = (gD (opR g w) g v p j x y : Int)) by
    have eb := q5_blank (u := u) (L := L) (J := J0) (g := g) (w := w) (x := x) (y := y) hxy hy
    have e6 : (p : Int) * 6 = ((6 * p : Nat) : Int) := by omega
    have es := X1_setPart_5 (u := u) (L := L) (J := J0) (a := 6 * p) (x := x) (y := y) (oB (opR g w) x y : Int) (by omega) (by omega) hy
    obtain ⟨J, e, q⟩ := key (Gl g p) n 0 (gx_u J0 86 (169 * (6 * p) + 13 * x + y) (oB (opR g w) x y : Int)) (by omega) (by omega) ⟨Fr.rf.wr (by simp), fun r x' y' h1 h2 h3 => gu_at_ne (by omega), fun j hj => by
      have : j = 0 := by omega
      subst this
      exact gu_at_eq rfl⟩
    refine ⟨J, ?_, q⟩
    have e' : l_X1_ofProduction_5_27 n n 159 (p : Int) (x : Int) (y : Int) ((6 * p : Nat) : Int) (oB (opR g w) x y : Int) 0 (hp u (gx_u J0 86 (169 * (6 * p) + 13 * x + y) (oB (opR g w) x y : Int)) L) = some ((gD (opR g w) g v p (Gl g p) x y : Int), hp u J L) := e
    rw [← e']
    simp (disch := omega) only [f_X1_ofProduction_5, ↓dhi_D, ↓dhG_D_0, ↓dhG_D_1, ↓dhG_D_2, ↓dhG_D_3, ↓dhG_D_4, Option.bind_some, ↓nm_eq, ↓sm_inl, ↓sm_inr, ↓dzo_0, ↓dzo_1, ↓drg_ok, ↓if_pos, ↓if_neg, if_pos, if_neg, if_true, if_false, Int.toNat_natCast, rg_ok, e6, ↓bnd eb, ↓bnd es]
  refine zlp ?_ ?_
  · rintro f k J hk ⟨f1, f2, f3⟩
    right
    have hC1 := hC.own5 (f1.up (fun a z => by simp at z; simp [CL5, z]))
    have hS1 : CSE w J := fun i hi => by rw [f1 63 (by decide)]; exact hs i hi
    have hw := hC1.1.1.1
    have hcg := hC1.1.1.2
    have el := X4_length (u := u) (L := L) hgm hw (p := p) (by omega)
    rw [hcg] at el
    have esy := X4_symbol (u := u) (L := L) hgm hw (p := p) (k := k) (by rw [hcg]; omega)
    rw [hcg] at esy
    have eno := q5_none (g := g) (w := w) (hp u J L)
    have em := X1_mid_5 (u := u) (g := g) hn hC1 hS1 hsw hv (x := x) (y := y) hk hxy hy (fun m h1 h2 => by
      by_cases e : m = y
      · rw [e]; exact f3 k (Nat.le_refl _)
      · rw [f2 _ _ _ (by omega) (by omega) (Or.inl (by omega))]; exact hP k (by omega) m h1 (by omega)) (fun a ha m h1 h2 => by rw [f1 85 (by decide)]; exact hW a ha m h1 h2) (l_X1_ofProduction_5_27 n f)
    have e6 : ((6 * p : Nat) : Int) + (k : Int) + 1 = ((6 * p + (k + 1) : Nat) : Int) := by omega
    have es := X1_setPart_5 (u := u) (L := L) (J := J) (a := 6 * p + (k + 1)) (x := x) (y := y) (gD (opR g w) g v p (k + 1) x y : Int) (by omega) (by omega) hy
    have ek : (k : Int) + 1 = ((k + 1 : Nat) : Int) := rfl
    refine ⟨gx_u J 86 (169 * (6 * p + (k + 1)) + 13 * x + y) (gD (opR g w) g v p (k + 1) x y : Int), ?_, f1.wr (by simp), fun r x' y' h1 h2 h3 => ?_, fun j hj => ?_⟩
    · have e147 : b_X1_ofProduction_5_147 n (l_X1_ofProduction_5_27 n f) 159 (p : Int) (x : Int) (y : Int) ((6 * p : Nat) : Int) (gD (opR g w) g v p (k + 1) x y : Int) (k : Int) (hp u J L) = l_X1_ofProduction_5_27 n f 159 (p : Int) (x : Int) (y : Int) ((6 * p : Nat) : Int) (gD (opR g w) g v p (k + 1) x y : Int) ((k + 1 : Nat) : Int) (hp u (gx_u J 86 (169 * (6 * p + (k + 1)) + 13 * x + y) (gD (opR g w) g v p (k + 1) x y : Int)) L) := by
        simp (disch := omega) only [b_X1_ofProduction_5_147, ↓dhi_D, ↓dhG_D_0, ↓dhG_D_1, ↓dhG_D_2, ↓dhG_D_3, ↓dhG_D_4, Option.bind_some, ↓nm_eq, ↓sm_inl, ↓sm_inr, ↓dzo_0, ↓dzo_1, ↓drg_ok, ↓if_pos, ↓if_neg, if_pos, if_neg, if_true, if_false, Int.toNat_natCast, rg_ok, e6, ↓bnd es, ek]
      rw [← e147, ← em]
      simp (disch := omega) only [l_X1_ofProduction_5_27, b_X1_ofProduction_5_27, ↓dhi_F, ↓dhG_F_0, ↓dhg_F_1, ↓dhq_F_1, ↓dhg_F_2, ↓dhq_F_2, ↓dhg_F_3, ↓dhq_F_3, ↓dhg_F_4, ↓dhq_F_4, ↓dhG_F_5, ↓dhG_F_6, ↓dhG_F_7, ↓dhG_F_8, ↓dhG_F_9, ↓dhg_F_10, ↓dhq_F_10, ↓dhG_F_11, ↓dhG_F_12, ↓dhG_F_13, ↓dhi_D, ↓dhG_D_0, ↓dhG_D_1, ↓dhG_D_2, ↓dhG_D_3, ↓dhG_D_4, ↓dhi_G hgm, ↓dhG_G_0 hgm, ↓dhG_G_1 hgm, ↓dhG_G_2 hgm, ↓dhg_G_3 hgm, ↓dhq_G_3 hgm, ↓dhG_G_4 hgm, ↓dhG_G_5 hgm, ↓dhg_G_6 hgm, ↓dhq_G_6 hgm, ↓dhg_G_7 hgm, ↓dhq_G_7 hgm, ↓dhG_G_8 hgm, ↓dhG_G_9 hgm, ↓dha_G_1 hgm, ↓dhs_G_1 hgm, ↓dhl_G_1 hgm, ↓dha_G_2 hgm, ↓dhs_G_2 hgm, ↓dhl_G_2 hgm, ↓dha_G_3 hgm, ↓dhs_G_3 hgm, ↓dhl_G_3 hgm, ↓dha_G_4 hgm, ↓dhl_G_4 hgm, ↓dha_G_5 hgm, ↓dhs_G_5 hgm, ↓dhl_G_5 hgm, Option.bind_some, ↓nm_eq, ↓sm_inl, ↓sm_inr, ↓dzo_0, ↓dzo_1, ↓drg_ok, ↓if_pos, ↓if_neg, if_pos, if_neg, if_true, if_false, Int.toNat_natCast, rg_ok, ↓bnd X3_grammar, ↓bnd el, ↓bnd esy, ↓bnd eno]
    · rw [gu_at_ne (by omega)]; exact f2 r x' y' h1 h2 h3
    · by_cases e : j = k + 1
      · rw [e, gu_at_eq rfl]
      · rw [gu_at_ne (by omega)]; exact f3 j (by omega)
  · rintro f J ⟨f1, f2, f3⟩
    have hC1 := hC.own5 (f1.up (fun a z => by simp at z; simp [CL5, z]))
    have hw := hC1.1.1.1
    have hcg := hC1.1.1.2
    have el := X4_length (u := u) (L := L) hgm hw (p := p) (by omega)
    rw [hcg] at el
    refine ⟨J, ?_, f1, f2, f3⟩
    simp (disch := omega) only [l_X1_ofProduction_5_27, b_X1_ofProduction_5_27, ↓dhi_F, ↓dhG_F_0, ↓dhg_F_1, ↓dhq_F_1, ↓dhg_F_2, ↓dhq_F_2, ↓dhg_F_3, ↓dhq_F_3, ↓dhg_F_4, ↓dhq_F_4, ↓dhG_F_5, ↓dhG_F_6, ↓dhG_F_7, ↓dhG_F_8, ↓dhG_F_9, ↓dhg_F_10, ↓dhq_F_10, ↓dhG_F_11, ↓dhG_F_12, ↓dhG_F_13, ↓dhi_D, ↓dhG_D_0, ↓dhG_D_1, ↓dhG_D_2, ↓dhG_D_3, ↓dhG_D_4, ↓dhi_G hgm, ↓dhG_G_0 hgm, ↓dhG_G_1 hgm, ↓dhG_G_2 hgm, ↓dhg_G_3 hgm, ↓dhq_G_3 hgm, ↓dhG_G_4 hgm, ↓dhG_G_5 hgm, ↓dhg_G_6 hgm, ↓dhq_G_6 hgm, ↓dhg_G_7 hgm, ↓dhq_G_7 hgm, ↓dhG_G_8 hgm, ↓dhG_G_9 hgm, ↓dha_G_1 hgm, ↓dhs_G_1 hgm, ↓dhl_G_1 hgm, ↓dha_G_2 hgm, ↓dhs_G_2 hgm, ↓dhl_G_2 hgm, ↓dha_G_3 hgm, ↓dhs_G_3 hgm, ↓dhl_G_3 hgm, ↓dha_G_4 hgm, ↓dhl_G_4 hgm, ↓dha_G_5 hgm, ↓dhs_G_5 hgm, ↓dhl_G_5 hgm, Option.bind_some, ↓nm_eq, ↓sm_inl, ↓sm_inr, ↓dzo_0, ↓dzo_1, ↓drg_ok, ↓if_pos, ↓if_neg, if_pos, if_neg, if_true, if_false, Int.toNat_natCast, rg_ok, ↓bnd X3_grammar, ↓bnd el]
/-- one round over a stretch -/
theorem X1_refine_5 (hn : 1000000000000000000000000000000 ≤ n) {J0 : Nat → Nat → Int} (hC : CTB u g 0 J0 L) (hs : CSE w J0) (hsw : SW w nw) {v : CV} (hv : vB v) {x y : Nat} (hxy : x ≤ y) (hy : y ≤ 12)
    (hP : ∀ p, p < Gn g → ∀ k, k ≤ Gl g p → ∀ m, x ≤ m → m < y → J0 86 (169 * (6 * p + k) + 13 * x + m) = (gD (opR g w) g v p k x m : Int)) (hW : ∀ a, a < 16 → ∀ m, x ≤ m → m ≤ y → J0 85 (169 * a + 13 * m + y) = (v a m y : Int)) :
    ∃ (r : Int) (J : Nat → Nat → Int), f_X1_refine_5 n 159 (x : Int) (y : Int) (hp u J0 L) = some (r, hp u J L) ∧ Fr CL5 J0 J ∧ ((r = 0 ∧ ∀ a, a < 16 → gOp (opR g w) g v a x y = v a x y) ∨ (r = 1 ∧ ∃ a, a < 16 ∧ gOp (opR g w) g v a x y ≠ v a x y)) ∧
      (∀ r x' y', x' ≤ 12 → y' ≤ 12 → ¬ (x' = x ∧ y' = y) → J 86 (169 * r + 13 * x' + y') = J0 86 (169 * r + 13 * x' + y') ∧ J 85 (169 * r + 13 * x' + y') = J0 85 (169 * r + 13 * x' + y')) ∧
      (∀ p, p < Gn g → ∀ k, k ≤ Gl g p → J 86 (169 * (6 * p + k) + 13 * x + y) = (gD (opR g w) g v p k x y : Int)) ∧ ∀ a, a < 16 → J 85 (169 * a + 13 * x + y) = (gOp (opR g w) g v a x y : Int) := by
  have hg := hC.1.gr
  have h24 := hg.1
  have hgm := gU_mem u
  have hoB := (opR_b (g := g) (w := w))
  -- the nonterminals
  have lB : ∀ J1 : Nat → Nat → Int, Fr [86, 160] J0 J1 → (∀ a, a < 16 → J1 160 a = (gF (opR g w) g v a x y (Gn g) : Int)) → zLP 16 (fun f a (s : Bool × (Nat → Nat → Int)) => l_X1_refine_5_92 n f 159 (x : Int) (y : Int) (b01 s.1) (a : Int) (hp u s.2 L))
      (fun a s => Fr [85] J1 s.2 ∧ (∀ r x' y', x' ≤ 12 → y' ≤ 12 → ¬ (x' = x ∧ y' = y) → s.2 85 (169 * r + 13 * x' + y') = J1 85 (169 * r + 13 * x' + y')) ∧ (∀ j, j < 16 → s.2 85 (169 * j + 13 * x + y) = if j < a then (gOp (opR g w) g v j x y : Int) else (v j x y : Int)) ∧ (s.1 = true ↔ ∃ j, j < a ∧ gOp (opR g w) g v j x y ≠ v j x y))
      (fun res => ∃ (b : Bool) (J : Nat → Nat → Int), res = some (b01 b, hp u J L) ∧ Fr [85] J1 J ∧ (∀ r x' y', x' ≤ 12 → y' ≤ 12 → ¬ (x' = x ∧ y' = y) → J 85 (169 * r + 13 * x' + y') = J1 85 (169 * r + 13 * x' + y')) ∧ (∀ j, j < 16 → J 85 (169 * j + 13 * x + y) = (gOp (opR g w) g v j x y : Int)) ∧ (b = true ↔ ∃ j, j < 16 ∧ gOp (opR g w) g v j x y ≠ v j x y)) := by
    intro J1 f1 hsum
    refine zlp ?_ ?_
    · rintro f a ⟨b, J⟩ ha ⟨k1, k2, k3, k4⟩
      dsimp only at k1 k2 k3 k4 ⊢
      right
      have hC1 := hC.own5 ((f1.up (l' := CL5) (fun a z => by simp at z; simp [CL5]; omega)).tr (k1.up (fun a z => by simp at z; simp [CL5, z])))
      have esu : J 160 a = (gF (opR g w) g v a x y (Gn g) : Int) := by rw [k1 160 (by decide)]; exact hsum a ha
      have b1 := gF_le hoB hg hv (a := a) hxy hy (Gn g)
      have ent := q5_nt (u := u) (g := g) (w := w) hC1 ha b1
      have b2 := gOp_le hoB hg hv (a := a) hxy hy
      have ent' : f_X6_ofNonterminal 159 (a : Int) (gF (opR g w) g v a x y (Gn g) : Int) (hp u J L) = some (gOp (opR g w) g v a x y : Int) := ent
      have ewh := X1_whole_5 (u := u) (L := L) (J := J) (a := a) (x := x) (y := y) ha (by omega) hy
      rw [k3 a ha, if_neg (Nat.lt_irrefl a)] at ewh
      have b3 := hv a x y
      have ek : (a : Int) + 1 = ((a + 1 : Nat) : Int) := rfl
      have hb := b01_rg b
      by_cases c : gOp (opR g w) g v a x y = v a x y
      · refine ⟨(b, J), ?_, k1, k2, fun j hj => ?_, ?_⟩
        · simp (disch := omega) only [l_X1_refine_5_92, b_X1_refine_5_92, b_X1_refine_5_139, ↓dhi_D, ↓dhG_D_0, ↓dhG_D_1, ↓dhG_D_2, ↓dhG_D_3, ↓dhG_D_4, ↓dha_160, ↓dhs_160, ↓dhl_160, Option.bind_some, ↓nm_eq, ↓sm_inl, ↓sm_inr, ↓dzo_0, ↓dzo_1, ↓drg_ok, ↓if_pos, ↓if_neg, if_pos, if_neg, if_true, if_false, Int.toNat_natCast, rg_ok, Int.toNat_natCast, esu, ↓bnd ent', ↓bnd ewh, ek]
        · dsimp only
          rw [k3 j hj]
          by_cases e : j = a
          · subst e
            rw [if_neg (Nat.lt_irrefl _), if_pos (Nat.lt_succ_self _), c]
          · by_cases e2 : j < a
            · rw [if_pos e2, if_pos (by omega)]
            · rw [if_neg e2, if_neg (by omega)]
        · dsimp only
          rw [k4]
          constructor
          · rintro ⟨j, h1, h2⟩; exact ⟨j, by omega, h2⟩
          · rintro ⟨j, h1, h2⟩
            refine ⟨j, ?_, h2⟩
            by_cases e : j = a
            · subst e; exact absurd c h2
            · omega
      · have esw := X1_setWhole_5 (u := u) (L := L) (J := J) (a := a) (x := x) (y := y) (gOp (opR g w) g v a x y : Int) ha (by omega) hy
        refine ⟨(true, gx_u J 85 (169 * a + 13 * x + y) (gOp (opR g w) g v a x y : Int)), ?_, k1.wr (by simp), fun r x' y' h1 h2 h3 => by dsimp only; rw [gu_at_ne (by omega)]; exact k2 r x' y' h1 h2 h3, fun j hj => ?_, ?_⟩
        · rw [b01_t]
          simp (disch := omega) only [l_X1_refine_5_92, b_X1_refine_5_92, b_X1_refine_5_139, ↓dhi_D, ↓dhG_D_0, ↓dhG_D_1, ↓dhG_D_2, ↓dhG_D_3, ↓dhG_D_4, ↓dha_160, ↓dhs_160, ↓dhl_160, Option.bind_some, ↓nm_eq, ↓sm_inl, ↓sm_inr, ↓dzo_0, ↓dzo_1, ↓drg_ok, ↓if_pos, ↓if_neg, if_pos, if_neg, if_true, if_false, Int.toNat_natCast, rg_ok, Int.toNat_natCast, esu, ↓bnd ent', ↓bnd ewh, ↓bnd esw, ek]
        · dsimp only
          by_cases e : j = a
          · subst e
            rw [gu_at_eq rfl, if_pos (Nat.lt_succ_self _)]
          · rw [gu_at_ne (by omega), k3 j hj]
            by_cases e2 : j < a
            · rw [if_pos e2, if_pos (by omega)]
            · rw [if_neg e2, if_neg (by omega)]
        · dsimp only
          exact ⟨fun _ => ⟨a, Nat.lt_succ_self _, c⟩, fun _ => rfl⟩
    · rintro f ⟨b, J⟩ ⟨k1, k2, k3, k4⟩
      dsimp only at k1 k2 k3 k4 ⊢
      refine ⟨b, J, ?_, k1, k2, fun j hj => by rw [k3 j hj, if_pos hj], k4⟩
      have hz : gi_zo (b01 b) = some () := zo_ok (b01_rg b)
      have hb := b01_rg b
      simp (disch := omega) only [l_X1_refine_5_92, b_X1_refine_5_92, Option.bind_some, ↓nm_eq, ↓sm_inl, ↓sm_inr, ↓dzo_0, ↓dzo_1, ↓drg_ok, ↓if_pos, ↓if_neg, if_pos, if_neg, if_true, if_false, Int.toNat_natCast, rg_ok, ↓bnd hz]
  -- the productions
  obtain ⟨Jz, ez, fz, vz⟩ := J7_fill (u := u) (L := L) (I := J0) (x := (oN (opR g w) : Int)) (a := 160) (N := 16) hn rfl (by decide) (by decide)
  have lA : zLP (Gn g) (fun f p (J : Nat → Nat → Int) => l_X1_refine_5_13 n f 159 (x : Int) (y : Int) (p : Int) (hp u J L))
      (fun p J => Fr [86, 160] J0 J ∧ (∀ r x' y', x' ≤ 12 → y' ≤ 12 → ¬ (x' = x ∧ y' = y) → J 86 (169 * r + 13 * x' + y') = J0 86 (169 * r + 13 * x' + y')) ∧ (∀ q, q < p → ∀ k, k ≤ Gl g q → J 86 (169 * (6 * q + k) + 13 * x + y) = (gD (opR g w) g v q k x y : Int)) ∧ ∀ a, a < 16 → J 160 a = (gF (opR g w) g v a x y p : Int))
      (fun res => ∃ J, res = b_X1_refine_5_87 n 159 (x : Int) (y : Int) (hp u J L) ∧ Fr [86, 160] J0 J ∧ (∀ r x' y', x' ≤ 12 → y' ≤ 12 → ¬ (x' = x ∧ y' = y) → J 86 (169 * r + 13 * x' + y') = J0 86 (169 * r + 13 * x' + y')) ∧ (∀ q, q < Gn g → ∀ k, k ≤ Gl g q → J 86 (169 * (6 * q + k) + 13 * x + y) = (gD (opR g w) g v q k x y : Int)) ∧ ∀ a, a < 16 → J 160 a = (gF (opR g w) g v a x y (Gn g) : Int)) := by
    refine zlp ?_ ?_
    · rintro f p J hp1 ⟨f1, f2, f3, f4⟩
      right
      have hC1 := hC.own5 (f1.up (fun a z => by simp at z; simp [CL5]; omega))
      have hw := hC1.1.1.1
      have hcg := hC1.1.1.2
      have hS1 : CSE w J := fun i hi => by rw [f1 63 (by decide)]; exact hs i hi
      have ec := X4_count (u := u) (L := L) hgm hw
      rw [hcg] at ec
      have eo := X4_owner (u := u) (L := L) hgm hw (p := p) (by rw [hcg]; exact hp1)
      rw [hcg] at eo
      have ho := hg.2.2.1 p
      have h5 := hg.2.2.2.1 p
      obtain ⟨J1, e1, g1, g2, g3⟩ := X1_ofProduction_5 (u := u) (g := g) hn hC1 hS1 hsw hv hp1 hxy hy (fun k hk m h1 h2 => by rw [f2 _ _ _ (by omega) (by omega) (by omega)]; exact hP p hp1 k hk m h1 h2) (fun a ha m h1 h2 => by rw [f1 85 (by decide)]; exact hW a ha m h1 h2)
      have b1 := gD_le hoB hg hv (p := p) (x := x) (Gl g p) y (Nat.le_refl _) hxy hy
      have b2 := gF_le hoB hg hv (a := Go g p) hxy hy p
      have esu : J1 160 (Go g p) = (gF (opR g w) g v (Go g p) x y p : Int) := by rw [g1 160 (by decide)]; exact f4 _ ho
      have eei := q5_either (u := u) (L := L) (J := J1) (g := g) (w := w) b2 b1
      have ek : (p : Int) + 1 = ((p + 1 : Nat) : Int) := rfl
      refine ⟨gx_u J1 160 (Go g p) (oE (opR g w) (gF (opR g w) g v (Go g p) x y p) (gD (opR g w) g v p (Gl g p) x y) : Int), ?_, (f1.tr (g1.up (fun a z => by simp at z; simp [z]))).wr (by simp), fun r x' y' h1 h2 h3 => ?_, fun q hq k hk => ?_, fun a ha => ?_⟩
      · simp (disch := omega) only [l_X1_refine_5_13, b_X1_refine_5_13, b_X1_refine_5_81, ↓dhi_F, ↓dhG_F_0, ↓dhg_F_1, ↓dhq_F_1, ↓dhg_F_2, ↓dhq_F_2, ↓dhg_F_3, ↓dhq_F_3, ↓dhg_F_4, ↓dhq_F_4, ↓dhG_F_5, ↓dhG_F_6, ↓dhG_F_7, ↓dhG_F_8, ↓dhG_F_9, ↓dhg_F_10, ↓dhq_F_10, ↓dhG_F_11, ↓dhG_F_12, ↓dhG_F_13, ↓dhi_D, ↓dhG_D_0, ↓dhG_D_1, ↓dhG_D_2, ↓dhG_D_3, ↓dhG_D_4, ↓dha_160, ↓dhs_160, ↓dhl_160, ↓dhi_G hgm, ↓dhG_G_0 hgm, ↓dhG_G_1 hgm, ↓dhG_G_2 hgm, ↓dhg_G_3 hgm, ↓dhq_G_3 hgm, ↓dhG_G_4 hgm, ↓dhG_G_5 hgm, ↓dhg_G_6 hgm, ↓dhq_G_6 hgm, ↓dhg_G_7 hgm, ↓dhq_G_7 hgm, ↓dhG_G_8 hgm, ↓dhG_G_9 hgm, ↓dha_G_1 hgm, ↓dhs_G_1 hgm, ↓dhl_G_1 hgm, ↓dha_G_2 hgm, ↓dhs_G_2 hgm, ↓dhl_G_2 hgm, ↓dha_G_3 hgm, ↓dhs_G_3 hgm, ↓dhl_G_3 hgm, ↓dha_G_4 hgm, ↓dhl_G_4 hgm, ↓dha_G_5 hgm, ↓dhs_G_5 hgm, ↓dhl_G_5 hgm, Option.bind_some, ↓nm_eq, ↓sm_inl, ↓sm_inr, ↓dzo_0, ↓dzo_1, ↓drg_ok, ↓if_pos, ↓if_neg, if_pos, if_neg, if_true, if_false, Int.toNat_natCast, rg_ok, ↓bnd X3_grammar, ↓bnd ec, ↓bnd eo, ↓bnd e1, Int.toNat_natCast, esu, ↓bnd eei, ek]
      · rw [gu_ne (by decide), g2 r x' y' h1 h2 (Or.inl h3)]; exact f2 r x' y' h1 h2 h3
      · rw [gu_ne (by decide)]
        have h5q := hg.2.2.2.1 q
        by_cases e : q = p
        · subst e; exact g3 k hk
        · rw [g2 (6 * q + k) x y (by omega) hy (Or.inr (by omega))]; exact f3 q (by omega) k hk
      · rw [gF_s]
        by_cases e : a = Go g p
        · rw [gu_at_eq e, if_pos e.symm, e]
        · rw [gu_at_ne e, if_neg (fun z => e z.symm), g1 160 (by decide)]; exact f4 a ha
    · rintro f J ⟨f1, f2, f3, f4⟩
      have hC1 := hC.own5 (f1.up (fun a z => by simp at z; simp [CL5]; omega))
      have ec := X4_count (u := u) (L := L) hgm hC1.1.1.1
      rw [hC1.1.1.2] at ec
      refine ⟨J, ?_, f1, f2, f3, f4⟩
      simp (disch := omega) only [l_X1_refine_5_13, b_X1_refine_5_13, ↓dhi_F, ↓dhG_F_0, ↓dhg_F_1, ↓dhq_F_1, ↓dhg_F_2, ↓dhq_F_2, ↓dhg_F_3, ↓dhq_F_3, ↓dhg_F_4, ↓dhq_F_4, ↓dhG_F_5, ↓dhG_F_6, ↓dhG_F_7, ↓dhG_F_8, ↓dhG_F_9, ↓dhg_F_10, ↓dhq_F_10, ↓dhG_F_11, ↓dhG_F_12, ↓dhG_F_13, ↓dhi_D, ↓dhG_D_0, ↓dhG_D_1, ↓dhG_D_2, ↓dhG_D_3, ↓dhG_D_4, ↓dhi_G hgm, ↓dhG_G_0 hgm, ↓dhG_G_1 hgm, ↓dhG_G_2 hgm, ↓dhg_G_3 hgm, ↓dhq_G_3 hgm, ↓dhG_G_4 hgm, ↓dhG_G_5 hgm, ↓dhg_G_6 hgm, ↓dhq_G_6 hgm, ↓dhg_G_7 hgm, ↓dhq_G_7 hgm, ↓dhG_G_8 hgm, ↓dhG_G_9 hgm, ↓dha_G_1 hgm, ↓dhs_G_1 hgm, ↓dhl_G_1 hgm, ↓dha_G_2 hgm, ↓dhs_G_2 hgm, ↓dhl_G_2 hgm, ↓dha_G_3 hgm, ↓dhs_G_3 hgm, ↓dhl_G_3 hgm, ↓dha_G_4 hgm, ↓dhl_G_4 hgm, ↓dha_G_5 hgm, ↓dhs_G_5 hgm, ↓dhl_G_5 hgm, Option.bind_some, ↓nm_eq, ↓sm_inl, ↓sm_inr, ↓dzo_0, ↓dzo_1, ↓drg_ok, ↓if_pos, ↓if_neg, if_pos, if_neg, if_true, if_false, Int.toNat_natCast, rg_ok, ↓bnd X3_grammar, ↓bnd ec]
  obtain ⟨J1, e1, f1, f2, f3, f4⟩ := lA (Gn g) n 0 Jz (by omega) (by omega) ⟨fz.up (fun a z => by simp at z; simp [z]), fun r x' y' _ _ _ => by rw [fz 86 (by decide)], fun q hq => absurd hq (by omega), fun a ha => by rw [vz, if_pos ha]; rfl⟩
  obtain ⟨b, J2, e2, k1, k2, k3, k4⟩ := lB J1 f1 f4 16 n 0 (false, J1) (by omega) (by omega) ⟨Fr.rf, fun _ _ _ _ _ _ => rfl, fun j hj => by dsimp only; rw [if_neg (by omega), f1 85 (by decide)]; exact hW j hj x (Nat.le_refl _) hxy, ⟨fun z => by dsimp only at z; exact absurd z (by decide), fun ⟨j, hj, _⟩ => absurd hj (by omega)⟩⟩
  refine ⟨b01 b, J2, ?_, ?_, ?_, fun r x' y' h1 h2 h3 => ⟨?_, ?_⟩, fun p hp1 k hk => ?_, k3⟩
  · have e1' : l_X1_refine_5_13 n n 159 (x : Int) (y : Int) 0 (hp u Jz L) = b_X1_refine_5_87 n 159 (x : Int) (y : Int) (hp u J1 L) := e1
    have e2' : l_X1_refine_5_92 n n 159 (x : Int) (y : Int) 0 0 (hp u J1 L) = some (b01 b, hp u J2 L) := e2
    have eno := q5_none (g := g) (w := w) (hp u J0 L)
    rw [← e2']
    have e87 : b_X1_refine_5_87 n 159 (x : Int) (y : Int) (hp u J1 L) = l_X1_refine_5_92 n n 159 (x : Int) (y : Int) 0 0 (hp u J1 L) := rfl
    rw [← e87, ← e1']
    simp (disch := omega) only [f_X1_refine_5, ↓dhi_D, ↓dhG_D_0, ↓dhG_D_1, ↓dhG_D_2, ↓dhG_D_3, ↓dhG_D_4, Option.bind_some, ↓nm_eq, ↓sm_inl, ↓sm_inr, ↓dzo_0, ↓dzo_1, ↓drg_ok, ↓if_pos, ↓if_neg, if_pos, if_neg, if_true, if_false, Int.toNat_natCast, rg_ok, ↓bnd eno, ↓bnd ez]
  · exact (f1.up (fun a z => by simp at z; simp [CL5]; omega)).tr (k1.up (fun a z => by simp at z; simp [CL5, z]))
  · cases b with
    | false =>
      refine Or.inl ⟨rfl, fun a ha => ?_⟩
      apply Classical.byContradiction; intro z
      exact absurd (k4.mpr ⟨a, ha, z⟩) (by decide)
    | true => exact Or.inr ⟨rfl, k4.mp rfl⟩
  · rw [k1 86 (by decide)]; exact f2 r x' y' h1 h2 h3
  · rw [k2 r x' y' h1 h2 h3, f1 85 (by decide)]
  · rw [k1 86 (by decide)]; exact f3 p hp1 k hk
theorem X1_f30a_5 (r : Nat → Int → Int → Int → Int → gi_H → Option gi_H) (x y rd : Int) (h : gi_H) (h0 : 0 ≤ rd) (h1 : rd < 1000000) : b_X1_fill_5_30 n r 159 x y 1 rd h = Option.bind (gi_is h 159 5) (fun _ => Option.bind (f_X1_refine_5 n 159 x y h) fun q8 => r 159 x y q8.1 (rd + 1) q8.2) := by
  have key : ∀ (M : Int) (A B : Option gi_H), rd < M → (if M ≤ rd then A else B) = B := fun M A B hM => if_neg (by omega)
  rw [b_X1_fill_5_30, drg_ok (by omega) (by omega), key _ _ _ h1, drg_ok (by decide) (by decide), if_neg (by decide)]
  rfl
theorem X1_f30b_5 (r : Nat → Int → Int → Int → Int → gi_H → Option gi_H) (x y rd : Int) (h : gi_H) (h0 : 0 ≤ rd) (h1 : rd < 1000000) : b_X1_fill_5_30 n r 159 x y 0 rd h = some h := by
  have key : ∀ (M : Int) (A B : Option gi_H), rd < M → (if M ≤ rd then A else B) = B := fun M A B hM => if_neg (by omega)
  rw [b_X1_fill_5_30, drg_ok (by omega) (by omega), key _ _ _ h1, drg_ok (by decide) (by decide), if_pos rfl]
/-- the rounds over a stretch -/
theorem X1_rounds_5 (hn : 1000000000000000000000000000000 ≤ n) {K : CV → Nat → Nat → (Nat → Nat) → Prop} {mu : (Nat → Nat) → Nat} (hK : KOK (opR g w) g nw K mu) (hnw : nw ≤ 12) {J0 : Nat → Nat → Int} (hC : CTB u g 0 J0 L) (hs : CSE w J0) (hsw : SW w nw) {v : CV} (hv : vB v) {x y : Nat} (hxy : x ≤ y) (hy : y ≤ nw)
    (hP : ∀ p, p < Gn g → ∀ k, k ≤ Gl g p → ∀ m, x ≤ m → m < y → J0 86 (169 * (6 * p + k) + 13 * x + m) = (gD (opR g w) g v p k x m : Int)) (hW : ∀ a, a < 16 → ∀ m, x ≤ m → m ≤ y → m ≠ x → J0 85 (169 * a + 13 * m + y) = (v a m y : Int)) :
    ∀ (m f rd : Nat) (J : Nat → Nat → Int) (z : Nat → Nat), mu z ≤ m → m + 2 < f → (rd : Int) + (m : Int) + 2 ≤ 1000000 → (∀ a, z a ≤ 1000) → K v x y z → Fr CL5 J0 J →
      (∀ r x' y', x' ≤ 12 → y' ≤ 12 → ¬ (x' = x ∧ y' = y) → J 86 (169 * r + 13 * x' + y') = J0 86 (169 * r + 13 * x' + y') ∧ J 85 (169 * r + 13 * x' + y') = J0 85 (169 * r + 13 * x' + y')) → (∀ a, a < 16 → J 85 (169 * a + 13 * x + y) = (z a : Int)) →
      ∃ (J' : Nat → Nat → Int) (z' : Nat → Nat), l_X1_fill_5_30 n f 159 (x : Int) (y : Int) 1 (rd : Int) (hp u J L) = some (hp u J' L) ∧ (∀ a, z' a ≤ 1000) ∧ K v x y z' ∧ (∀ a, a < 16 → gOp (opR g w) g (vs v x y z') a x y = z' a) ∧ Fr CL5 J0 J' ∧
        (∀ r x' y', x' ≤ 12 → y' ≤ 12 → ¬ (x' = x ∧ y' = y) → J' 86 (169 * r + 13 * x' + y') = J0 86 (169 * r + 13 * x' + y') ∧ J' 85 (169 * r + 13 * x' + y') = J0 85 (169 * r + 13 * x' + y')) ∧
        (∀ a, a < 16 → J' 85 (169 * a + 13 * x + y) = (z' a : Int)) ∧ ∀ p, p < Gn g → ∀ k, k ≤ Gl g p → J' 86 (169 * (6 * p + k) + 13 * x + y) = (gD (opR g w) g (vs v x y z') p k x y : Int) := by
  have hg := hC.1.gr
  intro m
  induction m with
  | zero =>
    intro f rd J z hm hf hrd hz hKz f1 f2 f3
    obtain ⟨f', rfl⟩ : ∃ f', f = f' + 1 + 1 := ⟨f - 2, by omega⟩
    have hC1 := hC.own5 f1
    have hS1 : CSE w J := fun i hi => by rw [f1 63 (by decide)]; exact hs i hi
    have hvz := vB_vs hv (x := x) (y := y) hz
    obtain ⟨r, J1, e1, g1, g2, g3, g4, g5⟩ := X1_refine_5 (u := u) (g := g) hn hC1 hS1 hsw hvz hxy (by omega) (fun p hp1 k hk m h1 h2 => by
      rw [(f2 _ _ _ (by omega) (by omega) (by omega)).1, hP p hp1 k hk m h1 h2, gD_congr hg k m hk (fun a x' y' q1 q2 q3 q4 => vs_ne (by omega))]) (fun a ha m h1 h2 => by
      by_cases e : m = x
      · rw [e, vs_eq]; exact f3 a ha
      · rw [vs_ne (by omega), (f2 _ _ _ (by omega) (by omega) (by omega)).2]; exact hW a ha m h1 h2 e)
    have hst := hK.2.1 v x y z hv hz hxy hy hKz
    have ek : (rd : Int) + 1 = ((rd + 1 : Nat) : Int) := rfl
    rcases g2 with ⟨r0, r1⟩ | ⟨r0, r1⟩
    · refine ⟨J1, z, ?_, hz, hKz, fun a ha => by rw [r1 a ha, vs_eq], f1.tr g1, fun r x' y' h1 h2 h3 => ⟨(g3 r x' y' h1 h2 h3).1.trans (f2 r x' y' h1 h2 h3).1, (g3 r x' y' h1 h2 h3).2.trans (f2 r x' y' h1 h2 h3).2⟩, fun a ha => by rw [g5 a ha, r1 a ha, vs_eq], g4⟩
      rw [r0] at e1
      have ea := X1_f30a_5 (n := n) (l_X1_fill_5_30 n (f' + 1)) (x : Int) (y : Int) (rd : Int) (hp u J L) (by omega) (by omega)
      have eb := X1_f30b_5 (n := n) (l_X1_fill_5_30 n f') (x : Int) (y : Int) ((rd + 1 : Nat) : Int) (hp u J1 L) (by omega) (by omega)
      rw [bnd hi_D, bnd e1, ek] at ea
      exact ea.trans eb
    · exfalso
      obtain ⟨a, ha, hne⟩ := r1
      rw [vs_eq] at hne
      have := hst.2 ⟨a, ha, hne⟩
      omega
  | succ m ih =>
    intro f rd J z hm hf hrd hz hKz f1 f2 f3
    obtain ⟨f', rfl⟩ : ∃ f', f = f' + 1 + 1 := ⟨f - 2, by omega⟩
    have hC1 := hC.own5 f1
    have hS1 : CSE w J := fun i hi => by rw [f1 63 (by decide)]; exact hs i hi
    have hvz := vB_vs hv (x := x) (y := y) hz
    obtain ⟨r, J1, e1, g1, g2, g3, g4, g5⟩ := X1_refine_5 (u := u) (g := g) hn hC1 hS1 hsw hvz hxy (by omega) (fun p hp1 k hk m h1 h2 => by
      rw [(f2 _ _ _ (by omega) (by omega) (by omega)).1, hP p hp1 k hk m h1 h2, gD_congr hg k m hk (fun a x' y' q1 q2 q3 q4 => vs_ne (by omega))]) (fun a ha m h1 h2 => by
      by_cases e : m = x
      · rw [e, vs_eq]; exact f3 a ha
      · rw [vs_ne (by omega), (f2 _ _ _ (by omega) (by omega) (by omega)).2]; exact hW a ha m h1 h2 e)
    have hst := hK.2.1 v x y z hv hz hxy hy hKz
    have ek : (rd : Int) + 1 = ((rd + 1 : Nat) : Int) := rfl
    have hoB := (opR_b (g := g) (w := w))
    rcases g2 with ⟨r0, r1⟩ | ⟨r0, r1⟩
    · refine ⟨J1, z, ?_, hz, hKz, fun a ha => by rw [r1 a ha, vs_eq], f1.tr g1, fun r x' y' h1 h2 h3 => ⟨(g3 r x' y' h1 h2 h3).1.trans (f2 r x' y' h1 h2 h3).1, (g3 r x' y' h1 h2 h3).2.trans (f2 r x' y' h1 h2 h3).2⟩, fun a ha => by rw [g5 a ha, r1 a ha, vs_eq], g4⟩
      rw [r0] at e1
      have ea := X1_f30a_5 (n := n) (l_X1_fill_5_30 n (f' + 1)) (x : Int) (y : Int) (rd : Int) (hp u J L) (by omega) (by omega)
      have eb := X1_f30b_5 (n := n) (l_X1_fill_5_30 n f') (x : Int) (y : Int) ((rd + 1 : Nat) : Int) (hp u J1 L) (by omega) (by omega)
      rw [bnd hi_D, bnd e1, ek] at ea
      exact ea.trans eb
    · obtain ⟨a, ha, hne⟩ := r1
      rw [vs_eq] at hne
      have hlt := hst.2 ⟨a, ha, hne⟩
      obtain ⟨J', z', i1, i2⟩ := ih (f' + 1) (rd + 1) J1 (fun a => gOp (opR g w) g (vs v x y z) a x y) (by omega) (by omega) (by omega) (fun a => gOp_le hoB hg hvz hxy (by omega)) hst.1 (f1.tr g1) (fun r x' y' h1 h2 h3 => ⟨(g3 r x' y' h1 h2 h3).1.trans (f2 r x' y' h1 h2 h3).1, (g3 r x' y' h1 h2 h3).2.trans (f2 r x' y' h1 h2 h3).2⟩) g5
      refine ⟨J', z', ?_, i2⟩
      rw [← i1]
      rw [r0] at e1
      have e30 : l_X1_fill_5_30 n (f' + 1 + 1) 159 (x : Int) (y : Int) 1 (rd : Int) (hp u J L) = b_X1_fill_5_30 n (l_X1_fill_5_30 n (f' + 1)) 159 (x : Int) (y : Int) 1 (rd : Int) (hp u J L) := rfl
      have ea := X1_f30a_5 (n := n) (l_X1_fill_5_30 n (f' + 1)) (x : Int) (y : Int) (rd : Int) (hp u J L) (by omega) (by omega)
      rw [bnd hi_D, bnd e1, ek] at ea
      exact e30.trans ea
/-- a chart in memory, as far as it is filled -/
def CHI5 (g : GT) (w : Nat → Nat) (K : CV → Nat → Nat → (Nat → Nat) → Prop) (J0 J : Nat → Nat → Int) (v : CV) (P : Nat → Nat → Prop) : Prop := Fr CL5 J0 J ∧ vB v ∧ CHW v J P ∧ CHP (opR g w) g v J P ∧ FIX (opR g w) g K v P
theorem X1_fill_5 (hn : 1000000000000000000000000000000 ≤ n) {K : CV → Nat → Nat → (Nat → Nat) → Prop} {mu : (Nat → Nat) → Nat} (hK : KOK (opR g w) g nw K mu) (hnw : nw ≤ 12) {J0 : Nat → Nat → Int} (hC : CTB u g 0 J0 L) (hs : CSE w J0) (hsw : SW w nw) {v : CV} {J : Nat → Nat → Int} {W X : Nat} (hWX : X + W ≤ nw) (h : CHI5 g w K J0 J v (fb nw W X)) :
    ∃ (J' : Nat → Nat → Int) (v' : CV), f_X1_fill_5 n 159 (X : Int) ((X + W : Nat) : Int) (hp u J L) = some (hp u J' L) ∧ CHI5 g w K J0 J' v' (fb nw W (X + 1)) := by
  obtain ⟨f1, hv, hW, hP, hFx⟩ := h
  have hg := hC.1.gr
  have hoB := (opR_b (g := g) (w := w))
  have hC1 := hC.own5 f1
  have hS1 : CSE w J := fun i hi => by rw [f1 63 (by decide)]; exact hs i hi
  have hK0 := hK.1 v X (X + W) hv (by omega) hWX
  -- first none
  have l0 : zLP 16 (fun f a (J1 : Nat → Nat → Int) => l_X1_fill_5_2 n f 159 (X : Int) ((X + W : Nat) : Int) (a : Int) (hp u J1 L))
      (fun a J1 => Fr [85] J J1 ∧ (∀ r x' y', x' ≤ 12 → y' ≤ 12 → ¬ (x' = X ∧ y' = X + W) → J1 85 (169 * r + 13 * x' + y') = J 85 (169 * r + 13 * x' + y')) ∧ ∀ j, j < a → J1 85 (169 * j + 13 * X + (X + W)) = (oN (opR g w) : Int))
      (fun res => ∃ J1, res = b_X1_fill_5_25 n 159 (X : Int) ((X + W : Nat) : Int) (hp u J1 L) ∧ Fr [85] J J1 ∧ (∀ r x' y', x' ≤ 12 → y' ≤ 12 → ¬ (x' = X ∧ y' = X + W) → J1 85 (169 * r + 13 * x' + y') = J 85 (169 * r + 13 * x' + y')) ∧ ∀ j, j < 16 → J1 85 (169 * j + 13 * X + (X + W)) = (oN (opR g w) : Int)) := by
    refine zlp ?_ ?_
    · rintro f a J1 ha ⟨k1, k2, k3⟩
      right
      have eno := q5_none (g := g) (w := w) (hp u J1 L)
      have esw := X1_setWhole_5 (u := u) (L := L) (J := J1) (a := a) (x := X) (y := X + W) (oN (opR g w) : Int) ha (by omega) (by omega)
      have ek : (a : Int) + 1 = ((a + 1 : Nat) : Int) := rfl
      refine ⟨gx_u J1 85 (169 * a + 13 * X + (X + W)) (oN (opR g w) : Int), ?_, k1.wr (by simp), fun r x' y' h1 h2 h3 => by rw [gu_at_ne (by omega)]; exact k2 r x' y' h1 h2 h3, fun j hj => ?_⟩
      · simp (disch := omega) only [l_X1_fill_5_2, b_X1_fill_5_2, ↓dhi_D, ↓dhG_D_0, ↓dhG_D_1, ↓dhG_D_2, ↓dhG_D_3, ↓dhG_D_4, Option.bind_some, ↓nm_eq, ↓sm_inl, ↓sm_inr, ↓dzo_0, ↓dzo_1, ↓drg_ok, ↓if_pos, ↓if_neg, if_pos, if_neg, if_true, if_false, Int.toNat_natCast, rg_ok, ↓bnd eno, ↓bnd esw, ek]
      · by_cases e : j = a
        · rw [e, gu_at_eq rfl]
        · rw [gu_at_ne (by omega)]; exact k3 j (by omega)
    · rintro f J1 ⟨k1, k2, k3⟩
      refine ⟨J1, ?_, k1, k2, k3⟩
      simp (disch := omega) only [l_X1_fill_5_2, b_X1_fill_5_2, Option.bind_some, ↓nm_eq, ↓sm_inl, ↓sm_inr, ↓dzo_0, ↓dzo_1, ↓drg_ok, ↓if_pos, ↓if_neg, if_pos, if_neg, if_true, if_false, Int.toNat_natCast, rg_ok]
  obtain ⟨J1, e1, k1, k2, k3⟩ := l0 16 n 0 J (by omega) (by omega) ⟨Fr.rf, fun _ _ _ _ _ _ => rfl, fun j hj => absurd hj (by omega)⟩
  have hno := hoB.1
  have hmu := hK.2.2.1 (fun _ => oN (opR g w)) (fun _ => hno)
  obtain ⟨J', z', i1, i2, i3, i4, i5, i6, i7, i8⟩ := X1_rounds_5 (u := u) (g := g) hn hK hnw hC1 hS1 hsw hv (x := X) (y := X + W) (by omega) hWX (fun p hp1 k hk m h1 h2 => hP X m ⟨h1, by omega, Or.inl (by omega)⟩ p hp1 k hk) (fun a ha m h1 h2 h3 => hW m (X + W) ⟨h2, hWX, Or.inl (by omega)⟩ a ha) 20000 n 0 J1 (fun _ => oN (opR g w)) hmu (by omega) (by omega) (fun _ => hno) hK0 (k1.up (fun a z => by simp at z; simp [CL5, z])) (fun r x' y' h1 h2 h3 => ⟨by rw [k1 86 (by decide)], k2 r x' y' h1 h2 h3⟩) (fun a ha => k3 a ha)
  have hvz := vB_vs hv (x := X) (y := X + W) i2
  -- other stretches are as they were
  have hfb : ∀ x y, fb nw W (X + 1) x y → (x = X ∧ y = X + W) ∨ (¬ (x = X ∧ y = X + W) ∧ fb nw W X x y) := by
    rintro x y ⟨a1, a2, a3⟩
    by_cases e : x = X ∧ y = X + W
    · exact Or.inl e
    · exact Or.inr ⟨e, a1, a2, by omega⟩
  have hsub : ∀ x y, fb nw W X x y → vEq v (vs v X (X + W) z') x y := fun x y hf a x' y' q1 q2 q3 q4 => by
    obtain ⟨b1, b2, b3⟩ := hf
    exact (vs_ne (by omega)).symm
  refine ⟨J', vs v X (X + W) z', ?_, f1.tr i5, hvz, fun x y hf a ha => ?_, fun x y hf p hp1 k hk => ?_, fun x y hf => ?_⟩
  · have e1' : l_X1_fill_5_2 n n 159 (X : Int) ((X + W : Nat) : Int) 0 (hp u J L) = b_X1_fill_5_25 n 159 (X : Int) ((X + W : Nat) : Int) (hp u J1 L) := e1
    have i1' : l_X1_fill_5_30 n n 159 (X : Int) ((X + W : Nat) : Int) 1 0 (hp u J1 L) = some (hp u J' L) := i1
    have e25 : b_X1_fill_5_25 n 159 (X : Int) ((X + W : Nat) : Int) (hp u J1 L) = l_X1_fill_5_30 n n 159 (X : Int) ((X + W : Nat) : Int) 1 0 (hp u J1 L) := rfl
    rw [← i1', ← e25, ← e1']
    rfl
  · rcases hfb x y hf with ⟨rfl, rfl⟩ | ⟨e, hf'⟩
    · rw [vs_eq]; exact i7 a ha
    · have h1 := hf'.1
      have h2 := hf'.2.1
      rw [vs_ne e, (i6 a x y (by omega) (by omega) e).2]; exact hW x y hf' a ha
  · rcases hfb x y hf with ⟨rfl, rfl⟩ | ⟨e, hf'⟩
    · exact i8 p hp1 k hk
    · have h1 := hf'.1
      have h2 := hf'.2.1
      rw [(i6 (6 * p + k) x y (by omega) (by omega) e).1, hP x y hf' p hp1 k hk, gD_congr hg k y hk (hsub x y hf')]
  · rcases hfb x y hf with ⟨rfl, rfl⟩ | ⟨e, hf'⟩
    · refine ⟨fun a ha => by rw [vs_eq, i4 a ha], ?_⟩
      refine hK.2.2.2 v _ _ _ z' _ (fun a x' y' q1 q2 q3 q4 q5 => (vs_ne q5).symm) (fun a => vs_eq.symm) i3
    · obtain ⟨c1, c2⟩ := hFx x y hf'
      refine ⟨fun a ha => by rw [vs_ne e, c1 a ha, gOp_congr hg (hsub x y hf')], ?_⟩
      exact hK.2.2.2 v _ x y _ _ (fun a x' y' q1 q2 q3 q4 _ => hsub x y hf' a x' y' q1 q2 q3 q4) (fun a => (vs_ne e).symm) c2
theorem X1_measure_5 (hn : 1000000000000000000000000000000 ≤ n) {K : CV → Nat → Nat → (Nat → Nat) → Prop} {mu : (Nat → Nat) → Nat} (hK : KOK (opR g w) g nw K mu) (hnw : nw ≤ 12) {J0 : Nat → Nat → Int} (hC : CTB u g 0 J0 L) (hs : CSE w J0) (hsw : SW w nw) :
    ∃ (J : Nat → Nat → Int) (v : CV), f_X1_measure_5 n 159 (nw : Int) (hp u J0 L) = some ((v (Gt g) 0 nw : Int), hp u J L) ∧ Fr CL5 J0 J ∧ vB v ∧ FIX (opR g w) g K v (fun x y => x ≤ y ∧ y ≤ nw) := by
  have hg := hC.1.gr
  have hgm := gU_mem u
  have inn : ∀ (r9 : Nat → Int → Int → gi_H → Option (Int × gi_H)) (W : Nat), W ≤ nw → zLP (nw + 1 - W) (fun f X (s : (Nat → Nat → Int) × CV) => l_X1_measure_5_17 n r9 f 159 (nw : Int) (W : Int) (X : Int) (hp u s.1 L))
      (fun X s => CHI5 g w K J0 s.1 s.2 (fb nw W X))
      (fun res => ∃ (J : Nat → Nat → Int) (v : CV), res = r9 159 (nw : Int) ((W + 1 : Nat) : Int) (hp u J L) ∧ CHI5 g w K J0 J v (fb nw (W + 1) 0)) := by
    intro r9 W hW
    refine zlp ?_ ?_
    · rintro f X ⟨J, v⟩ hX hI
      dsimp only at hI ⊢
      right
      obtain ⟨J', v', e, hI'⟩ := X1_fill_5 (u := u) (g := g) hn hK hnw hC hs hsw (X := X) (W := W) (by omega) hI
      have exw : (X : Int) + (W : Int) = ((X + W : Nat) : Int) := rfl
      have ek : (X : Int) + 1 = ((X + 1 : Nat) : Int) := rfl
      refine ⟨(J', v'), ?_, hI'⟩
      simp (disch := omega) only [l_X1_measure_5_17, b_X1_measure_5_17, ↓dhi_D, ↓dhG_D_0, ↓dhG_D_1, ↓dhG_D_2, ↓dhG_D_3, ↓dhG_D_4, Option.bind_some, ↓nm_eq, ↓sm_inl, ↓sm_inr, ↓dzo_0, ↓dzo_1, ↓drg_ok, ↓if_pos, ↓if_neg, if_pos, if_neg, if_true, if_false, Int.toNat_natCast, rg_ok, exw, ↓bnd e, ek]
    · rintro f ⟨J, v⟩ hI
      dsimp only at hI ⊢
      have ek : (W : Int) + 1 = ((W + 1 : Nat) : Int) := rfl
      have hfb : ∀ x y, fb nw (W + 1) 0 x y → fb nw W (nw + 1 - W) x y := fun x y ⟨a1, a2, a3⟩ => ⟨a1, a2, by omega⟩
      refine ⟨J, v, ?_, hI.1, hI.2.1, fun x y hf => hI.2.2.1 x y (hfb x y hf), fun x y hf => hI.2.2.2.1 x y (hfb x y hf), fun x y hf => hI.2.2.2.2 x y (hfb x y hf)⟩
      have ex : ((nw + 1 - W : Nat) : Int) + (W : Int) = (nw : Int) + 1 := by omega
      simp (disch := omega) only [l_X1_measure_5_17, b_X1_measure_5_17, b_X1_measure_5_41, ↓dhi_D, ↓dhG_D_0, ↓dhG_D_1, ↓dhG_D_2, ↓dhG_D_3, ↓dhG_D_4, Option.bind_some, ↓nm_eq, ↓sm_inl, ↓sm_inr, ↓dzo_0, ↓dzo_1, ↓drg_ok, ↓if_pos, ↓if_neg, if_pos, if_neg, if_true, if_false, Int.toNat_natCast, rg_ok, ex, ek]
  have out : zLP (nw + 1) (fun f W (s : (Nat → Nat → Int) × CV) => l_X1_measure_5_9 n f 159 (nw : Int) (W : Int) (hp u s.1 L))
      (fun W s => CHI5 g w K J0 s.1 s.2 (fb nw W 0))
      (fun res => ∃ (J : Nat → Nat → Int) (v : CV), res = some ((v (Gt g) 0 nw : Int), hp u J L) ∧ Fr CL5 J0 J ∧ vB v ∧ FIX (opR g w) g K v (fun x y => x ≤ y ∧ y ≤ nw)) := by
    refine zlp ?_ ?_
    · rintro f W ⟨J, v⟩ hW hI
      dsimp only at hI ⊢
      right
      obtain ⟨J', v', e, hI'⟩ := inn (l_X1_measure_5_9 n f) W (by omega) (nw + 1 - W) n 0 (J, v) (by omega) (by omega) hI
      refine ⟨(J', v'), ?_, hI'⟩
      have e' : l_X1_measure_5_17 n (l_X1_measure_5_9 n f) n 159 (nw : Int) (W : Int) 0 (hp u J L) = l_X1_measure_5_9 n f 159 (nw : Int) ((W + 1 : Nat) : Int) (hp u J' L) := e
      dsimp only
      rw [← e']
      simp (disch := omega) only [l_X1_measure_5_9, b_X1_measure_5_9, ↓dhi_D, ↓dhG_D_0, ↓dhG_D_1, ↓dhG_D_2, ↓dhG_D_3, ↓dhG_D_4, Option.bind_some, ↓nm_eq, ↓sm_inl, ↓sm_inr, ↓dzo_0, ↓dzo_1, ↓drg_ok, ↓if_pos, ↓if_neg, if_pos, if_neg, if_true, if_false, Int.toNat_natCast, rg_ok]
    · rintro f ⟨J, v⟩ hI
      dsimp only at hI ⊢
      have hC1 := hC.own5 hI.1
      have et := X4_top (u := u) (L := L) hgm hC1.1.1.1
      rw [hC1.1.1.2] at et
      have ht := hg.2.1
      have hfb : ∀ x y, x ≤ y ∧ y ≤ nw → fb nw (nw + 1) 0 x y := fun x y ⟨a1, a2⟩ => ⟨a1, a2, by omega⟩
      have ewh := X1_whole_5 (u := u) (L := L) (J := J) (a := Gt g) (x := 0) (y := nw) (by omega) (by omega) hnw
      rw [hI.2.2.1 0 nw (hfb 0 nw ⟨Nat.zero_le _, Nat.le_refl _⟩) (Gt g) (by omega)] at ewh
      have ewh' : f_X1_whole_5 159 (Gt g : Int) 0 (nw : Int) (hp u J L) = some (v (Gt g) 0 nw : Int) := ewh
      refine ⟨J, v, ?_, hI.1, hI.2.1, fun x y hf => hI.2.2.2.2 x y (hfb x y hf)⟩
      simp (disch := omega) only [l_X1_measure_5_9, b_X1_measure_5_9, b_X1_measure_5_47, ↓dhi_F, ↓dhG_F_0, ↓dhg_F_1, ↓dhq_F_1, ↓dhg_F_2, ↓dhq_F_2, ↓dhg_F_3, ↓dhq_F_3, ↓dhg_F_4, ↓dhq_F_4, ↓dhG_F_5, ↓dhG_F_6, ↓dhG_F_7, ↓dhG_F_8, ↓dhG_F_9, ↓dhg_F_10, ↓dhq_F_10, ↓dhG_F_11, ↓dhG_F_12, ↓dhG_F_13, ↓dhi_D, ↓dhG_D_0, ↓dhG_D_1, ↓dhG_D_2, ↓dhG_D_3, ↓dhG_D_4, ↓dhi_G hgm, ↓dhG_G_0 hgm, ↓dhG_G_1 hgm, ↓dhG_G_2 hgm, ↓dhg_G_3 hgm, ↓dhq_G_3 hgm, ↓dhG_G_4 hgm, ↓dhG_G_5 hgm, ↓dhg_G_6 hgm, ↓dhq_G_6 hgm, ↓dhg_G_7 hgm, ↓dhq_G_7 hgm, ↓dhG_G_8 hgm, ↓dhG_G_9 hgm, ↓dha_G_1 hgm, ↓dhs_G_1 hgm, ↓dhl_G_1 hgm, ↓dha_G_2 hgm, ↓dhs_G_2 hgm, ↓dhl_G_2 hgm, ↓dha_G_3 hgm, ↓dhs_G_3 hgm, ↓dhl_G_3 hgm, ↓dha_G_4 hgm, ↓dhl_G_4 hgm, ↓dha_G_5 hgm, ↓dhs_G_5 hgm, ↓dhl_G_5 hgm, Option.bind_some, ↓nm_eq, ↓sm_inl, ↓sm_inr, ↓dzo_0, ↓dzo_1, ↓drg_ok, ↓if_pos, ↓if_neg, if_pos, if_neg, if_true, if_false, Int.toNat_natCast, rg_ok, ↓bnd X3_grammar, ↓bnd et, ↓bnd ewh']
  obtain ⟨J, v, e, q⟩ := out (nw + 1) n 0 (J0, fun _ _ _ => 0) (by omega) (by omega) ⟨Fr.rf, fun _ _ _ => Nat.zero_le _, fun x y ⟨a1, a2, a3⟩ => by omega, fun x y ⟨a1, a2, a3⟩ => by omega, fun x y ⟨a1, a2, a3⟩ => by omega⟩
  refine ⟨J, v, ?_, q⟩
  have e' : l_X1_measure_5_9 n n 159 (nw : Int) 0 (hp u J0 L) = some ((v (Gt g) 0 nw : Int), hp u J L) := e
  have emin : gi_min (nw : Int) 12 = (nw : Int) := by unfold gi_min; split <;> omega
  rw [← e']
  simp (disch := omega) only [f_X1_measure_5, ↓dhi_D, ↓dhG_D_0, ↓dhG_D_1, ↓dhG_D_2, ↓dhG_D_3, ↓dhG_D_4, Option.bind_some, ↓nm_eq, ↓sm_inl, ↓sm_inr, ↓dzo_0, ↓dzo_1, ↓drg_ok, ↓if_pos, ↓if_neg, if_pos, if_neg, if_true, if_false, Int.toNat_natCast, rg_ok, emin]
end CH5
