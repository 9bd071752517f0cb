/-! ===== the reference: a cell ===== -/
/-- the last terminal of a right ahead of a place, or -1 -/
def zlt (g : GT) (q : Nat) : Nat → Int
  | 0 => -1
  | k + 1 => if Gs g q k < 16 then (Gs g q k : Int) else zlt g q k
theorem zlt_s {g : GT} {q k : Nat} : zlt g q (k + 1) = if Gs g q k < 16 then (Gs g q k : Int) else zlt g q k := rfl
theorem zlt_rg {g : GT} (hg : GR g) {q : Nat} : ∀ k, k ≤ Gl g q → -1 ≤ zlt g q k ∧ zlt g q k < 8
  | 0, _ => by show -1 ≤ (-1 : Int) ∧ (-1 : Int) < 8; omega
  | k + 1, h => by
    rw [zlt_s]
    split
    · have := hg.2.2.2.2.2 q k (by omega); omega
    · exact zlt_rg hg k (by omega)
def zlv (lv : Nat → Int) (x : Int) : Int := if x < 0 then 0 else lv x.toNat
def LVR (lv sd : Nat → Int) : Prop := ∀ y, y < 8 → (0 ≤ lv y ∧ lv y ≤ 5) ∧ 0 ≤ sd y ∧ sd y ≤ 2
/-- the level of a production -/
def zlp2 (g : GT) (lv : Nat → Int) (q : Int) : Int := zlv lv (zlt g q.toNat (Gl g q.toNat))
noncomputable def zst (g : GT) (kd : Nat) (lv : Nat → Int) (t y : Nat) : Bool := zsh g kd t y && !(zac g kd t y) && decide (zct g kd t y = 1) && decide (0 < lv y) && decide (0 < zlp2 g lv (zlo g kd t y))
/-- what is done in a cell: 25 is the end, 24 a step, -1 nothing -/
noncomputable def zat (g : GT) (kd : Nat) (lv sd : Nat → Int) (t y : Nat) : Int :=
  if zst g kd lv t y = true then (if zlp2 g lv (zlo g kd t y) = lv y then (if sd y = 2 then -1 else if sd y = 0 then zlo g kd t y else 24) else if zlp2 g lv (zlo g kd t y) < lv y then 24 else zlo g kd t y)
  else if zac g kd t y = true then 25 else if zsh g kd t y = true then 24 else zlo g kd t y
def zcd (x : Int) : Int := if x = 25 then 1000 else if x = 24 then 2000 else x
theorem zcd_25 : zcd 25 = 1000 := if_pos rfl
theorem zcd_24 : zcd 24 = 2000 := by unfold zcd; rw [if_neg (by decide), if_pos rfl]
theorem zcd_m : zcd (-1) = -1 := by unfold zcd; rw [if_neg (by decide), if_neg (by decide)]
theorem b01_t : b01 true = 1 := if_pos rfl
theorem b01_f : b01 false = 0 := if_neg (by decide)
noncomputable def ztt (g : GT) (kd t y : Nat) : Int := b01 (zsh g kd t y) + b01 (zac g kd t y) + (zct g kd t y : Int)
noncomputable def zce (g : GT) (kd : Nat) (lv sd : Nat → Int) (t y : Nat) : Int := (if zst g kd lv t y = true then 20000 else if ztt g kd t y ≤ 1 then 0 else 10000) + zcd (zat g kd lv sd t y) + 1
theorem zlo_rg {g : GT} {kd t y : Nat} : (zlo g kd t y = -1 ∧ zct g kd t y = 0) ∨ ∃ p : Nat, zlo g kd t y = (p : Int) ∧ p < Gn g ∧ zrd g kd t p y ∧ 1 ≤ zct g kd t y := by
  rcases zl_rg (f := zfr g kd t y) (N := Gn g) (Gn g) (Nat.le_refl _) with h | ⟨p, h1, h2, h3, h4⟩
  · exact Or.inl h
  · exact Or.inr ⟨p, h1, h2, zdb_t.mp h3, h4⟩
/-- what the reference needs of a table -/
def RTB (g : GT) (kd : Nat) (J L : Nat → Nat → Int) : Prop := RE g J ∧ rF g J L ∧ (1 ≤ kd → RAT g (kb kd) J ∧ NU g J)
section RC_
variable {u : Nat} {n : Nat} {L : Nat → Nat → Int} {g : GT}
theorem rtb_row {kd : Nat} {J : Nat → Nat → Int} (h : RTB g kd J L) (hk : 1 ≤ kd) (hb : Sb (zS g (kb kd)) = false) :
    J 161 (mS (kb kd)) = (Sn (zS g (kb kd)) : Int) ∧ (∀ t, t < Sn (zS g (kb kd)) → ∀ p k, vI g p k → gi_ok (J (mA (kb kd)) (ar g (146 * t) p k)) ∧ ∀ y, bt (J (mA (kb kd)) (ar g (146 * t) p k)) y = true ↔ zR g (kb kd) t p k y) ∧
    ∀ s x, s < Sn (zS g (kb kd)) → x < 24 → J (mG (kb kd)) (24 * s + x) = Sm (zS g (kb kd)) s x := by
  rcases (h.2.2 hk).1 with ⟨z, -⟩ | ⟨-, c3, c5, c6⟩
  · rw [hb] at z; exact absurd z (by decide)
  · refine ⟨c3, fun t ht p k hv => ?_, c6⟩
    obtain ⟨d1, d2⟩ := c5 t ht
    exact ⟨(d1 p k hv).1, fun y => by rw [← d2]; exact ⟨fun q => ⟨hv, q⟩, fun q => q.2⟩⟩
theorem rF_be {J : Nat → Nat → Int} (h : rF g J L) {a : Nat} (ha : a < 16) : gi_ok (J 177 a) ∧ ∀ y, y < 9 → (bt (J 177 a) y = true ↔ zB g a y) := by
  have e := rF_B h
  refine ⟨h.2.2.1.1 a ha, fun y hy => ?_⟩
  rw [← e]
  exact ⟨fun z => ⟨ha, hy, z⟩, fun z => z.2.2⟩
theorem X12_reduces {kd : Nat} {J : Nat → Nat → Int} (h : RTB g kd J L) (hk : 1 ≤ kd ∧ kd ≤ 3) (hb : Sb (zS g (kb kd)) = false) {t p y : Nat} (ht : t < Sn (zS g (kb kd))) (hp1 : pv g p) (hy : y < 9) :
    f_X12_reduces 161 (kd : Int) (t : Int) (p : Int) (y : Int) (hp u J L) = some (b01 (zdb (zrd g kd t p y))) := by
  have hE := h.1
  have hg := hE.gr
  have h24 := hg.1
  have h80 := (zS_n (b := kb kd) hg).2.1
  obtain ⟨hRA, hNU⟩ := h.2.2 hk.1
  obtain ⟨-, hrow, -⟩ := rtb_row h hk.1 hb
  have hv : vI g p (Gl (gX g) p) := ⟨hp1, Nat.le_refl _⟩
  obtain ⟨r1, r2⟩ := hrow t ht p _ hv
  have hp24 : p ≤ 24 := by rcases hp1 with z | z <;> omega
  have hl5 := gX_l5 hg p
  have hfo := fo_rg hg hv
  have esz := rx_size (u := u) (L := L) hE hp1
  have e8 := hNU.at hp1
  have eix : 146 * (t : Int) + (fo g p : Int) + (Gl (gX g) p : Int) = ((ar g (146 * t) p (Gl (gX g) p) : Nat) : Int) := by unfold ar; omega
  have hlt : ar g (146 * t) p (Gl (gX g) p) < 11680 := by unfold ar; omega
  have er := ra (u := u) (L := L) (A := mA (kb kd)) (len := 11680) (Or.inr ⟨mA_or _, rfl⟩) (J := J) (i := ((ar g (146 * t) p (Gl (gX g) p) : Nat) : Int)) (by omega) (by omega)
  rw [Int.toNat_natCast] at er
  have hmA : mA (kb kd) = if kd = 3 then 185 else 183 := by unfold kb; split <;> rfl
  have hrg : -2147483648 ≤ gi_and (J (mA (kb kd)) (ar g (146 * t) p (Gl (gX g) p))) 512 ∧ gi_and (J (mA (kb kd)) (ar g (146 * t) p (Gl (gX g) p))) 512 ≤ 2147483647 := and512_rg
  have h512 := bt_and512 (x := J (mA (kb kd)) (ar g (146 * t) p (Gl (gX g) p)))
  -- the end of it
  have fin : ∀ s0 : Int, (bt s0 y = true ↔ (if kd = 1 then (if p = 24 then y = 8 else zB g (Go g p) y) else zR g (kb kd) t p (Gl (gX g) p) y)) → b_X12_reduces_76 (y : Int) (J (mA (kb kd)) (ar g (146 * t) p (Gl (gX g) p))) s0 (hp u J L) = some (b01 (zdb (zrd g kd t p y))) := by
    intro s0 hs
    have hh := bt_has (x := s0) (k := y) (by omega)
    by_cases c9 : bt (J (mA (kb kd)) (ar g (146 * t) p (Gl (gX g) p))) 9 = true
    · have n512 : gi_and (J (mA (kb kd)) (ar g (146 * t) p (Gl (gX g) p))) 512 ≠ 0 := fun z => by rw [h512.mp z] at c9; exact absurd c9 (by decide)
      by_cases c : bt s0 y = true
      · rw [if_pos c] at hh
        have hz : zdb (zrd g kd t p y) = true := zdb_t.mpr ⟨(r2 9).mp c9, hs.mp c⟩
        rw [hz]
        simp (disch := omega) only [b_X12_reduces_76, b_X12_reduces_102, Option.bind_some, ↓nm_eq, ↓sm_inl, ↓sm_inr, ↓dzo_0, ↓dzo_1, ↓drg_ok, ↓if_pos, ↓if_neg, if_pos, if_neg, if_true, if_false, Int.toNat_natCast, rg_ok, hh]
        rfl
      · rw [if_neg c] at hh
        have hz : zdb (zrd g kd t p y) = false := zdb_f.mpr (fun z => c (hs.mpr z.2))
        rw [hz]
        simp (disch := omega) only [b_X12_reduces_76, b_X12_reduces_102, Option.bind_some, ↓nm_eq, ↓sm_inl, ↓sm_inr, ↓dzo_0, ↓dzo_1, ↓drg_ok, ↓if_pos, ↓if_neg, if_pos, if_neg, if_true, if_false, Int.toNat_natCast, rg_ok, hh]
        rfl
    · have c9' : bt (J (mA (kb kd)) (ar g (146 * t) p (Gl (gX g) p))) 9 = false := by simpa using c9
      have n512 := h512.mpr c9'
      have hz : zdb (zrd g kd t p y) = false := zdb_f.mpr (fun z => c9 ((r2 9).mpr z.1))
      rw [hz]
      simp (disch := omega) only [b_X12_reduces_76, b_X12_reduces_102, Option.bind_some, ↓nm_eq, ↓sm_inl, ↓sm_inr, ↓dzo_0, ↓dzo_1, ↓drg_ok, ↓if_pos, ↓if_neg, if_pos, if_neg, if_true, if_false, Int.toNat_natCast, rg_ok, n512]
      rfl
  by_cases c3 : kd = 3
  · have f1 := fin (J (mA (kb kd)) (ar g (146 * t) p (Gl (gX g) p))) (by rw [if_neg (by omega)]; exact r2 y)
    rw [hmA, if_pos c3] at er f1
    have e3 : (kd : Int) = 3 := by omega
    rw [← f1]
    simp (disch := omega) only [f_X12_reduces, b_X12_reduces_42, ↓dhi_M, ↓dhG_M_0, ↓dhG_M_1, ↓dhG_M_2, ↓dhG_M_3, ↓dhG_M_4, ↓dhG_M_5, ↓dhG_M_6, ↓dhG_M_7, ↓dhG_M_8, ↓dhg_M_9, ↓dhq_M_9, ↓dhG_M_10, ↓dhG_M_11, ↓dhG_M_12, ↓dhg_M_13, ↓dhq_M_13, ↓dhG_M_14, ↓dhg_M_15, ↓dhq_M_15, ↓dhG_M_16, ↓dhg_M_17, ↓dhq_M_17, ↓dhg_M_18, ↓dhq_M_18, ↓dhG_M_19, ↓dhG_M_20, ↓dhG_M_21, ↓dhG_M_22, ↓dhG_M_23, ↓dhG_M_24, ↓dhg_M_25, ↓dhq_M_25, ↓dhG_M_26, ↓dhG_M_27, ↓dhG_M_28, ↓dhg_M_29, ↓dhq_M_29, ↓dhG_M_30, ↓dhG_M_31, ↓dhg_M_32, ↓dhq_M_32, ↓dhg_M_33, ↓dhq_M_33, ↓dhg_M_34, ↓dhq_M_34, ↓dhg_M_35, ↓dhq_M_35, ↓dhG_M_36, ↓dhG_M_37, ↓dhg_M_38, ↓dhq_M_38, ↓dhg_M_39, ↓dhq_M_39, ↓dhG_M_40, ↓dhG_M_41, ↓dhG_M_42, ↓dhG_M_43, ↓dhg_M_44, ↓dhq_M_44, ↓dha_181, ↓dhs_181, ↓dhl_181, Option.bind_some, ↓nm_eq, ↓sm_inl, ↓sm_inr, ↓dzo_0, ↓dzo_1, ↓drg_ok, ↓if_pos, ↓if_neg, if_pos, if_neg, if_true, if_false, Int.toNat_natCast, rg_ok, ↓bnd esz, e8, e3, eix, ↓bnd er]
  · rw [hmA, if_neg c3] at er fin
    by_cases c1 : kd = 1
    · have e1 : (kd : Int) = 1 := by omega
      by_cases cp : p = 24
      · have f1 := fin 256 (by rw [if_pos c1, if_pos cp, bt_256, decide_eq_true_eq])
        rw [← f1]
        simp (disch := omega) only [f_X12_reduces, b_X12_reduces_42, ↓dhi_M, ↓dhG_M_0, ↓dhG_M_1, ↓dhG_M_2, ↓dhG_M_3, ↓dhG_M_4, ↓dhG_M_5, ↓dhG_M_6, ↓dhG_M_7, ↓dhG_M_8, ↓dhg_M_9, ↓dhq_M_9, ↓dhG_M_10, ↓dhG_M_11, ↓dhG_M_12, ↓dhg_M_13, ↓dhq_M_13, ↓dhG_M_14, ↓dhg_M_15, ↓dhq_M_15, ↓dhG_M_16, ↓dhg_M_17, ↓dhq_M_17, ↓dhg_M_18, ↓dhq_M_18, ↓dhG_M_19, ↓dhG_M_20, ↓dhG_M_21, ↓dhG_M_22, ↓dhG_M_23, ↓dhG_M_24, ↓dhg_M_25, ↓dhq_M_25, ↓dhG_M_26, ↓dhG_M_27, ↓dhG_M_28, ↓dhg_M_29, ↓dhq_M_29, ↓dhG_M_30, ↓dhG_M_31, ↓dhg_M_32, ↓dhq_M_32, ↓dhg_M_33, ↓dhq_M_33, ↓dhg_M_34, ↓dhq_M_34, ↓dhg_M_35, ↓dhq_M_35, ↓dhG_M_36, ↓dhG_M_37, ↓dhg_M_38, ↓dhq_M_38, ↓dhg_M_39, ↓dhq_M_39, ↓dhG_M_40, ↓dhG_M_41, ↓dhG_M_42, ↓dhG_M_43, ↓dhg_M_44, ↓dhq_M_44, ↓dha_181, ↓dhs_181, ↓dhl_181, Option.bind_some, ↓nm_eq, ↓sm_inl, ↓sm_inr, ↓dzo_0, ↓dzo_1, ↓drg_ok, ↓if_pos, ↓if_neg, if_pos, if_neg, if_true, if_false, Int.toNat_natCast, rg_ok, ↓bnd esz, e8, e1, eix, ↓bnd er]
      · have hpn : p < Gn g := hp1.elim id (fun z => absurd z cp)
        have ho := hg.2.2.1 p
        obtain ⟨b1, b2⟩ := rF_be h.2.1 ho
        have f1 := fin (J 177 (Go g p)) (by rw [if_pos c1, if_neg cp]; exact b2 y hy)
        have el := re_lead (u := u) (L := L) hE hpn
        rw [← f1]
        simp (disch := omega) only [f_X12_reduces, b_X12_reduces_42, ↓dhi_M, ↓dhG_M_0, ↓dhG_M_1, ↓dhG_M_2, ↓dhG_M_3, ↓dhG_M_4, ↓dhG_M_5, ↓dhG_M_6, ↓dhG_M_7, ↓dhG_M_8, ↓dhg_M_9, ↓dhq_M_9, ↓dhG_M_10, ↓dhG_M_11, ↓dhG_M_12, ↓dhg_M_13, ↓dhq_M_13, ↓dhG_M_14, ↓dhg_M_15, ↓dhq_M_15, ↓dhG_M_16, ↓dhg_M_17, ↓dhq_M_17, ↓dhg_M_18, ↓dhq_M_18, ↓dhG_M_19, ↓dhG_M_20, ↓dhG_M_21, ↓dhG_M_22, ↓dhG_M_23, ↓dhG_M_24, ↓dhg_M_25, ↓dhq_M_25, ↓dhG_M_26, ↓dhG_M_27, ↓dhG_M_28, ↓dhg_M_29, ↓dhq_M_29, ↓dhG_M_30, ↓dhG_M_31, ↓dhg_M_32, ↓dhq_M_32, ↓dhg_M_33, ↓dhq_M_33, ↓dhg_M_34, ↓dhq_M_34, ↓dhg_M_35, ↓dhq_M_35, ↓dhG_M_36, ↓dhG_M_37, ↓dhg_M_38, ↓dhq_M_38, ↓dhg_M_39, ↓dhq_M_39, ↓dhG_M_40, ↓dhG_M_41, ↓dhG_M_42, ↓dhG_M_43, ↓dhg_M_44, ↓dhq_M_44, ↓dha_181, ↓dhs_181, ↓dhl_181, ↓dha_177, ↓dhs_177, ↓dhl_177, Option.bind_some, ↓nm_eq, ↓sm_inl, ↓sm_inr, ↓dzo_0, ↓dzo_1, ↓drg_ok, ↓if_pos, ↓if_neg, if_pos, if_neg, if_true, if_false, Int.toNat_natCast, rg_ok, ↓bnd esz, ↓bnd el, e8, e1, eix, ↓bnd er]
    · have f1 := fin (J 183 (ar g (146 * t) p (Gl (gX g) p))) (by rw [if_neg c1]; have := r2 y; rw [hmA, if_neg c3] at this; exact this)
      rw [← f1]
      simp (disch := omega) only [f_X12_reduces, b_X12_reduces_42, ↓dhi_M, ↓dhG_M_0, ↓dhG_M_1, ↓dhG_M_2, ↓dhG_M_3, ↓dhG_M_4, ↓dhG_M_5, ↓dhG_M_6, ↓dhG_M_7, ↓dhG_M_8, ↓dhg_M_9, ↓dhq_M_9, ↓dhG_M_10, ↓dhG_M_11, ↓dhG_M_12, ↓dhg_M_13, ↓dhq_M_13, ↓dhG_M_14, ↓dhg_M_15, ↓dhq_M_15, ↓dhG_M_16, ↓dhg_M_17, ↓dhq_M_17, ↓dhg_M_18, ↓dhq_M_18, ↓dhG_M_19, ↓dhG_M_20, ↓dhG_M_21, ↓dhG_M_22, ↓dhG_M_23, ↓dhG_M_24, ↓dhg_M_25, ↓dhq_M_25, ↓dhG_M_26, ↓dhG_M_27, ↓dhG_M_28, ↓dhg_M_29, ↓dhq_M_29, ↓dhG_M_30, ↓dhG_M_31, ↓dhg_M_32, ↓dhq_M_32, ↓dhg_M_33, ↓dhq_M_33, ↓dhg_M_34, ↓dhq_M_34, ↓dhg_M_35, ↓dhq_M_35, ↓dhG_M_36, ↓dhG_M_37, ↓dhg_M_38, ↓dhq_M_38, ↓dhg_M_39, ↓dhq_M_39, ↓dhG_M_40, ↓dhG_M_41, ↓dhG_M_42, ↓dhG_M_43, ↓dhg_M_44, ↓dhq_M_44, ↓dha_181, ↓dhs_181, ↓dhl_181, Option.bind_some, ↓nm_eq, ↓sm_inl, ↓sm_inr, ↓dzo_0, ↓dzo_1, ↓drg_ok, ↓if_pos, ↓if_neg, if_pos, if_neg, if_true, if_false, Int.toNat_natCast, rg_ok, ↓bnd esz, e8, eix, ↓bnd er]
theorem X12_goTo {kd : Nat} {J : Nat → Nat → Int} (h : RTB g kd J L) (hk : 1 ≤ kd ∧ kd ≤ 3) (hb : Sb (zS g (kb kd)) = false) {t x : Nat} (ht : t < Sn (zS g (kb kd))) (hx : x < 24) :
    f_X12_goTo 161 (kd : Int) (t : Int) (x : Int) (hp u J L) = some (Sm (zS g (kb kd)) t x) := by
  have hg := h.1.gr
  have h80 := (zS_n (b := kb kd) hg).2.1
  obtain ⟨-, -, hmv⟩ := rtb_row h hk.1 hb
  rw [← hmv t x ht hx]
  have ei : (24 * (t : Int) + (x : Int)).toNat = 24 * t + x := by omega
  by_cases c3 : kd = 3
  · subst c3
    show _ = some (J 186 _)
    simp (disch := omega) only [f_X12_goTo, ↓dhi_M, ↓dhG_M_0, ↓dhG_M_1, ↓dhG_M_2, ↓dhG_M_3, ↓dhG_M_4, ↓dhG_M_5, ↓dhG_M_6, ↓dhG_M_7, ↓dhG_M_8, ↓dhg_M_9, ↓dhq_M_9, ↓dhG_M_10, ↓dhG_M_11, ↓dhG_M_12, ↓dhg_M_13, ↓dhq_M_13, ↓dhG_M_14, ↓dhg_M_15, ↓dhq_M_15, ↓dhG_M_16, ↓dhg_M_17, ↓dhq_M_17, ↓dhg_M_18, ↓dhq_M_18, ↓dhG_M_19, ↓dhG_M_20, ↓dhG_M_21, ↓dhG_M_22, ↓dhG_M_23, ↓dhG_M_24, ↓dhg_M_25, ↓dhq_M_25, ↓dhG_M_26, ↓dhG_M_27, ↓dhG_M_28, ↓dhg_M_29, ↓dhq_M_29, ↓dhG_M_30, ↓dhG_M_31, ↓dhg_M_32, ↓dhq_M_32, ↓dhg_M_33, ↓dhq_M_33, ↓dhg_M_34, ↓dhq_M_34, ↓dhg_M_35, ↓dhq_M_35, ↓dhG_M_36, ↓dhG_M_37, ↓dhg_M_38, ↓dhq_M_38, ↓dhg_M_39, ↓dhq_M_39, ↓dhG_M_40, ↓dhG_M_41, ↓dhG_M_42, ↓dhG_M_43, ↓dhg_M_44, ↓dhq_M_44, ↓dha_186, ↓dhs_186, ↓dhl_186, Option.bind_some, ↓nm_eq, ↓sm_inl, ↓sm_inr, ↓dzo_0, ↓dzo_1, ↓drg_ok, ↓if_pos, ↓if_neg, if_pos, if_neg, if_true, if_false, Int.toNat_natCast, rg_ok, ei]
  · have : mG (kb kd) = 184 := by unfold kb; rw [if_neg c3]; rfl
    rw [this]
    simp (disch := omega) only [f_X12_goTo, ↓dhi_M, ↓dhG_M_0, ↓dhG_M_1, ↓dhG_M_2, ↓dhG_M_3, ↓dhG_M_4, ↓dhG_M_5, ↓dhG_M_6, ↓dhG_M_7, ↓dhG_M_8, ↓dhg_M_9, ↓dhq_M_9, ↓dhG_M_10, ↓dhG_M_11, ↓dhG_M_12, ↓dhg_M_13, ↓dhq_M_13, ↓dhG_M_14, ↓dhg_M_15, ↓dhq_M_15, ↓dhG_M_16, ↓dhg_M_17, ↓dhq_M_17, ↓dhg_M_18, ↓dhq_M_18, ↓dhG_M_19, ↓dhG_M_20, ↓dhG_M_21, ↓dhG_M_22, ↓dhG_M_23, ↓dhG_M_24, ↓dhg_M_25, ↓dhq_M_25, ↓dhG_M_26, ↓dhG_M_27, ↓dhG_M_28, ↓dhg_M_29, ↓dhq_M_29, ↓dhG_M_30, ↓dhG_M_31, ↓dhg_M_32, ↓dhq_M_32, ↓dhg_M_33, ↓dhq_M_33, ↓dhg_M_34, ↓dhq_M_34, ↓dhg_M_35, ↓dhq_M_35, ↓dhG_M_36, ↓dhG_M_37, ↓dhg_M_38, ↓dhq_M_38, ↓dhg_M_39, ↓dhq_M_39, ↓dhG_M_40, ↓dhG_M_41, ↓dhG_M_42, ↓dhG_M_43, ↓dhg_M_44, ↓dhq_M_44, ↓dha_184, ↓dhs_184, ↓dhl_184, Option.bind_some, ↓nm_eq, ↓sm_inl, ↓sm_inr, ↓dzo_0, ↓dzo_1, ↓drg_ok, ↓if_pos, ↓if_neg, if_pos, if_neg, if_true, if_false, Int.toNat_natCast, rg_ok, ei]
theorem X12_lastTerminal (hn : 1000000000000000000000000000000 ≤ n) {J : Nat → Nat → Int} (w : RE g J) {q : Nat} (hq : q < Gn g) : f_X12_lastTerminal n 161 (q : Int) (hp u J L) = some (zlt g q (Gl g q)) := by
  have hg := w.gr
  have h5 := hg.2.2.2.1 q
  have h24 := hg.1
  have key : zLP (Gl g q) (fun f k (_ : Unit) => l_X12_lastTerminal_4 n f 161 (q : Int) (zlt g q k) (k : Int) (hp u J L)) (fun _ _ => True) (fun res => res = some (zlt g q (Gl g q))) := by
    refine zlp ?_ ?_
    · rintro f k _ hk -
      right
      refine ⟨(), ?_, trivial⟩
      have esz := re_size (u := u) (L := L) w hq
      have es := re_symbol (u := u) (L := L) w hk
      have ek : (k : Int) + 1 = ((k + 1 : Nat) : Int) := by omega
      by_cases c : Gs g q k < 16
      · have hz : zlt g q (k + 1) = (Gs g q k : Int) := by rw [zlt_s, if_pos c]
        simp (disch := omega) only [l_X12_lastTerminal_4, b_X12_lastTerminal_4, b_X12_lastTerminal_34, ↓dhi_M, ↓dhG_M_0, ↓dhG_M_1, ↓dhG_M_2, ↓dhG_M_3, ↓dhG_M_4, ↓dhG_M_5, ↓dhG_M_6, ↓dhG_M_7, ↓dhG_M_8, ↓dhg_M_9, ↓dhq_M_9, ↓dhG_M_10, ↓dhG_M_11, ↓dhG_M_12, ↓dhg_M_13, ↓dhq_M_13, ↓dhG_M_14, ↓dhg_M_15, ↓dhq_M_15, ↓dhG_M_16, ↓dhg_M_17, ↓dhq_M_17, ↓dhg_M_18, ↓dhq_M_18, ↓dhG_M_19, ↓dhG_M_20, ↓dhG_M_21, ↓dhG_M_22, ↓dhG_M_23, ↓dhG_M_24, ↓dhg_M_25, ↓dhq_M_25, ↓dhG_M_26, ↓dhG_M_27, ↓dhG_M_28, ↓dhg_M_29, ↓dhq_M_29, ↓dhG_M_30, ↓dhG_M_31, ↓dhg_M_32, ↓dhq_M_32, ↓dhg_M_33, ↓dhq_M_33, ↓dhg_M_34, ↓dhq_M_34, ↓dhg_M_35, ↓dhq_M_35, ↓dhG_M_36, ↓dhG_M_37, ↓dhg_M_38, ↓dhq_M_38, ↓dhg_M_39, ↓dhq_M_39, ↓dhG_M_40, ↓dhG_M_41, ↓dhG_M_42, ↓dhG_M_43, ↓dhg_M_44, ↓dhq_M_44, Option.bind_some, ↓nm_eq, ↓sm_inl, ↓sm_inr, ↓dzo_0, ↓dzo_1, ↓drg_ok, ↓if_pos, ↓if_neg, if_pos, if_neg, if_true, if_false, Int.toNat_natCast, rg_ok, ↓bnd esz, ↓bnd es, ek, hz]
      · have hz : zlt g q (k + 1) = zlt g q k := by rw [zlt_s, if_neg c]
        have hsr := hg.2.2.2.2.2 q k hk
        simp (disch := omega) only [l_X12_lastTerminal_4, b_X12_lastTerminal_4, b_X12_lastTerminal_34, ↓dhi_M, ↓dhG_M_0, ↓dhG_M_1, ↓dhG_M_2, ↓dhG_M_3, ↓dhG_M_4, ↓dhG_M_5, ↓dhG_M_6, ↓dhG_M_7, ↓dhG_M_8, ↓dhg_M_9, ↓dhq_M_9, ↓dhG_M_10, ↓dhG_M_11, ↓dhG_M_12, ↓dhg_M_13, ↓dhq_M_13, ↓dhG_M_14, ↓dhg_M_15, ↓dhq_M_15, ↓dhG_M_16, ↓dhg_M_17, ↓dhq_M_17, ↓dhg_M_18, ↓dhq_M_18, ↓dhG_M_19, ↓dhG_M_20, ↓dhG_M_21, ↓dhG_M_22, ↓dhG_M_23, ↓dhG_M_24, ↓dhg_M_25, ↓dhq_M_25, ↓dhG_M_26, ↓dhG_M_27, ↓dhG_M_28, ↓dhg_M_29, ↓dhq_M_29, ↓dhG_M_30, ↓dhG_M_31, ↓dhg_M_32, ↓dhq_M_32, ↓dhg_M_33, ↓dhq_M_33, ↓dhg_M_34, ↓dhq_M_34, ↓dhg_M_35, ↓dhq_M_35, ↓dhG_M_36, ↓dhG_M_37, ↓dhg_M_38, ↓dhq_M_38, ↓dhg_M_39, ↓dhq_M_39, ↓dhG_M_40, ↓dhG_M_41, ↓dhG_M_42, ↓dhG_M_43, ↓dhg_M_44, ↓dhq_M_44, Option.bind_some, ↓nm_eq, ↓sm_inl, ↓sm_inr, ↓dzo_0, ↓dzo_1, ↓drg_ok, ↓if_pos, ↓if_neg, if_pos, if_neg, if_true, if_false, Int.toNat_natCast, rg_ok, ↓bnd esz, ↓bnd es, ek, hz]
    · rintro f _ -
      have esz := re_size (u := u) (L := L) w hq
      simp (disch := omega) only [l_X12_lastTerminal_4, b_X12_lastTerminal_4, ↓dhi_M, ↓dhG_M_0, ↓dhG_M_1, ↓dhG_M_2, ↓dhG_M_3, ↓dhG_M_4, ↓dhG_M_5, ↓dhG_M_6, ↓dhG_M_7, ↓dhG_M_8, ↓dhg_M_9, ↓dhq_M_9, ↓dhG_M_10, ↓dhG_M_11, ↓dhG_M_12, ↓dhg_M_13, ↓dhq_M_13, ↓dhG_M_14, ↓dhg_M_15, ↓dhq_M_15, ↓dhG_M_16, ↓dhg_M_17, ↓dhq_M_17, ↓dhg_M_18, ↓dhq_M_18, ↓dhG_M_19, ↓dhG_M_20, ↓dhG_M_21, ↓dhG_M_22, ↓dhG_M_23, ↓dhG_M_24, ↓dhg_M_25, ↓dhq_M_25, ↓dhG_M_26, ↓dhG_M_27, ↓dhG_M_28, ↓dhg_M_29, ↓dhq_M_29, ↓dhG_M_30, ↓dhG_M_31, ↓dhg_M_32, ↓dhq_M_32, ↓dhg_M_33, ↓dhq_M_33, ↓dhg_M_34, ↓dhq_M_34, ↓dhg_M_35, ↓dhq_M_35, ↓dhG_M_36, ↓dhG_M_37, ↓dhg_M_38, ↓dhq_M_38, ↓dhg_M_39, ↓dhq_M_39, ↓dhG_M_40, ↓dhG_M_41, ↓dhG_M_42, ↓dhG_M_43, ↓dhg_M_44, ↓dhq_M_44, Option.bind_some, ↓nm_eq, ↓sm_inl, ↓sm_inr, ↓dzo_0, ↓dzo_1, ↓drg_ok, ↓if_pos, ↓if_neg, if_pos, if_neg, if_true, if_false, Int.toNat_natCast, rg_ok, ↓bnd esz]
  exact key (Gl g q) n 0 () (by omega) (by omega) trivial
/-- the levels, as the reference holds them -/
def RLV (lv sd : Nat → Int) (J : Nat → Nat → Int) : Prop := LVR lv sd ∧ ∀ y, y < 8 → J 171 y = lv y ∧ J 172 y = sd y
theorem X12_levelOf (hn : 1000000000000000000000000000000 ≤ n) {lv sd : Nat → Int} {J : Nat → Nat → Int} (w : RE g J) (hl : RLV lv sd J) {q : Nat} (hq : q < Gn g) : f_X12_levelOf n 161 (q : Int) (hp u J L) = some (zlp2 g lv (q : Int)) := by
  have hg := w.gr
  have h5 := hg.2.2.2.1 q
  have h24 := hg.1
  have key : zLP (Gl g q) (fun f k (_ : Unit) => l_X12_levelOf_4 n f 161 (q : Int) (zlv lv (zlt g q k)) (k : Int) (hp u J L)) (fun _ _ => True) (fun res => res = some (zlv lv (zlt g q (Gl g q)))) := by
    refine zlp ?_ ?_
    · rintro f k _ hk -
      right
      refine ⟨(), ?_, trivial⟩
      have esz := re_size (u := u) (L := L) w hq
      have es := re_symbol (u := u) (L := L) w hk
      have ek : (k : Int) + 1 = ((k + 1 : Nat) : Int) := by omega
      have hsr := hg.2.2.2.2.2 q k hk
      by_cases c : Gs g q k < 16
      · have hz : zlv lv (zlt g q (k + 1)) = J 171 (Gs g q k) := by
          rw [zlt_s, if_pos c]; unfold zlv
          rw [if_neg (by omega), Int.toNat_natCast, (hl.2 _ (by omega)).1]
        simp (disch := omega) only [l_X12_levelOf_4, b_X12_levelOf_4, b_X12_levelOf_39, ↓dhi_M, ↓dhG_M_0, ↓dhG_M_1, ↓dhG_M_2, ↓dhG_M_3, ↓dhG_M_4, ↓dhG_M_5, ↓dhG_M_6, ↓dhG_M_7, ↓dhG_M_8, ↓dhg_M_9, ↓dhq_M_9, ↓dhG_M_10, ↓dhG_M_11, ↓dhG_M_12, ↓dhg_M_13, ↓dhq_M_13, ↓dhG_M_14, ↓dhg_M_15, ↓dhq_M_15, ↓dhG_M_16, ↓dhg_M_17, ↓dhq_M_17, ↓dhg_M_18, ↓dhq_M_18, ↓dhG_M_19, ↓dhG_M_20, ↓dhG_M_21, ↓dhG_M_22, ↓dhG_M_23, ↓dhG_M_24, ↓dhg_M_25, ↓dhq_M_25, ↓dhG_M_26, ↓dhG_M_27, ↓dhG_M_28, ↓dhg_M_29, ↓dhq_M_29, ↓dhG_M_30, ↓dhG_M_31, ↓dhg_M_32, ↓dhq_M_32, ↓dhg_M_33, ↓dhq_M_33, ↓dhg_M_34, ↓dhq_M_34, ↓dhg_M_35, ↓dhq_M_35, ↓dhG_M_36, ↓dhG_M_37, ↓dhg_M_38, ↓dhq_M_38, ↓dhg_M_39, ↓dhq_M_39, ↓dhG_M_40, ↓dhG_M_41, ↓dhG_M_42, ↓dhG_M_43, ↓dhg_M_44, ↓dhq_M_44, ↓dha_171, ↓dhs_171, ↓dhl_171, Option.bind_some, ↓nm_eq, ↓sm_inl, ↓sm_inr, ↓dzo_0, ↓dzo_1, ↓drg_ok, ↓if_pos, ↓if_neg, if_pos, if_neg, if_true, if_false, Int.toNat_natCast, rg_ok, ↓bnd esz, ↓bnd es, ek, hz]
      · have hz : zlv lv (zlt g q (k + 1)) = zlv lv (zlt g q k) := by rw [zlt_s, if_neg c]
        simp (disch := omega) only [l_X12_levelOf_4, b_X12_levelOf_4, b_X12_levelOf_39, ↓dhi_M, ↓dhG_M_0, ↓dhG_M_1, ↓dhG_M_2, ↓dhG_M_3, ↓dhG_M_4, ↓dhG_M_5, ↓dhG_M_6, ↓dhG_M_7, ↓dhG_M_8, ↓dhg_M_9, ↓dhq_M_9, ↓dhG_M_10, ↓dhG_M_11, ↓dhG_M_12, ↓dhg_M_13, ↓dhq_M_13, ↓dhG_M_14, ↓dhg_M_15, ↓dhq_M_15, ↓dhG_M_16, ↓dhg_M_17, ↓dhq_M_17, ↓dhg_M_18, ↓dhq_M_18, ↓dhG_M_19, ↓dhG_M_20, ↓dhG_M_21, ↓dhG_M_22, ↓dhG_M_23, ↓dhG_M_24, ↓dhg_M_25, ↓dhq_M_25, ↓dhG_M_26, ↓dhG_M_27, ↓dhG_M_28, ↓dhg_M_29, ↓dhq_M_29, ↓dhG_M_30, ↓dhG_M_31, ↓dhg_M_32, ↓dhq_M_32, ↓dhg_M_33, ↓dhq_M_33, ↓dhg_M_34, ↓dhq_M_34, ↓dhg_M_35, ↓dhq_M_35, ↓dhG_M_36, ↓dhG_M_37, ↓dhg_M_38, ↓dhq_M_38, ↓dhg_M_39, ↓dhq_M_39, ↓dhG_M_40, ↓dhG_M_41, ↓dhG_M_42, ↓dhG_M_43, ↓dhg_M_44, ↓dhq_M_44, Option.bind_some, ↓nm_eq, ↓sm_inl, ↓sm_inr, ↓dzo_0, ↓dzo_1, ↓drg_ok, ↓if_pos, ↓if_neg, if_pos, if_neg, if_true, if_false, Int.toNat_natCast, rg_ok, ↓bnd esz, ↓bnd es, ek, hz]
    · rintro f _ -
      have esz := re_size (u := u) (L := L) w hq
      simp (disch := omega) only [l_X12_levelOf_4, b_X12_levelOf_4, ↓dhi_M, ↓dhG_M_0, ↓dhG_M_1, ↓dhG_M_2, ↓dhG_M_3, ↓dhG_M_4, ↓dhG_M_5, ↓dhG_M_6, ↓dhG_M_7, ↓dhG_M_8, ↓dhg_M_9, ↓dhq_M_9, ↓dhG_M_10, ↓dhG_M_11, ↓dhG_M_12, ↓dhg_M_13, ↓dhq_M_13, ↓dhG_M_14, ↓dhg_M_15, ↓dhq_M_15, ↓dhG_M_16, ↓dhg_M_17, ↓dhq_M_17, ↓dhg_M_18, ↓dhq_M_18, ↓dhG_M_19, ↓dhG_M_20, ↓dhG_M_21, ↓dhG_M_22, ↓dhG_M_23, ↓dhG_M_24, ↓dhg_M_25, ↓dhq_M_25, ↓dhG_M_26, ↓dhG_M_27, ↓dhG_M_28, ↓dhg_M_29, ↓dhq_M_29, ↓dhG_M_30, ↓dhG_M_31, ↓dhg_M_32, ↓dhq_M_32, ↓dhg_M_33, ↓dhq_M_33, ↓dhg_M_34, ↓dhq_M_34, ↓dhg_M_35, ↓dhq_M_35, ↓dhG_M_36, ↓dhG_M_37, ↓dhg_M_38, ↓dhq_M_38, ↓dhg_M_39, ↓dhq_M_39, ↓dhG_M_40, ↓dhG_M_41, ↓dhG_M_42, ↓dhG_M_43, ↓dhg_M_44, ↓dhq_M_44, Option.bind_some, ↓nm_eq, ↓sm_inl, ↓sm_inr, ↓dzo_0, ↓dzo_1, ↓drg_ok, ↓if_pos, ↓if_neg, if_pos, if_neg, if_true, if_false, Int.toNat_natCast, rg_ok, ↓bnd esz]
  exact key (Gl g q) n 0 () (by omega) (by omega) trivial
theorem zlp2_rg {lv sd : Nat → Int} (hg : GR g) (hl : LVR lv sd) (q : Nat) : 0 ≤ zlp2 g lv (q : Int) ∧ zlp2 g lv (q : Int) ≤ 5 := by
  unfold zlp2 zlv
  have := zlt_rg hg (q := ((q : Int)).toNat) (Gl g ((q : Int)).toNat) (Nat.le_refl _)
  split
  · omega
  · have := (hl (zlt g ((q : Int)).toNat (Gl g ((q : Int)).toNat)).toNat (by omega)).1; omega
theorem X12_cell92 (hn : 1000000000000000000000000000000 ≤ n) {kd : Nat} {J : Nat → Nat → Int} (h : RTB g kd J L) (hk : 1 ≤ kd ∧ kd ≤ 3) (hb : Sb (zS g (kb kd)) = false) {t y : Nat} (ht : t < Sn (zS g (kb kd))) (hy : y < 9) :
    f_X12_cell n 161 (kd : Int) (t : Int) (y : Int) (hp u J L) = b_X12_cell_92 n 161 (kd : Int) (t : Int) (y : Int) (zct g kd t y : Int) (zlo g kd t y) (b01 (zsh g kd t y)) (hp u J L) := by
  have hE := h.1
  have hg := hE.gr
  have h24 := hg.1
  have h9 := re_w hE
  have hnn := re_n hE
  have loop : zLP (Gn g) (fun f m (_ : Unit) => l_X12_cell_19 n f 161 (kd : Int) (t : Int) (y : Int) (cU (zfr g kd t y) (Gn g) m : Int) (zl (zfr g kd t y) (Gn g) m) ((Gn g : Int) - 1 - (m : Int)) (hp u J L)) (fun _ _ => True)
      (fun res => res = b_X12_cell_70 n 161 (kd : Int) (t : Int) (y : Int) (zct g kd t y : Int) (zlo g kd t y) (hp u J L)) := by
    refine zlp ?_ ?_
    · rintro f m _ hm -
      right
      refine ⟨(), ?_, trivial⟩
      have er := X12_reduces (u := u) h hk hb (p := Gn g - 1 - m) ht (Or.inl (by omega)) hy
      have ep : ((Gn g : Int) - 1 - (m : Int)) = ((Gn g - 1 - m : Nat) : Int) := by omega
      have ek : ((Gn g - 1 - m : Nat) : Int) + -1 = (Gn g : Int) - 1 - ((m + 1 : Nat) : Int) := by omega
      have hcle := cU_le (f := zfr g kd t y) (N := Gn g) m
      rw [ep]
      by_cases c : zdb (zrd g kd t (Gn g - 1 - m) y) = true
      · have c' : zfr g kd t y (Gn g - 1 - m) = true := c
        rw [c] at er
        have er' : f_X12_reduces 161 (kd : Int) (t : Int) ((Gn g - 1 - m : Nat) : Int) (y : Int) (hp u J L) = some 1 := er
        have e1 : (cU (zfr g kd t y) (Gn g) m : Int) + 1 = (cU (zfr g kd t y) (Gn g) (m + 1) : Int) := by rw [cU_s, if_pos c']; omega
        have e2 : zl (zfr g kd t y) (Gn g) (m + 1) = ((Gn g - 1 - m : Nat) : Int) := by rw [zl_s, if_pos c']
        simp (disch := omega) only [l_X12_cell_19, b_X12_cell_19, b_X12_cell_47, b_X12_cell_62, ↓dhi_M, ↓dhG_M_0, ↓dhG_M_1, ↓dhG_M_2, ↓dhG_M_3, ↓dhG_M_4, ↓dhG_M_5, ↓dhG_M_6, ↓dhG_M_7, ↓dhG_M_8, ↓dhg_M_9, ↓dhq_M_9, ↓dhG_M_10, ↓dhG_M_11, ↓dhG_M_12, ↓dhg_M_13, ↓dhq_M_13, ↓dhG_M_14, ↓dhg_M_15, ↓dhq_M_15, ↓dhG_M_16, ↓dhg_M_17, ↓dhq_M_17, ↓dhg_M_18, ↓dhq_M_18, ↓dhG_M_19, ↓dhG_M_20, ↓dhG_M_21, ↓dhG_M_22, ↓dhG_M_23, ↓dhG_M_24, ↓dhg_M_25, ↓dhq_M_25, ↓dhG_M_26, ↓dhG_M_27, ↓dhG_M_28, ↓dhg_M_29, ↓dhq_M_29, ↓dhG_M_30, ↓dhG_M_31, ↓dhg_M_32, ↓dhq_M_32, ↓dhg_M_33, ↓dhq_M_33, ↓dhg_M_34, ↓dhq_M_34, ↓dhg_M_35, ↓dhq_M_35, ↓dhG_M_36, ↓dhG_M_37, ↓dhg_M_38, ↓dhq_M_38, ↓dhg_M_39, ↓dhq_M_39, ↓dhG_M_40, ↓dhG_M_41, ↓dhG_M_42, ↓dhG_M_43, ↓dhg_M_44, ↓dhq_M_44, Option.bind_some, ↓nm_eq, ↓sm_inl, ↓sm_inr, ↓dzo_0, ↓dzo_1, ↓drg_ok, ↓if_pos, ↓if_neg, if_pos, if_neg, if_true, if_false, Int.toNat_natCast, rg_ok, ↓bnd er', ek, e1, e2]
      · have c' : ¬ zfr g kd t y (Gn g - 1 - m) = true := c
        have c2 : zdb (zrd g kd t (Gn g - 1 - m) y) = false := by simpa using c
        rw [c2] at er
        have er' : f_X12_reduces 161 (kd : Int) (t : Int) ((Gn g - 1 - m : Nat) : Int) (y : Int) (hp u J L) = some 0 := er
        have e1 : (cU (zfr g kd t y) (Gn g) m : Int) + 0 = (cU (zfr g kd t y) (Gn g) (m + 1) : Int) := by rw [cU_s, if_neg c']; omega
        have e2 : zl (zfr g kd t y) (Gn g) (m + 1) = zl (zfr g kd t y) (Gn g) m := by rw [zl_s, if_neg c']
        simp (disch := omega) only [l_X12_cell_19, b_X12_cell_19, b_X12_cell_47, b_X12_cell_62, ↓dhi_M, ↓dhG_M_0, ↓dhG_M_1, ↓dhG_M_2, ↓dhG_M_3, ↓dhG_M_4, ↓dhG_M_5, ↓dhG_M_6, ↓dhG_M_7, ↓dhG_M_8, ↓dhg_M_9, ↓dhq_M_9, ↓dhG_M_10, ↓dhG_M_11, ↓dhG_M_12, ↓dhg_M_13, ↓dhq_M_13, ↓dhG_M_14, ↓dhg_M_15, ↓dhq_M_15, ↓dhG_M_16, ↓dhg_M_17, ↓dhq_M_17, ↓dhg_M_18, ↓dhq_M_18, ↓dhG_M_19, ↓dhG_M_20, ↓dhG_M_21, ↓dhG_M_22, ↓dhG_M_23, ↓dhG_M_24, ↓dhg_M_25, ↓dhq_M_25, ↓dhG_M_26, ↓dhG_M_27, ↓dhG_M_28, ↓dhg_M_29, ↓dhq_M_29, ↓dhG_M_30, ↓dhG_M_31, ↓dhg_M_32, ↓dhq_M_32, ↓dhg_M_33, ↓dhq_M_33, ↓dhg_M_34, ↓dhq_M_34, ↓dhg_M_35, ↓dhq_M_35, ↓dhG_M_36, ↓dhG_M_37, ↓dhg_M_38, ↓dhq_M_38, ↓dhg_M_39, ↓dhq_M_39, ↓dhG_M_40, ↓dhG_M_41, ↓dhG_M_42, ↓dhG_M_43, ↓dhg_M_44, ↓dhq_M_44, Option.bind_some, ↓nm_eq, ↓sm_inl, ↓sm_inr, ↓dzo_0, ↓dzo_1, ↓drg_ok, ↓if_pos, ↓if_neg, if_pos, if_neg, if_true, if_false, Int.toNat_natCast, rg_ok, ↓bnd er', ek, e1, e2]
    · rintro f _ -
      have ep : ((Gn g : Int) - 1 - (Gn g : Int)) = -1 := by omega
      rw [ep]
      simp (disch := omega) only [l_X12_cell_19, b_X12_cell_19, Option.bind_some, ↓nm_eq, ↓sm_inl, ↓sm_inr, ↓dzo_0, ↓dzo_1, ↓drg_ok, ↓if_pos, ↓if_neg, if_pos, if_neg, if_true, if_false, Int.toNat_natCast, rg_ok]
      rfl
  have e0 := loop (Gn g) n 0 () (by omega) (by omega) trivial
  have ez : (Gn g : Int) - 1 - ((0 : Nat) : Int) = (Gn g : Int) - 1 := by omega
  dsimp only at e0
  rw [ez] at e0
  have e0' : l_X12_cell_19 n n 161 (kd : Int) (t : Int) (y : Int) 0 (-1) ((Gn g : Int) - 1) (hp u J L) = b_X12_cell_70 n 161 (kd : Int) (t : Int) (y : Int) (zct g kd t y : Int) (zlo g kd t y) (hp u J L) := e0
  have e1 : f_X12_cell n 161 (kd : Int) (t : Int) (y : Int) (hp u J L) = b_X12_cell_70 n 161 (kd : Int) (t : Int) (y : Int) (zct g kd t y : Int) (zlo g kd t y) (hp u J L) := by
    rw [← e0']
    simp (disch := omega) only [f_X12_cell, ↓dhi_M, ↓dhG_M_0, ↓dhG_M_1, ↓dhG_M_2, ↓dhG_M_3, ↓dhG_M_4, ↓dhG_M_5, ↓dhG_M_6, ↓dhG_M_7, ↓dhG_M_8, ↓dhg_M_9, ↓dhq_M_9, ↓dhG_M_10, ↓dhG_M_11, ↓dhG_M_12, ↓dhg_M_13, ↓dhq_M_13, ↓dhG_M_14, ↓dhg_M_15, ↓dhq_M_15, ↓dhG_M_16, ↓dhg_M_17, ↓dhq_M_17, ↓dhg_M_18, ↓dhq_M_18, ↓dhG_M_19, ↓dhG_M_20, ↓dhG_M_21, ↓dhG_M_22, ↓dhG_M_23, ↓dhG_M_24, ↓dhg_M_25, ↓dhq_M_25, ↓dhG_M_26, ↓dhG_M_27, ↓dhG_M_28, ↓dhg_M_29, ↓dhq_M_29, ↓dhG_M_30, ↓dhG_M_31, ↓dhg_M_32, ↓dhq_M_32, ↓dhg_M_33, ↓dhq_M_33, ↓dhg_M_34, ↓dhq_M_34, ↓dhg_M_35, ↓dhq_M_35, ↓dhG_M_36, ↓dhG_M_37, ↓dhg_M_38, ↓dhq_M_38, ↓dhg_M_39, ↓dhq_M_39, ↓dhG_M_40, ↓dhG_M_41, ↓dhG_M_42, ↓dhG_M_43, ↓dhg_M_44, ↓dhq_M_44, ↓dha_165, ↓dhs_165, ↓dhl_165, Option.bind_some, ↓nm_eq, ↓sm_inl, ↓sm_inr, ↓dzo_0, ↓dzo_1, ↓drg_ok, ↓if_pos, ↓if_neg, if_pos, if_neg, if_true, if_false, Int.toNat_natCast, rg_ok, h9.1, hnn]
  -- the step
  have hcle := cU_le (f := zfr g kd t y) (N := Gn g) (Gn g)
  have hct : zct g kd t y ≤ 24 := by unfold zct; omega
  have e70 : b_X12_cell_70 n 161 (kd : Int) (t : Int) (y : Int) (zct g kd t y : Int) (zlo g kd t y) (hp u J L) = b_X12_cell_92 n 161 (kd : Int) (t : Int) (y : Int) (zct g kd t y : Int) (zlo g kd t y) (b01 (zsh g kd t y)) (hp u J L) := by
    by_cases c8 : y < 8
    · have eg := X12_goTo (u := u) h hk hb (x := y) ht (by omega)
      rcases zS_go hg hb ht (x := y) (by omega) with ⟨w, -⟩ | ⟨t0, w, w2, -⟩
      · have hz : zsh g kd t y = false := zdb_f.mpr (fun z => z.2 w)
        rw [w] at eg
        rw [hz]
        show _ = b_X12_cell_92 n 161 (kd : Int) (t : Int) (y : Int) (zct g kd t y : Int) (zlo g kd t y) 0 (hp u J L)
        simp (disch := omega) only [b_X12_cell_70, b_X12_cell_91, ↓dhi_M, ↓dhG_M_0, ↓dhG_M_1, ↓dhG_M_2, ↓dhG_M_3, ↓dhG_M_4, ↓dhG_M_5, ↓dhG_M_6, ↓dhG_M_7, ↓dhG_M_8, ↓dhg_M_9, ↓dhq_M_9, ↓dhG_M_10, ↓dhG_M_11, ↓dhG_M_12, ↓dhg_M_13, ↓dhq_M_13, ↓dhG_M_14, ↓dhg_M_15, ↓dhq_M_15, ↓dhG_M_16, ↓dhg_M_17, ↓dhq_M_17, ↓dhg_M_18, ↓dhq_M_18, ↓dhG_M_19, ↓dhG_M_20, ↓dhG_M_21, ↓dhG_M_22, ↓dhG_M_23, ↓dhG_M_24, ↓dhg_M_25, ↓dhq_M_25, ↓dhG_M_26, ↓dhG_M_27, ↓dhG_M_28, ↓dhg_M_29, ↓dhq_M_29, ↓dhG_M_30, ↓dhG_M_31, ↓dhg_M_32, ↓dhq_M_32, ↓dhg_M_33, ↓dhq_M_33, ↓dhg_M_34, ↓dhq_M_34, ↓dhg_M_35, ↓dhq_M_35, ↓dhG_M_36, ↓dhG_M_37, ↓dhg_M_38, ↓dhq_M_38, ↓dhg_M_39, ↓dhq_M_39, ↓dhG_M_40, ↓dhG_M_41, ↓dhG_M_42, ↓dhG_M_43, ↓dhg_M_44, ↓dhq_M_44, Option.bind_some, ↓nm_eq, ↓sm_inl, ↓sm_inr, ↓dzo_0, ↓dzo_1, ↓drg_ok, ↓if_pos, ↓if_neg, if_pos, if_neg, if_true, if_false, Int.toNat_natCast, rg_ok, ↓bnd eg]
      · have hz : zsh g kd t y = true := zdb_t.mpr ⟨c8, by rw [w]; omega⟩
        rw [w] at eg
        have h80 := (zS_n (b := kb kd) hg).2.1
        rw [hz]
        show _ = b_X12_cell_92 n 161 (kd : Int) (t : Int) (y : Int) (zct g kd t y : Int) (zlo g kd t y) 1 (hp u J L)
        simp (disch := omega) only [b_X12_cell_70, b_X12_cell_91, ↓dhi_M, ↓dhG_M_0, ↓dhG_M_1, ↓dhG_M_2, ↓dhG_M_3, ↓dhG_M_4, ↓dhG_M_5, ↓dhG_M_6, ↓dhG_M_7, ↓dhG_M_8, ↓dhg_M_9, ↓dhq_M_9, ↓dhG_M_10, ↓dhG_M_11, ↓dhG_M_12, ↓dhg_M_13, ↓dhq_M_13, ↓dhG_M_14, ↓dhg_M_15, ↓dhq_M_15, ↓dhG_M_16, ↓dhg_M_17, ↓dhq_M_17, ↓dhg_M_18, ↓dhq_M_18, ↓dhG_M_19, ↓dhG_M_20, ↓dhG_M_21, ↓dhG_M_22, ↓dhG_M_23, ↓dhG_M_24, ↓dhg_M_25, ↓dhq_M_25, ↓dhG_M_26, ↓dhG_M_27, ↓dhG_M_28, ↓dhg_M_29, ↓dhq_M_29, ↓dhG_M_30, ↓dhG_M_31, ↓dhg_M_32, ↓dhq_M_32, ↓dhg_M_33, ↓dhq_M_33, ↓dhg_M_34, ↓dhq_M_34, ↓dhg_M_35, ↓dhq_M_35, ↓dhG_M_36, ↓dhG_M_37, ↓dhg_M_38, ↓dhq_M_38, ↓dhg_M_39, ↓dhq_M_39, ↓dhG_M_40, ↓dhG_M_41, ↓dhG_M_42, ↓dhG_M_43, ↓dhg_M_44, ↓dhq_M_44, Option.bind_some, ↓nm_eq, ↓sm_inl, ↓sm_inr, ↓dzo_0, ↓dzo_1, ↓drg_ok, ↓if_pos, ↓if_neg, if_pos, if_neg, if_true, if_false, Int.toNat_natCast, rg_ok, ↓bnd eg]
    · have hz : zsh g kd t y = false := zdb_f.mpr (fun z => c8 z.1)
      rw [hz]
      show _ = b_X12_cell_92 n 161 (kd : Int) (t : Int) (y : Int) (zct g kd t y : Int) (zlo g kd t y) 0 (hp u J L)
      simp (disch := omega) only [b_X12_cell_70, b_X12_cell_91, ↓dhi_M, ↓dhG_M_0, ↓dhG_M_1, ↓dhG_M_2, ↓dhG_M_3, ↓dhG_M_4, ↓dhG_M_5, ↓dhG_M_6, ↓dhG_M_7, ↓dhG_M_8, ↓dhg_M_9, ↓dhq_M_9, ↓dhG_M_10, ↓dhG_M_11, ↓dhG_M_12, ↓dhg_M_13, ↓dhq_M_13, ↓dhG_M_14, ↓dhg_M_15, ↓dhq_M_15, ↓dhG_M_16, ↓dhg_M_17, ↓dhq_M_17, ↓dhg_M_18, ↓dhq_M_18, ↓dhG_M_19, ↓dhG_M_20, ↓dhG_M_21, ↓dhG_M_22, ↓dhG_M_23, ↓dhG_M_24, ↓dhg_M_25, ↓dhq_M_25, ↓dhG_M_26, ↓dhG_M_27, ↓dhG_M_28, ↓dhg_M_29, ↓dhq_M_29, ↓dhG_M_30, ↓dhG_M_31, ↓dhg_M_32, ↓dhq_M_32, ↓dhg_M_33, ↓dhq_M_33, ↓dhg_M_34, ↓dhq_M_34, ↓dhg_M_35, ↓dhq_M_35, ↓dhG_M_36, ↓dhG_M_37, ↓dhg_M_38, ↓dhq_M_38, ↓dhg_M_39, ↓dhq_M_39, ↓dhG_M_40, ↓dhG_M_41, ↓dhG_M_42, ↓dhG_M_43, ↓dhg_M_44, ↓dhq_M_44, Option.bind_some, ↓nm_eq, ↓sm_inl, ↓sm_inr, ↓dzo_0, ↓dzo_1, ↓drg_ok, ↓if_pos, ↓if_neg, if_pos, if_neg, if_true, if_false, Int.toNat_natCast, rg_ok]
  rw [e1, e70]
theorem c92_11 {J : Nat → Nat → Int} {k t y ct lo : Int} (er : f_X12_reduces 161 k t 24 y (hp u J L) = some 1) (h : 0 ≤ ct ∧ ct ≤ 24) : b_X12_cell_92 n 161 k t y ct lo 1 (hp u J L) = b_X12_cell_155 n 161 y ct lo 1 (ct + 1 + 1) 1000 (hp u J L) := by
  simp (disch := omega) only [b_X12_cell_92, b_X12_cell_117, b_X12_cell_128, ↓dhi_M, ↓dhG_M_0, ↓dhG_M_1, ↓dhG_M_2, ↓dhG_M_3, ↓dhG_M_4, ↓dhG_M_5, ↓dhG_M_6, ↓dhG_M_7, ↓dhG_M_8, ↓dhg_M_9, ↓dhq_M_9, ↓dhG_M_10, ↓dhG_M_11, ↓dhG_M_12, ↓dhg_M_13, ↓dhq_M_13, ↓dhG_M_14, ↓dhg_M_15, ↓dhq_M_15, ↓dhG_M_16, ↓dhg_M_17, ↓dhq_M_17, ↓dhg_M_18, ↓dhq_M_18, ↓dhG_M_19, ↓dhG_M_20, ↓dhG_M_21, ↓dhG_M_22, ↓dhG_M_23, ↓dhG_M_24, ↓dhg_M_25, ↓dhq_M_25, ↓dhG_M_26, ↓dhG_M_27, ↓dhG_M_28, ↓dhg_M_29, ↓dhq_M_29, ↓dhG_M_30, ↓dhG_M_31, ↓dhg_M_32, ↓dhq_M_32, ↓dhg_M_33, ↓dhq_M_33, ↓dhg_M_34, ↓dhq_M_34, ↓dhg_M_35, ↓dhq_M_35, ↓dhG_M_36, ↓dhG_M_37, ↓dhg_M_38, ↓dhq_M_38, ↓dhg_M_39, ↓dhq_M_39, ↓dhG_M_40, ↓dhG_M_41, ↓dhG_M_42, ↓dhG_M_43, ↓dhg_M_44, ↓dhq_M_44, Option.bind_some, ↓nm_eq, ↓sm_inl, ↓sm_inr, ↓dzo_0, ↓dzo_1, ↓drg_ok, ↓if_pos, ↓if_neg, if_pos, if_neg, if_true, if_false, Int.toNat_natCast, rg_ok, ↓bnd er]
theorem c92_01 {J : Nat → Nat → Int} {k t y ct lo : Int} (er : f_X12_reduces 161 k t 24 y (hp u J L) = some 1) (h : 0 ≤ ct ∧ ct ≤ 24) : b_X12_cell_92 n 161 k t y ct lo 0 (hp u J L) = b_X12_cell_155 n 161 y ct lo 0 (ct + 0 + 1) 1000 (hp u J L) := by
  simp (disch := omega) only [b_X12_cell_92, b_X12_cell_117, b_X12_cell_128, ↓dhi_M, ↓dhG_M_0, ↓dhG_M_1, ↓dhG_M_2, ↓dhG_M_3, ↓dhG_M_4, ↓dhG_M_5, ↓dhG_M_6, ↓dhG_M_7, ↓dhG_M_8, ↓dhg_M_9, ↓dhq_M_9, ↓dhG_M_10, ↓dhG_M_11, ↓dhG_M_12, ↓dhg_M_13, ↓dhq_M_13, ↓dhG_M_14, ↓dhg_M_15, ↓dhq_M_15, ↓dhG_M_16, ↓dhg_M_17, ↓dhq_M_17, ↓dhg_M_18, ↓dhq_M_18, ↓dhG_M_19, ↓dhG_M_20, ↓dhG_M_21, ↓dhG_M_22, ↓dhG_M_23, ↓dhG_M_24, ↓dhg_M_25, ↓dhq_M_25, ↓dhG_M_26, ↓dhG_M_27, ↓dhG_M_28, ↓dhg_M_29, ↓dhq_M_29, ↓dhG_M_30, ↓dhG_M_31, ↓dhg_M_32, ↓dhq_M_32, ↓dhg_M_33, ↓dhq_M_33, ↓dhg_M_34, ↓dhq_M_34, ↓dhg_M_35, ↓dhq_M_35, ↓dhG_M_36, ↓dhG_M_37, ↓dhg_M_38, ↓dhq_M_38, ↓dhg_M_39, ↓dhq_M_39, ↓dhG_M_40, ↓dhG_M_41, ↓dhG_M_42, ↓dhG_M_43, ↓dhg_M_44, ↓dhq_M_44, Option.bind_some, ↓nm_eq, ↓sm_inl, ↓sm_inr, ↓dzo_0, ↓dzo_1, ↓drg_ok, ↓if_pos, ↓if_neg, if_pos, if_neg, if_true, if_false, Int.toNat_natCast, rg_ok, ↓bnd er]
theorem c92_10 {J : Nat → Nat → Int} {k t y ct lo : Int} (er : f_X12_reduces 161 k t 24 y (hp u J L) = some 0) (h : 0 ≤ ct ∧ ct ≤ 24) : b_X12_cell_92 n 161 k t y ct lo 1 (hp u J L) = b_X12_cell_155 n 161 y ct lo 1 (ct + 1 + 0) 2000 (hp u J L) := by
  simp (disch := omega) only [b_X12_cell_92, b_X12_cell_117, b_X12_cell_128, ↓dhi_M, ↓dhG_M_0, ↓dhG_M_1, ↓dhG_M_2, ↓dhG_M_3, ↓dhG_M_4, ↓dhG_M_5, ↓dhG_M_6, ↓dhG_M_7, ↓dhG_M_8, ↓dhg_M_9, ↓dhq_M_9, ↓dhG_M_10, ↓dhG_M_11, ↓dhG_M_12, ↓dhg_M_13, ↓dhq_M_13, ↓dhG_M_14, ↓dhg_M_15, ↓dhq_M_15, ↓dhG_M_16, ↓dhg_M_17, ↓dhq_M_17, ↓dhg_M_18, ↓dhq_M_18, ↓dhG_M_19, ↓dhG_M_20, ↓dhG_M_21, ↓dhG_M_22, ↓dhG_M_23, ↓dhG_M_24, ↓dhg_M_25, ↓dhq_M_25, ↓dhG_M_26, ↓dhG_M_27, ↓dhG_M_28, ↓dhg_M_29, ↓dhq_M_29, ↓dhG_M_30, ↓dhG_M_31, ↓dhg_M_32, ↓dhq_M_32, ↓dhg_M_33, ↓dhq_M_33, ↓dhg_M_34, ↓dhq_M_34, ↓dhg_M_35, ↓dhq_M_35, ↓dhG_M_36, ↓dhG_M_37, ↓dhg_M_38, ↓dhq_M_38, ↓dhg_M_39, ↓dhq_M_39, ↓dhG_M_40, ↓dhG_M_41, ↓dhG_M_42, ↓dhG_M_43, ↓dhg_M_44, ↓dhq_M_44, Option.bind_some, ↓nm_eq, ↓sm_inl, ↓sm_inr, ↓dzo_0, ↓dzo_1, ↓drg_ok, ↓if_pos, ↓if_neg, if_pos, if_neg, if_true, if_false, Int.toNat_natCast, rg_ok, ↓bnd er]
theorem c92_00 {J : Nat → Nat → Int} {k t y ct lo : Int} (er : f_X12_reduces 161 k t 24 y (hp u J L) = some 0) (h : 0 ≤ ct ∧ ct ≤ 24) : b_X12_cell_92 n 161 k t y ct lo 0 (hp u J L) = b_X12_cell_155 n 161 y ct lo 0 (ct + 0 + 0) lo (hp u J L) := by
  simp (disch := omega) only [b_X12_cell_92, b_X12_cell_117, b_X12_cell_128, ↓dhi_M, ↓dhG_M_0, ↓dhG_M_1, ↓dhG_M_2, ↓dhG_M_3, ↓dhG_M_4, ↓dhG_M_5, ↓dhG_M_6, ↓dhG_M_7, ↓dhG_M_8, ↓dhg_M_9, ↓dhq_M_9, ↓dhG_M_10, ↓dhG_M_11, ↓dhG_M_12, ↓dhg_M_13, ↓dhq_M_13, ↓dhG_M_14, ↓dhg_M_15, ↓dhq_M_15, ↓dhG_M_16, ↓dhg_M_17, ↓dhq_M_17, ↓dhg_M_18, ↓dhq_M_18, ↓dhG_M_19, ↓dhG_M_20, ↓dhG_M_21, ↓dhG_M_22, ↓dhG_M_23, ↓dhG_M_24, ↓dhg_M_25, ↓dhq_M_25, ↓dhG_M_26, ↓dhG_M_27, ↓dhG_M_28, ↓dhg_M_29, ↓dhq_M_29, ↓dhG_M_30, ↓dhG_M_31, ↓dhg_M_32, ↓dhq_M_32, ↓dhg_M_33, ↓dhq_M_33, ↓dhg_M_34, ↓dhq_M_34, ↓dhg_M_35, ↓dhq_M_35, ↓dhG_M_36, ↓dhG_M_37, ↓dhg_M_38, ↓dhq_M_38, ↓dhg_M_39, ↓dhq_M_39, ↓dhG_M_40, ↓dhG_M_41, ↓dhG_M_42, ↓dhG_M_43, ↓dhg_M_44, ↓dhq_M_44, Option.bind_some, ↓nm_eq, ↓sm_inl, ↓sm_inr, ↓dzo_0, ↓dzo_1, ↓drg_ok, ↓if_pos, ↓if_neg, if_pos, if_neg, if_true, if_false, Int.toNat_natCast, rg_ok, ↓bnd er]
theorem X12_cell155 {kd : Nat} {J : Nat → Nat → Int} (h : RTB g kd J L) (hk : 1 ≤ kd ∧ kd ≤ 3) (hb : Sb (zS g (kb kd)) = false) {t y : Nat} (ht : t < Sn (zS g (kb kd))) (hy : y < 9) :
    b_X12_cell_92 n 161 (kd : Int) (t : Int) (y : Int) (zct g kd t y : Int) (zlo g kd t y) (b01 (zsh g kd t y)) (hp u J L) = b_X12_cell_155 n 161 (y : Int) (zct g kd t y : Int) (zlo g kd t y) (b01 (zsh g kd t y)) ((zct g kd t y : Int) + b01 (zsh g kd t y) + b01 (zac g kd t y)) (if zac g kd t y = true then 1000 else if zsh g kd t y = true then 2000 else zlo g kd t y) (hp u J L) := by
  have hE := h.1
  have hg := hE.gr
  have h24 := hg.1
  have hcle := cU_le (f := zfr g kd t y) (N := Gn g) (Gn g)
  have hct : zct g kd t y ≤ 24 := by unfold zct; omega
  have er24 := X12_reduces (u := u) h hk hb (p := 24) (y := y) ht (Or.inr rfl) hy
  have hac : zdb (zrd g kd t 24 y) = zac g kd t y := by
    have := zrd_24 hg hb ht hy (y := y) (kd := kd)
    unfold zac
    cases c : zdb (zrd g kd t 24 y) with
    | true => exact (zdb_t.mpr (this.mp (zdb_t.mp c))).symm
    | false => exact (zdb_f.mpr (fun z => zdb_f.mp c (this.mpr z))).symm
  rw [hac] at er24
  have er24' : f_X12_reduces 161 (kd : Int) (t : Int) 24 (y : Int) (hp u J L) = some (b01 (zac g kd t y)) := er24
  cases hac' : zac g kd t y with
  | true =>
    rw [hac', b01_t] at er24'
    rw [if_pos rfl, b01_t]
    cases hsh : zsh g kd t y with
    | true => rw [b01_t]; exact c92_11 er24' (by omega)
    | false => rw [b01_f]; exact c92_01 er24' (by omega)
  | false =>
    rw [hac', b01_f] at er24'
    rw [if_neg (by decide), b01_f]
    cases hsh : zsh g kd t y with
    | true => rw [b01_t, if_pos rfl]; exact c92_10 er24' (by omega)
    | false => rw [b01_f, if_neg (by decide)]; exact c92_00 er24' (by omega)
theorem X12_cell (hn : 1000000000000000000000000000000 ≤ n) {kd : Nat} {lv sd : Nat → Int} {J : Nat → Nat → Int} (h : RTB g kd J L) (hl : RLV lv sd J) (hk : 1 ≤ kd ∧ kd ≤ 3) (hb : Sb (zS g (kb kd)) = false) {t y : Nat} (ht : t < Sn (zS g (kb kd))) (hy : y < 9) :
    f_X12_cell n 161 (kd : Int) (t : Int) (y : Int) (hp u J L) = some (zce g kd lv sd t y) := by
  have hE := h.1
  have hg := hE.gr
  have h24 := hg.1
  have hcle := cU_le (f := zfr g kd t y) (N := Gn g) (Gn g)
  have hct : zct g kd t y ≤ 24 := by unfold zct; omega
  rw [X12_cell92 (u := u) hn h hk hb ht hy, X12_cell155 (u := u) h hk hb ht hy]
  have hy8 : zsh g kd t y = true → y < 8 := fun z => (zdb_t.mp z).1
  -- all cases
  have hlo := zlo_rg (g := g) (kd := kd) (t := t) (y := y)
  generalize hsh : zsh g kd t y = sh at *
  generalize hac' : zac g kd t y = ac at *
  obtain ⟨ct, hcte⟩ : ∃ ct, ct = zct g kd t y := ⟨_, rfl⟩
  obtain ⟨lo, hloe⟩ : ∃ lo, lo = zlo g kd t y := ⟨_, rfl⟩
  rw [← hcte, ← hloe]
  have hA : ∃ A : Int, A = (if ac = true then 1000 else if sh = true then 2000 else lo) := ⟨_, rfl⟩
  obtain ⟨A, hAe⟩ := hA
  have hlor : -1 ≤ lo ∧ lo < 24 := by rw [hloe]; rcases hlo with ⟨z, -⟩ | ⟨p, z, z2, -⟩ <;> omega
  have hsr := b01_rg sh
  have har := b01_rg ac
  rw [← hAe]
  -- not settled
  have hzA : zst g kd lv t y = false → zcd (zat g kd lv sd t y) = A := fun z => by
    unfold zat
    rw [z, if_neg (by decide), hsh, hac', hAe, ← hloe]
    by_cases ca : ac = true
    · rw [if_pos ca, if_pos ca, zcd_25]
    · rw [if_neg ca, if_neg ca]
      by_cases cs : sh = true
      · rw [if_pos cs, if_pos cs, zcd_24]
      · rw [if_neg cs, if_neg cs]
        unfold zcd; rw [if_neg (by omega), if_neg (by omega)]
  have e206 : b_X12_cell_206 n 161 (y : Int) lo ((ct : Int) + b01 sh + b01 ac) A (hp u J L) = some ((if (ct : Int) + b01 sh + b01 ac ≤ 1 then 0 else 10000) + A + 1) := by
    have hAr : -1 ≤ A ∧ A ≤ 2000 := by rw [hAe]; split; omega; split <;> omega
    have hc24 : ct ≤ 24 := by omega
    by_cases c : (ct : Int) + b01 sh + b01 ac ≤ 1
    · rw [if_pos c]
      simp (disch := omega) only [b_X12_cell_206, b_X12_cell_207, b_X12_cell_227, ↓dhi_M, ↓dhG_M_0, ↓dhG_M_1, ↓dhG_M_2, ↓dhG_M_3, ↓dhG_M_4, ↓dhG_M_5, ↓dhG_M_6, ↓dhG_M_7, ↓dhG_M_8, ↓dhg_M_9, ↓dhq_M_9, ↓dhG_M_10, ↓dhG_M_11, ↓dhG_M_12, ↓dhg_M_13, ↓dhq_M_13, ↓dhG_M_14, ↓dhg_M_15, ↓dhq_M_15, ↓dhG_M_16, ↓dhg_M_17, ↓dhq_M_17, ↓dhg_M_18, ↓dhq_M_18, ↓dhG_M_19, ↓dhG_M_20, ↓dhG_M_21, ↓dhG_M_22, ↓dhG_M_23, ↓dhG_M_24, ↓dhg_M_25, ↓dhq_M_25, ↓dhG_M_26, ↓dhG_M_27, ↓dhG_M_28, ↓dhg_M_29, ↓dhq_M_29, ↓dhG_M_30, ↓dhG_M_31, ↓dhg_M_32, ↓dhq_M_32, ↓dhg_M_33, ↓dhq_M_33, ↓dhg_M_34, ↓dhq_M_34, ↓dhg_M_35, ↓dhq_M_35, ↓dhG_M_36, ↓dhG_M_37, ↓dhg_M_38, ↓dhq_M_38, ↓dhg_M_39, ↓dhq_M_39, ↓dhG_M_40, ↓dhG_M_41, ↓dhG_M_42, ↓dhG_M_43, ↓dhg_M_44, ↓dhq_M_44, Option.bind_some, ↓nm_eq, ↓sm_inl, ↓sm_inr, ↓dzo_0, ↓dzo_1, ↓drg_ok, ↓if_pos, ↓if_neg, if_pos, if_neg, if_true, if_false, Int.toNat_natCast, rg_ok]
    · rw [if_neg c]
      simp (disch := omega) only [b_X12_cell_206, b_X12_cell_207, b_X12_cell_227, ↓dhi_M, ↓dhG_M_0, ↓dhG_M_1, ↓dhG_M_2, ↓dhG_M_3, ↓dhG_M_4, ↓dhG_M_5, ↓dhG_M_6, ↓dhG_M_7, ↓dhG_M_8, ↓dhg_M_9, ↓dhq_M_9, ↓dhG_M_10, ↓dhG_M_11, ↓dhG_M_12, ↓dhg_M_13, ↓dhq_M_13, ↓dhG_M_14, ↓dhg_M_15, ↓dhq_M_15, ↓dhG_M_16, ↓dhg_M_17, ↓dhq_M_17, ↓dhg_M_18, ↓dhq_M_18, ↓dhG_M_19, ↓dhG_M_20, ↓dhG_M_21, ↓dhG_M_22, ↓dhG_M_23, ↓dhG_M_24, ↓dhg_M_25, ↓dhq_M_25, ↓dhG_M_26, ↓dhG_M_27, ↓dhG_M_28, ↓dhg_M_29, ↓dhq_M_29, ↓dhG_M_30, ↓dhG_M_31, ↓dhg_M_32, ↓dhq_M_32, ↓dhg_M_33, ↓dhq_M_33, ↓dhg_M_34, ↓dhq_M_34, ↓dhg_M_35, ↓dhq_M_35, ↓dhG_M_36, ↓dhG_M_37, ↓dhg_M_38, ↓dhq_M_38, ↓dhg_M_39, ↓dhq_M_39, ↓dhG_M_40, ↓dhG_M_41, ↓dhG_M_42, ↓dhG_M_43, ↓dhg_M_44, ↓dhq_M_44, Option.bind_some, ↓nm_eq, ↓sm_inl, ↓sm_inr, ↓dzo_0, ↓dzo_1, ↓drg_ok, ↓if_pos, ↓if_neg, if_pos, if_neg, if_true, if_false, Int.toNat_natCast, rg_ok]
  have hns : zst g kd lv t y = false → (if (ct : Int) + b01 sh + b01 ac ≤ 1 then 0 else 10000) + A + 1 = zce g kd lv sd t y := fun z => by
    unfold zce
    have ht : ztt g kd t y = (ct : Int) + b01 sh + b01 ac := by unfold ztt; rw [hsh, hac', ← hcte]; omega
    rw [z, hzA z, ht, if_neg (show ¬ (false = true) by decide)]
  have hstb : zst g kd lv t y = true ↔ sh = true ∧ ac = false ∧ ct = 1 ∧ 0 < lv y ∧ 0 < zlp2 g lv lo := by
    unfold zst
    rw [hsh, hac', ← hloe]
    simp only [Bool.and_eq_true, Bool.not_eq_true', decide_eq_true_eq]
    exact ⟨fun ⟨⟨⟨⟨a, b⟩, c⟩, d⟩, e⟩ => ⟨a, b, hcte.trans c, d, e⟩, fun ⟨a, b, c, d, e⟩ => ⟨⟨⟨⟨a, b⟩, hcte.symm.trans c⟩, d⟩, e⟩⟩
  have hno : ∀ q : zst g kd lv t y ≠ true, zst g kd lv t y = false := fun q => by simpa using q
  by_cases cs : sh = true
  · by_cases ca : ac = true
    · -- two of them, none a production
      have z := hno (fun q => by have := (hstb.mp q).2.1; rw [ca] at this; exact absurd this (by decide))
      rw [← hns z, ← e206, cs, ca]
      have c1 : b01 true = 1 := b01_t
      rw [c1]
      by_cases c8 : (ct : Int) = 0
      · simp (disch := omega) only [b_X12_cell_155, ↓dhi_M, ↓dhG_M_0, ↓dhG_M_1, ↓dhG_M_2, ↓dhG_M_3, ↓dhG_M_4, ↓dhG_M_5, ↓dhG_M_6, ↓dhG_M_7, ↓dhG_M_8, ↓dhg_M_9, ↓dhq_M_9, ↓dhG_M_10, ↓dhG_M_11, ↓dhG_M_12, ↓dhg_M_13, ↓dhq_M_13, ↓dhG_M_14, ↓dhg_M_15, ↓dhq_M_15, ↓dhG_M_16, ↓dhg_M_17, ↓dhq_M_17, ↓dhg_M_18, ↓dhq_M_18, ↓dhG_M_19, ↓dhG_M_20, ↓dhG_M_21, ↓dhG_M_22, ↓dhG_M_23, ↓dhG_M_24, ↓dhg_M_25, ↓dhq_M_25, ↓dhG_M_26, ↓dhG_M_27, ↓dhG_M_28, ↓dhg_M_29, ↓dhq_M_29, ↓dhG_M_30, ↓dhG_M_31, ↓dhg_M_32, ↓dhq_M_32, ↓dhg_M_33, ↓dhq_M_33, ↓dhg_M_34, ↓dhq_M_34, ↓dhg_M_35, ↓dhq_M_35, ↓dhG_M_36, ↓dhG_M_37, ↓dhg_M_38, ↓dhq_M_38, ↓dhg_M_39, ↓dhq_M_39, ↓dhG_M_40, ↓dhG_M_41, ↓dhG_M_42, ↓dhG_M_43, ↓dhg_M_44, ↓dhq_M_44, Option.bind_some, ↓nm_eq, ↓sm_inl, ↓sm_inr, ↓dzo_0, ↓dzo_1, ↓drg_ok, ↓if_pos, ↓if_neg, if_pos, if_neg, if_true, if_false, Int.toNat_natCast, rg_ok]
      · simp (disch := omega) only [b_X12_cell_155, ↓dhi_M, ↓dhG_M_0, ↓dhG_M_1, ↓dhG_M_2, ↓dhG_M_3, ↓dhG_M_4, ↓dhG_M_5, ↓dhG_M_6, ↓dhG_M_7, ↓dhG_M_8, ↓dhg_M_9, ↓dhq_M_9, ↓dhG_M_10, ↓dhG_M_11, ↓dhG_M_12, ↓dhg_M_13, ↓dhq_M_13, ↓dhG_M_14, ↓dhg_M_15, ↓dhq_M_15, ↓dhG_M_16, ↓dhg_M_17, ↓dhq_M_17, ↓dhg_M_18, ↓dhq_M_18, ↓dhG_M_19, ↓dhG_M_20, ↓dhG_M_21, ↓dhG_M_22, ↓dhG_M_23, ↓dhG_M_24, ↓dhg_M_25, ↓dhq_M_25, ↓dhG_M_26, ↓dhG_M_27, ↓dhG_M_28, ↓dhg_M_29, ↓dhq_M_29, ↓dhG_M_30, ↓dhG_M_31, ↓dhg_M_32, ↓dhq_M_32, ↓dhg_M_33, ↓dhq_M_33, ↓dhg_M_34, ↓dhq_M_34, ↓dhg_M_35, ↓dhq_M_35, ↓dhG_M_36, ↓dhG_M_37, ↓dhg_M_38, ↓dhq_M_38, ↓dhg_M_39, ↓dhq_M_39, ↓dhG_M_40, ↓dhG_M_41, ↓dhG_M_42, ↓dhG_M_43, ↓dhg_M_44, ↓dhq_M_44, Option.bind_some, ↓nm_eq, ↓sm_inl, ↓sm_inr, ↓dzo_0, ↓dzo_1, ↓drg_ok, ↓if_pos, ↓if_neg, if_pos, if_neg, if_true, if_false, Int.toNat_natCast, rg_ok]
    · have ca' : ac = false := by simpa using ca
      by_cases c1 : ct = 1
      · obtain ⟨q, hq1, hq2, -, -⟩ : ∃ p : Nat, zlo g kd t y = (p : Int) ∧ p < Gn g ∧ zrd g kd t p y ∧ 1 ≤ zct g kd t y := hlo.elim (fun z => by omega) id
        have hloq : lo = (q : Int) := hloe.trans hq1
        have elt := X12_lastTerminal (u := u) (L := L) hn hE hq2
        have elv := X12_levelOf (u := u) (L := L) hn hE hl hq2
        obtain ⟨l1, l2⟩ := hl.2 y (hy8 cs)
        obtain ⟨l3, l4⟩ := hl.1 y (hy8 cs)
        have hp5 := zlp2_rg (g := g) hg hl.1 q
        have hzr := zlt_rg hg (q := q) (Gl g q) (Nat.le_refl _)
        have hyy := hy8 cs
        have cz0 : b01 false = 0 := b01_f
        have cz1 : b01 true = 1 := b01_t
        have hzl1 : zlt g q (Gl g q) = -1 → zlp2 g lv (q : Int) = 0 := fun z => by
          unfold zlp2; rw [Int.toNat_natCast, z]; rfl
        by_cases c2 : 0 < lv y
        · by_cases c3 : 0 < zlp2 g lv lo
          · -- settled
            have z : zst g kd lv t y = true := hstb.mpr ⟨cs, ca', c1, c2, c3⟩
            have hne : zlt g q (Gl g q) ≠ -1 := fun w => by have := hzl1 w; rw [hloq] at c3; omega
            rw [hloq] at c3
            have hce : zce g kd lv sd t y = 20000 + zcd (if zlp2 g lv (q : Int) = lv y then (if sd y = 2 then -1 else if sd y = 0 then (q : Int) else 24) else if zlp2 g lv (q : Int) < lv y then 24 else (q : Int)) + 1 := by
              unfold zce zat
              rw [if_pos z, if_pos z, hq1]
            rw [hce, hloq, cs, ca', c1, cz0, cz1]
            have h25 : zcd (q : Int) = (q : Int) := by unfold zcd; rw [if_neg (by omega), if_neg (by omega)]
            have h24' := zcd_24
            have hm1 := zcd_m
            have e155 : ∀ B, b_X12_cell_155 n 161 (y : Int) ((1 : Nat) : Int) (q : Int) 1 (((1 : Nat) : Int) + 1 + 0) B (hp u J L) = b_X12_cell_207 n 161 (y : Int) (q : Int) (((1 : Nat) : Int) + 1 + 0) B 1 (hp u J L) := fun B => by
              have c11 : ((1 : Nat) : Int) = 1 := rfl
              rw [c11]
              simp (disch := omega) only [b_X12_cell_155, ↓dhi_M, ↓dhG_M_0, ↓dhG_M_1, ↓dhG_M_2, ↓dhG_M_3, ↓dhG_M_4, ↓dhG_M_5, ↓dhG_M_6, ↓dhG_M_7, ↓dhG_M_8, ↓dhg_M_9, ↓dhq_M_9, ↓dhG_M_10, ↓dhG_M_11, ↓dhG_M_12, ↓dhg_M_13, ↓dhq_M_13, ↓dhG_M_14, ↓dhg_M_15, ↓dhq_M_15, ↓dhG_M_16, ↓dhg_M_17, ↓dhq_M_17, ↓dhg_M_18, ↓dhq_M_18, ↓dhG_M_19, ↓dhG_M_20, ↓dhG_M_21, ↓dhG_M_22, ↓dhG_M_23, ↓dhG_M_24, ↓dhg_M_25, ↓dhq_M_25, ↓dhG_M_26, ↓dhG_M_27, ↓dhG_M_28, ↓dhg_M_29, ↓dhq_M_29, ↓dhG_M_30, ↓dhG_M_31, ↓dhg_M_32, ↓dhq_M_32, ↓dhg_M_33, ↓dhq_M_33, ↓dhg_M_34, ↓dhq_M_34, ↓dhg_M_35, ↓dhq_M_35, ↓dhG_M_36, ↓dhG_M_37, ↓dhg_M_38, ↓dhq_M_38, ↓dhg_M_39, ↓dhq_M_39, ↓dhG_M_40, ↓dhG_M_41, ↓dhG_M_42, ↓dhG_M_43, ↓dhg_M_44, ↓dhq_M_44, ↓dha_171, ↓dhs_171, ↓dhl_171, Option.bind_some, ↓nm_eq, ↓sm_inl, ↓sm_inr, ↓dzo_0, ↓dzo_1, ↓drg_ok, ↓if_pos, ↓if_neg, if_pos, if_neg, if_true, if_false, Int.toNat_natCast, rg_ok, ↓bnd elt, ↓bnd elv, l1]
            rw [e155]
            by_cases d1 : zlp2 g lv (q : Int) = lv y
            · rw [if_pos d1]
              by_cases d2 : sd y = 2
              · rw [if_pos d2, hm1]
                simp (disch := omega) only [b_X12_cell_207, b_X12_cell_272, b_X12_cell_287, b_X12_cell_267, b_X12_cell_294, ↓dhi_M, ↓dhG_M_0, ↓dhG_M_1, ↓dhG_M_2, ↓dhG_M_3, ↓dhG_M_4, ↓dhG_M_5, ↓dhG_M_6, ↓dhG_M_7, ↓dhG_M_8, ↓dhg_M_9, ↓dhq_M_9, ↓dhG_M_10, ↓dhG_M_11, ↓dhG_M_12, ↓dhg_M_13, ↓dhq_M_13, ↓dhG_M_14, ↓dhg_M_15, ↓dhq_M_15, ↓dhG_M_16, ↓dhg_M_17, ↓dhq_M_17, ↓dhg_M_18, ↓dhq_M_18, ↓dhG_M_19, ↓dhG_M_20, ↓dhG_M_21, ↓dhG_M_22, ↓dhG_M_23, ↓dhG_M_24, ↓dhg_M_25, ↓dhq_M_25, ↓dhG_M_26, ↓dhG_M_27, ↓dhG_M_28, ↓dhg_M_29, ↓dhq_M_29, ↓dhG_M_30, ↓dhG_M_31, ↓dhg_M_32, ↓dhq_M_32, ↓dhg_M_33, ↓dhq_M_33, ↓dhg_M_34, ↓dhq_M_34, ↓dhg_M_35, ↓dhq_M_35, ↓dhG_M_36, ↓dhG_M_37, ↓dhg_M_38, ↓dhq_M_38, ↓dhg_M_39, ↓dhq_M_39, ↓dhG_M_40, ↓dhG_M_41, ↓dhG_M_42, ↓dhG_M_43, ↓dhg_M_44, ↓dhq_M_44, ↓dha_171, ↓dhs_171, ↓dhl_171, ↓dha_172, ↓dhs_172, ↓dhl_172, Option.bind_some, ↓nm_eq, ↓sm_inl, ↓sm_inr, ↓dzo_0, ↓dzo_1, ↓drg_ok, ↓if_pos, ↓if_neg, if_pos, if_neg, if_true, if_false, Int.toNat_natCast, rg_ok, ↓bnd elv, l1, l2]
              · rw [if_neg d2]
                by_cases d3 : sd y = 0
                · rw [if_pos d3, h25]
                  simp (disch := omega) only [b_X12_cell_207, b_X12_cell_272, b_X12_cell_287, b_X12_cell_267, b_X12_cell_294, ↓dhi_M, ↓dhG_M_0, ↓dhG_M_1, ↓dhG_M_2, ↓dhG_M_3, ↓dhG_M_4, ↓dhG_M_5, ↓dhG_M_6, ↓dhG_M_7, ↓dhG_M_8, ↓dhg_M_9, ↓dhq_M_9, ↓dhG_M_10, ↓dhG_M_11, ↓dhG_M_12, ↓dhg_M_13, ↓dhq_M_13, ↓dhG_M_14, ↓dhg_M_15, ↓dhq_M_15, ↓dhG_M_16, ↓dhg_M_17, ↓dhq_M_17, ↓dhg_M_18, ↓dhq_M_18, ↓dhG_M_19, ↓dhG_M_20, ↓dhG_M_21, ↓dhG_M_22, ↓dhG_M_23, ↓dhG_M_24, ↓dhg_M_25, ↓dhq_M_25, ↓dhG_M_26, ↓dhG_M_27, ↓dhG_M_28, ↓dhg_M_29, ↓dhq_M_29, ↓dhG_M_30, ↓dhG_M_31, ↓dhg_M_32, ↓dhq_M_32, ↓dhg_M_33, ↓dhq_M_33, ↓dhg_M_34, ↓dhq_M_34, ↓dhg_M_35, ↓dhq_M_35, ↓dhG_M_36, ↓dhG_M_37, ↓dhg_M_38, ↓dhq_M_38, ↓dhg_M_39, ↓dhq_M_39, ↓dhG_M_40, ↓dhG_M_41, ↓dhG_M_42, ↓dhG_M_43, ↓dhg_M_44, ↓dhq_M_44, ↓dha_171, ↓dhs_171, ↓dhl_171, ↓dha_172, ↓dhs_172, ↓dhl_172, Option.bind_some, ↓nm_eq, ↓sm_inl, ↓sm_inr, ↓dzo_0, ↓dzo_1, ↓drg_ok, ↓if_pos, ↓if_neg, if_pos, if_neg, if_true, if_false, Int.toNat_natCast, rg_ok, ↓bnd elv, l1, l2]
                · rw [if_neg d3, h24']
                  simp (disch := omega) only [b_X12_cell_207, b_X12_cell_272, b_X12_cell_287, b_X12_cell_267, b_X12_cell_294, ↓dhi_M, ↓dhG_M_0, ↓dhG_M_1, ↓dhG_M_2, ↓dhG_M_3, ↓dhG_M_4, ↓dhG_M_5, ↓dhG_M_6, ↓dhG_M_7, ↓dhG_M_8, ↓dhg_M_9, ↓dhq_M_9, ↓dhG_M_10, ↓dhG_M_11, ↓dhG_M_12, ↓dhg_M_13, ↓dhq_M_13, ↓dhG_M_14, ↓dhg_M_15, ↓dhq_M_15, ↓dhG_M_16, ↓dhg_M_17, ↓dhq_M_17, ↓dhg_M_18, ↓dhq_M_18, ↓dhG_M_19, ↓dhG_M_20, ↓dhG_M_21, ↓dhG_M_22, ↓dhG_M_23, ↓dhG_M_24, ↓dhg_M_25, ↓dhq_M_25, ↓dhG_M_26, ↓dhG_M_27, ↓dhG_M_28, ↓dhg_M_29, ↓dhq_M_29, ↓dhG_M_30, ↓dhG_M_31, ↓dhg_M_32, ↓dhq_M_32, ↓dhg_M_33, ↓dhq_M_33, ↓dhg_M_34, ↓dhq_M_34, ↓dhg_M_35, ↓dhq_M_35, ↓dhG_M_36, ↓dhG_M_37, ↓dhg_M_38, ↓dhq_M_38, ↓dhg_M_39, ↓dhq_M_39, ↓dhG_M_40, ↓dhG_M_41, ↓dhG_M_42, ↓dhG_M_43, ↓dhg_M_44, ↓dhq_M_44, ↓dha_171, ↓dhs_171, ↓dhl_171, ↓dha_172, ↓dhs_172, ↓dhl_172, Option.bind_some, ↓nm_eq, ↓sm_inl, ↓sm_inr, ↓dzo_0, ↓dzo_1, ↓drg_ok, ↓if_pos, ↓if_neg, if_pos, if_neg, if_true, if_false, Int.toNat_natCast, rg_ok, ↓bnd elv, l1, l2]
            · rw [if_neg d1]
              by_cases d2 : zlp2 g lv (q : Int) < lv y
              · rw [if_pos d2, h24']
                simp (disch := omega) only [b_X12_cell_207, b_X12_cell_272, b_X12_cell_287, b_X12_cell_267, b_X12_cell_294, ↓dhi_M, ↓dhG_M_0, ↓dhG_M_1, ↓dhG_M_2, ↓dhG_M_3, ↓dhG_M_4, ↓dhG_M_5, ↓dhG_M_6, ↓dhG_M_7, ↓dhG_M_8, ↓dhg_M_9, ↓dhq_M_9, ↓dhG_M_10, ↓dhG_M_11, ↓dhG_M_12, ↓dhg_M_13, ↓dhq_M_13, ↓dhG_M_14, ↓dhg_M_15, ↓dhq_M_15, ↓dhG_M_16, ↓dhg_M_17, ↓dhq_M_17, ↓dhg_M_18, ↓dhq_M_18, ↓dhG_M_19, ↓dhG_M_20, ↓dhG_M_21, ↓dhG_M_22, ↓dhG_M_23, ↓dhG_M_24, ↓dhg_M_25, ↓dhq_M_25, ↓dhG_M_26, ↓dhG_M_27, ↓dhG_M_28, ↓dhg_M_29, ↓dhq_M_29, ↓dhG_M_30, ↓dhG_M_31, ↓dhg_M_32, ↓dhq_M_32, ↓dhg_M_33, ↓dhq_M_33, ↓dhg_M_34, ↓dhq_M_34, ↓dhg_M_35, ↓dhq_M_35, ↓dhG_M_36, ↓dhG_M_37, ↓dhg_M_38, ↓dhq_M_38, ↓dhg_M_39, ↓dhq_M_39, ↓dhG_M_40, ↓dhG_M_41, ↓dhG_M_42, ↓dhG_M_43, ↓dhg_M_44, ↓dhq_M_44, ↓dha_171, ↓dhs_171, ↓dhl_171, ↓dha_172, ↓dhs_172, ↓dhl_172, Option.bind_some, ↓nm_eq, ↓sm_inl, ↓sm_inr, ↓dzo_0, ↓dzo_1, ↓drg_ok, ↓if_pos, ↓if_neg, if_pos, if_neg, if_true, if_false, Int.toNat_natCast, rg_ok, ↓bnd elv, l1, l2]
              · rw [if_neg d2, h25]
                simp (disch := omega) only [b_X12_cell_207, b_X12_cell_272, b_X12_cell_287, b_X12_cell_267, b_X12_cell_294, ↓dhi_M, ↓dhG_M_0, ↓dhG_M_1, ↓dhG_M_2, ↓dhG_M_3, ↓dhG_M_4, ↓dhG_M_5, ↓dhG_M_6, ↓dhG_M_7, ↓dhG_M_8, ↓dhg_M_9, ↓dhq_M_9, ↓dhG_M_10, ↓dhG_M_11, ↓dhG_M_12, ↓dhg_M_13, ↓dhq_M_13, ↓dhG_M_14, ↓dhg_M_15, ↓dhq_M_15, ↓dhG_M_16, ↓dhg_M_17, ↓dhq_M_17, ↓dhg_M_18, ↓dhq_M_18, ↓dhG_M_19, ↓dhG_M_20, ↓dhG_M_21, ↓dhG_M_22, ↓dhG_M_23, ↓dhG_M_24, ↓dhg_M_25, ↓dhq_M_25, ↓dhG_M_26, ↓dhG_M_27, ↓dhG_M_28, ↓dhg_M_29, ↓dhq_M_29, ↓dhG_M_30, ↓dhG_M_31, ↓dhg_M_32, ↓dhq_M_32, ↓dhg_M_33, ↓dhq_M_33, ↓dhg_M_34, ↓dhq_M_34, ↓dhg_M_35, ↓dhq_M_35, ↓dhG_M_36, ↓dhG_M_37, ↓dhg_M_38, ↓dhq_M_38, ↓dhg_M_39, ↓dhq_M_39, ↓dhG_M_40, ↓dhG_M_41, ↓dhG_M_42, ↓dhG_M_43, ↓dhg_M_44, ↓dhq_M_44, ↓dha_171, ↓dhs_171, ↓dhl_171, ↓dha_172, ↓dhs_172, ↓dhl_172, Option.bind_some, ↓nm_eq, ↓sm_inl, ↓sm_inr, ↓dzo_0, ↓dzo_1, ↓drg_ok, ↓if_pos, ↓if_neg, if_pos, if_neg, if_true, if_false, Int.toNat_natCast, rg_ok, ↓bnd elv, l1, l2]
          · have z := hno (fun w => c3 (hstb.mp w).2.2.2.2)
            rw [hloq] at c3
            rw [← hns z, ← e206, hloq, cs, ca', c1, cz0, cz1]
            have c11 : ((1 : Nat) : Int) = 1 := rfl
            rw [c11]
            by_cases d : zlt g q (Gl g q) = -1
            · rw [d] at elt
              simp (disch := omega) only [b_X12_cell_155, ↓dhi_M, ↓dhG_M_0, ↓dhG_M_1, ↓dhG_M_2, ↓dhG_M_3, ↓dhG_M_4, ↓dhG_M_5, ↓dhG_M_6, ↓dhG_M_7, ↓dhG_M_8, ↓dhg_M_9, ↓dhq_M_9, ↓dhG_M_10, ↓dhG_M_11, ↓dhG_M_12, ↓dhg_M_13, ↓dhq_M_13, ↓dhG_M_14, ↓dhg_M_15, ↓dhq_M_15, ↓dhG_M_16, ↓dhg_M_17, ↓dhq_M_17, ↓dhg_M_18, ↓dhq_M_18, ↓dhG_M_19, ↓dhG_M_20, ↓dhG_M_21, ↓dhG_M_22, ↓dhG_M_23, ↓dhG_M_24, ↓dhg_M_25, ↓dhq_M_25, ↓dhG_M_26, ↓dhG_M_27, ↓dhG_M_28, ↓dhg_M_29, ↓dhq_M_29, ↓dhG_M_30, ↓dhG_M_31, ↓dhg_M_32, ↓dhq_M_32, ↓dhg_M_33, ↓dhq_M_33, ↓dhg_M_34, ↓dhq_M_34, ↓dhg_M_35, ↓dhq_M_35, ↓dhG_M_36, ↓dhG_M_37, ↓dhg_M_38, ↓dhq_M_38, ↓dhg_M_39, ↓dhq_M_39, ↓dhG_M_40, ↓dhG_M_41, ↓dhG_M_42, ↓dhG_M_43, ↓dhg_M_44, ↓dhq_M_44, ↓dha_171, ↓dhs_171, ↓dhl_171, Option.bind_some, ↓nm_eq, ↓sm_inl, ↓sm_inr, ↓dzo_0, ↓dzo_1, ↓drg_ok, ↓if_pos, ↓if_neg, if_pos, if_neg, if_true, if_false, Int.toNat_natCast, rg_ok, ↓bnd elt, ↓bnd elv, l1]
            · simp (disch := omega) only [b_X12_cell_155, ↓dhi_M, ↓dhG_M_0, ↓dhG_M_1, ↓dhG_M_2, ↓dhG_M_3, ↓dhG_M_4, ↓dhG_M_5, ↓dhG_M_6, ↓dhG_M_7, ↓dhG_M_8, ↓dhg_M_9, ↓dhq_M_9, ↓dhG_M_10, ↓dhG_M_11, ↓dhG_M_12, ↓dhg_M_13, ↓dhq_M_13, ↓dhG_M_14, ↓dhg_M_15, ↓dhq_M_15, ↓dhG_M_16, ↓dhg_M_17, ↓dhq_M_17, ↓dhg_M_18, ↓dhq_M_18, ↓dhG_M_19, ↓dhG_M_20, ↓dhG_M_21, ↓dhG_M_22, ↓dhG_M_23, ↓dhG_M_24, ↓dhg_M_25, ↓dhq_M_25, ↓dhG_M_26, ↓dhG_M_27, ↓dhG_M_28, ↓dhg_M_29, ↓dhq_M_29, ↓dhG_M_30, ↓dhG_M_31, ↓dhg_M_32, ↓dhq_M_32, ↓dhg_M_33, ↓dhq_M_33, ↓dhg_M_34, ↓dhq_M_34, ↓dhg_M_35, ↓dhq_M_35, ↓dhG_M_36, ↓dhG_M_37, ↓dhg_M_38, ↓dhq_M_38, ↓dhg_M_39, ↓dhq_M_39, ↓dhG_M_40, ↓dhG_M_41, ↓dhG_M_42, ↓dhG_M_43, ↓dhg_M_44, ↓dhq_M_44, ↓dha_171, ↓dhs_171, ↓dhl_171, Option.bind_some, ↓nm_eq, ↓sm_inl, ↓sm_inr, ↓dzo_0, ↓dzo_1, ↓drg_ok, ↓if_pos, ↓if_neg, if_pos, if_neg, if_true, if_false, Int.toNat_natCast, rg_ok, ↓bnd elt, ↓bnd elv, l1]
        · have z := hno (fun w => c2 (hstb.mp w).2.2.2.1)
          rw [← hns z, ← e206, hloq, cs, ca', c1, cz0, cz1]
          have c11 : ((1 : Nat) : Int) = 1 := rfl
          rw [c11]
          simp (disch := omega) only [b_X12_cell_155, ↓dhi_M, ↓dhG_M_0, ↓dhG_M_1, ↓dhG_M_2, ↓dhG_M_3, ↓dhG_M_4, ↓dhG_M_5, ↓dhG_M_6, ↓dhG_M_7, ↓dhG_M_8, ↓dhg_M_9, ↓dhq_M_9, ↓dhG_M_10, ↓dhG_M_11, ↓dhG_M_12, ↓dhg_M_13, ↓dhq_M_13, ↓dhG_M_14, ↓dhg_M_15, ↓dhq_M_15, ↓dhG_M_16, ↓dhg_M_17, ↓dhq_M_17, ↓dhg_M_18, ↓dhq_M_18, ↓dhG_M_19, ↓dhG_M_20, ↓dhG_M_21, ↓dhG_M_22, ↓dhG_M_23, ↓dhG_M_24, ↓dhg_M_25, ↓dhq_M_25, ↓dhG_M_26, ↓dhG_M_27, ↓dhG_M_28, ↓dhg_M_29, ↓dhq_M_29, ↓dhG_M_30, ↓dhG_M_31, ↓dhg_M_32, ↓dhq_M_32, ↓dhg_M_33, ↓dhq_M_33, ↓dhg_M_34, ↓dhq_M_34, ↓dhg_M_35, ↓dhq_M_35, ↓dhG_M_36, ↓dhG_M_37, ↓dhg_M_38, ↓dhq_M_38, ↓dhg_M_39, ↓dhq_M_39, ↓dhG_M_40, ↓dhG_M_41, ↓dhG_M_42, ↓dhG_M_43, ↓dhg_M_44, ↓dhq_M_44, ↓dha_171, ↓dhs_171, ↓dhl_171, Option.bind_some, ↓nm_eq, ↓sm_inl, ↓sm_inr, ↓dzo_0, ↓dzo_1, ↓drg_ok, ↓if_pos, ↓if_neg, if_pos, if_neg, if_true, if_false, Int.toNat_natCast, rg_ok, l1]
      · have z := hno (fun q => c1 (hstb.mp q).2.2.1)
        rw [← hns z, ← e206, cs, ca']
        have cz0 : b01 false = 0 := b01_f
        have cz1 : b01 true = 1 := b01_t
        rw [cz0, cz1]
        by_cases c8 : ct = 1
        · exact absurd c8 c1
        · simp (disch := omega) only [b_X12_cell_155, ↓dhi_M, ↓dhG_M_0, ↓dhG_M_1, ↓dhG_M_2, ↓dhG_M_3, ↓dhG_M_4, ↓dhG_M_5, ↓dhG_M_6, ↓dhG_M_7, ↓dhG_M_8, ↓dhg_M_9, ↓dhq_M_9, ↓dhG_M_10, ↓dhG_M_11, ↓dhG_M_12, ↓dhg_M_13, ↓dhq_M_13, ↓dhG_M_14, ↓dhg_M_15, ↓dhq_M_15, ↓dhG_M_16, ↓dhg_M_17, ↓dhq_M_17, ↓dhg_M_18, ↓dhq_M_18, ↓dhG_M_19, ↓dhG_M_20, ↓dhG_M_21, ↓dhG_M_22, ↓dhG_M_23, ↓dhG_M_24, ↓dhg_M_25, ↓dhq_M_25, ↓dhG_M_26, ↓dhG_M_27, ↓dhG_M_28, ↓dhg_M_29, ↓dhq_M_29, ↓dhG_M_30, ↓dhG_M_31, ↓dhg_M_32, ↓dhq_M_32, ↓dhg_M_33, ↓dhq_M_33, ↓dhg_M_34, ↓dhq_M_34, ↓dhg_M_35, ↓dhq_M_35, ↓dhG_M_36, ↓dhG_M_37, ↓dhg_M_38, ↓dhq_M_38, ↓dhg_M_39, ↓dhq_M_39, ↓dhG_M_40, ↓dhG_M_41, ↓dhG_M_42, ↓dhG_M_43, ↓dhg_M_44, ↓dhq_M_44, Option.bind_some, ↓nm_eq, ↓sm_inl, ↓sm_inr, ↓dzo_0, ↓dzo_1, ↓drg_ok, ↓if_pos, ↓if_neg, if_pos, if_neg, if_true, if_false, Int.toNat_natCast, rg_ok]
  · have cs' : sh = false := by simpa using cs
    have z := hno (fun q => cs (hstb.mp q).1)
    rw [← hns z, ← e206, cs']
    have cz0 : b01 false = 0 := b01_f
    rw [cz0]
    by_cases c8 : (ct : Int) + 0 + b01 ac = 2
    · simp (disch := omega) only [b_X12_cell_155, ↓dhi_M, ↓dhG_M_0, ↓dhG_M_1, ↓dhG_M_2, ↓dhG_M_3, ↓dhG_M_4, ↓dhG_M_5, ↓dhG_M_6, ↓dhG_M_7, ↓dhG_M_8, ↓dhg_M_9, ↓dhq_M_9, ↓dhG_M_10, ↓dhG_M_11, ↓dhG_M_12, ↓dhg_M_13, ↓dhq_M_13, ↓dhG_M_14, ↓dhg_M_15, ↓dhq_M_15, ↓dhG_M_16, ↓dhg_M_17, ↓dhq_M_17, ↓dhg_M_18, ↓dhq_M_18, ↓dhG_M_19, ↓dhG_M_20, ↓dhG_M_21, ↓dhG_M_22, ↓dhG_M_23, ↓dhG_M_24, ↓dhg_M_25, ↓dhq_M_25, ↓dhG_M_26, ↓dhG_M_27, ↓dhG_M_28, ↓dhg_M_29, ↓dhq_M_29, ↓dhG_M_30, ↓dhG_M_31, ↓dhg_M_32, ↓dhq_M_32, ↓dhg_M_33, ↓dhq_M_33, ↓dhg_M_34, ↓dhq_M_34, ↓dhg_M_35, ↓dhq_M_35, ↓dhG_M_36, ↓dhG_M_37, ↓dhg_M_38, ↓dhq_M_38, ↓dhg_M_39, ↓dhq_M_39, ↓dhG_M_40, ↓dhG_M_41, ↓dhG_M_42, ↓dhG_M_43, ↓dhg_M_44, ↓dhq_M_44, Option.bind_some, ↓nm_eq, ↓sm_inl, ↓sm_inr, ↓dzo_0, ↓dzo_1, ↓drg_ok, ↓if_pos, ↓if_neg, if_pos, if_neg, if_true, if_false, Int.toNat_natCast, rg_ok]
    · simp (disch := omega) only [b_X12_cell_155, ↓dhi_M, ↓dhG_M_0, ↓dhG_M_1, ↓dhG_M_2, ↓dhG_M_3, ↓dhG_M_4, ↓dhG_M_5, ↓dhG_M_6, ↓dhG_M_7, ↓dhG_M_8, ↓dhg_M_9, ↓dhq_M_9, ↓dhG_M_10, ↓dhG_M_11, ↓dhG_M_12, ↓dhg_M_13, ↓dhq_M_13, ↓dhG_M_14, ↓dhg_M_15, ↓dhq_M_15, ↓dhG_M_16, ↓dhg_M_17, ↓dhq_M_17, ↓dhg_M_18, ↓dhq_M_18, ↓dhG_M_19, ↓dhG_M_20, ↓dhG_M_21, ↓dhG_M_22, ↓dhG_M_23, ↓dhG_M_24, ↓dhg_M_25, ↓dhq_M_25, ↓dhG_M_26, ↓dhG_M_27, ↓dhG_M_28, ↓dhg_M_29, ↓dhq_M_29, ↓dhG_M_30, ↓dhG_M_31, ↓dhg_M_32, ↓dhq_M_32, ↓dhg_M_33, ↓dhq_M_33, ↓dhg_M_34, ↓dhq_M_34, ↓dhg_M_35, ↓dhq_M_35, ↓dhG_M_36, ↓dhG_M_37, ↓dhg_M_38, ↓dhq_M_38, ↓dhg_M_39, ↓dhq_M_39, ↓dhG_M_40, ↓dhG_M_41, ↓dhG_M_42, ↓dhG_M_43, ↓dhg_M_44, ↓dhq_M_44, Option.bind_some, ↓nm_eq, ↓sm_inl, ↓sm_inr, ↓dzo_0, ↓dzo_1, ↓drg_ok, ↓if_pos, ↓if_neg, if_pos, if_neg, if_true, if_false, Int.toNat_natCast, rg_ok]
end RC_
