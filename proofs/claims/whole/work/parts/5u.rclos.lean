/-! ===== the reference: numbers of items; closures ===== -/
def frm (g : GT) : Nat → Nat
  | 0 => 0
  | p + 1 => frm g p + (Gl g p + 1)
def fo (g : GT) (p : Nat) : Nat := if p = 24 then frm g (Gn g) else frm g p
def ar (g : GT) (o : Nat) (p k : Nat) : Nat := o + (fo g p + k)
theorem frm_le {g : GT} : ∀ {p q : Nat}, p < q → frm g p + (Gl g p + 1) ≤ frm g q
  | p, 0, h => absurd h (by omega)
  | p, q + 1, h => by
    by_cases e : p = q
    · subst e; exact Nat.le_refl _
    · have := frm_le (g := g) (show p < q by omega)
      show frm g p + (Gl g p + 1) ≤ frm g q + (Gl g q + 1); omega
theorem frm_6 {g : GT} (hg : GR g) : ∀ p, frm g p ≤ 6 * p
  | 0 => Nat.le_refl _
  | p + 1 => by have := frm_6 hg p; have := hg.2.2.2.1 p; show frm g p + (Gl g p + 1) ≤ 6 * (p + 1); omega
theorem fo_rg {g : GT} (hg : GR g) {p k : Nat} (h : vI g p k) : fo g p + k < frm g (Gn g) + 2 ∧ frm g (Gn g) ≤ 144 := by
  have h1 := frm_6 hg (Gn g)
  have h2 := hg.1
  have h3 := h.2
  unfold fo
  by_cases e : p = 24
  · rw [if_pos e]; rw [e, gX_l24] at h3; omega
  · rw [if_neg e]
    rw [gX_l e] at h3
    have hp : p < Gn g := h.1.elim id (fun z => absurd z e)
    have := frm_le (g := g) hp; omega
theorem ar_inj {g : GT} (o : Nat) : INJ g (ar g o) := fun p k p' k' h1 h2 e => by
  have a1 := h1.2; have a2 := h2.2
  unfold ar fo at e
  by_cases e1 : p = 24
  · rw [if_pos e1] at e
    by_cases e2 : p' = 24
    · rw [if_pos e2] at e; omega
    · rw [if_neg e2] at e
      rw [gX_l e2] at a2
      have hp : p' < Gn g := h2.1.elim id (fun z => absurd z e2)
      have := frm_le (g := g) hp; omega
  · rw [if_neg e1] at e
    rw [gX_l e1] at a1
    have hp : p < Gn g := h1.1.elim id (fun z => absurd z e1)
    by_cases e2 : p' = 24
    · rw [if_pos e2] at e
      have := frm_le (g := g) hp; omega
    · rw [if_neg e2] at e
      rw [gX_l e2] at a2
      have hp' : p' < Gn g := h2.1.elim id (fun z => absurd z e2)
      by_cases c : p < p'
      · have := frm_le (g := g) c; omega
      · by_cases c2 : p' < p
        · have := frm_le (g := g) c2; omega
        · have : p = p' := by omega
          subst this; omega
/-- what the reference has found of its grammar, as it stands in a heap -/
def RX (g : GT) (N : Nat → Prop) (F : Nat → Nat → Prop) (J : Nat → Nat → Int) : Prop := RE g J ∧ rTb J ∧ rNi J = N ∧ rFi J = F
def NU (g : GT) (J : Nat → Nat → Int) : Prop := (∀ p, p < Gn g → J 181 p = (frm g p : Int)) ∧ J 181 24 = (frm g (Gn g) : Int) ∧ J 161 25 = ((frm g (Gn g) + 2 : Nat) : Int)
theorem RX.fr {g : GT} {N : Nat → Prop} {F : Nat → Nat → Prop} {J K : Nat → Nat → Int} (h : RX g N F J) {l : List Nat} (f : Fr l J K) (h9 : K 161 9 = J 161 9 ∧ K 161 18 = J 161 18) (q : (162 ∉ l ∧ 163 ∉ l ∧ 164 ∉ l ∧ 165 ∉ l ∧ 170 ∉ l) ∧ 176 ∉ l) : RX g N F K := by
  obtain ⟨a, b, c, d⟩ := h
  exact ⟨a.fr f h9.1 q.1, rTb_fr (f 176 q.2) h9.2 b, (rNi_fr h9.2).trans c, (rFi_fr (f 176 q.2)).trans d⟩
theorem NU.fr {g : GT} {J K : Nat → Nat → Int} (h : NU g J) (e1 : K 181 = J 181) (e2 : K 161 25 = J 161 25) : NU g K := by unfold NU; rw [e1, e2]; exact h
theorem NU.at {g : GT} {J : Nat → Nat → Int} (h : NU g J) {p : Nat} (hp : pv g p) : J 181 p = (fo g p : Int) := by
  unfold fo
  by_cases e : p = 24
  · rw [if_pos e, e]; exact h.2.1
  · rw [if_neg e]; exact h.1 p (hp.elim id (fun z => absurd z e))
section RM
variable {u : Nat} {n : Nat} {L : Nat → Nat → Int} {g : GT} {N : Nat → Prop} {F : Nat → Nat → Prop}
theorem re_manyb {J : Nat → Nat → Int} (w : RE g J) {β : Type} {f : Nat → Int → Int → Option β} : Option.bind (gi_gR (hp u J L) 161 10 3) (fun t => Option.bind (gi_gI (hp u J L) 161 10 9) fun t2 => Option.bind (gi_aI (hp u J L) 1 t t2) fun t3 => f t t2 t3) = f 165 ((rw9 J : Nat) : Int) ((Gn g : Nat) : Int) := by
  have h9 := re_w w
  simp (disch := omega) only [↓dhi_M, ↓dhG_M_0, ↓dhG_M_1, ↓dhG_M_2, ↓dhG_M_3, ↓dhG_M_4, ↓dhG_M_5, ↓dhG_M_6, ↓dhG_M_7, ↓dhG_M_8, ↓dhg_M_9, ↓dhq_M_9, ↓dhG_M_10, ↓dhG_M_11, ↓dhG_M_12, ↓dhg_M_13, ↓dhq_M_13, ↓dhG_M_14, ↓dhg_M_15, ↓dhq_M_15, ↓dhG_M_16, ↓dhg_M_17, ↓dhq_M_17, ↓dhg_M_18, ↓dhq_M_18, ↓dhG_M_19, ↓dhG_M_20, ↓dhG_M_21, ↓dhG_M_22, ↓dhG_M_23, ↓dhG_M_24, ↓dhg_M_25, ↓dhq_M_25, ↓dhG_M_26, ↓dhG_M_27, ↓dhG_M_28, ↓dhg_M_29, ↓dhq_M_29, ↓dhG_M_30, ↓dhG_M_31, ↓dhg_M_32, ↓dhq_M_32, ↓dhg_M_33, ↓dhq_M_33, ↓dhg_M_34, ↓dhq_M_34, ↓dhg_M_35, ↓dhq_M_35, ↓dhG_M_36, ↓dhG_M_37, ↓dhg_M_38, ↓dhq_M_38, ↓dhg_M_39, ↓dhq_M_39, ↓dhG_M_40, ↓dhG_M_41, ↓dhG_M_42, ↓dhG_M_43, ↓dhg_M_44, ↓dhq_M_44, ↓dha_165, ↓dhs_165, ↓dhl_165, Option.bind_some, ↓nm_eq, ↓sm_inl, ↓sm_inr, ↓dzo_0, ↓dzo_1, ↓drg_ok, ↓if_pos, ↓if_neg, if_pos, if_neg, if_true, if_false, Int.toNat_natCast, rg_ok, h9.1, re_n w]
theorem rx_size {J : Nat → Nat → Int} (w : RE g J) {p : Nat} (hv : pv g p) : f_X12_sizeOf 161 (p : Int) (hp u J L) = some ((Gl (gX g) p : Nat) : Int) := by
  by_cases e : p = 24
  · rw [e, gX_l24]
    simp (disch := omega) only [f_X12_sizeOf, Option.bind_some, ↓nm_eq, ↓sm_inl, ↓sm_inr, ↓dzo_0, ↓dzo_1, ↓drg_ok, ↓if_pos, ↓if_neg, if_pos, if_neg, if_true, if_false, Int.toNat_natCast, rg_ok]
    rfl
  · rw [gX_l e]; exact re_size w (hv.elim id (fun z => absurd z e))
theorem rx_symbol {J : Nat → Nat → Int} (w : RE g J) {p k : Nat} (hk : k < Gl (gX g) p) : f_X12_symbol 161 (p : Int) (k : Int) (hp u J L) = some ((Gs (gX g) p k : Nat) : Int) := by
  by_cases e : p = 24
  · subst e
    rw [gX_l24] at hk
    have h9 := re_w w
    have ht := re_t w
    have es := rx_size (u := u) (L := L) w (p := 24) (Or.inr rfl)
    have es' : f_X12_sizeOf 161 24 (hp u J L) = some ((Gl (gX g) 24 : Nat) : Int) := es
    rw [gX_l24] at es'
    rw [gX_s24]
    simp (disch := omega) only [f_X12_symbol, ↓dhi_M, ↓dhG_M_0, ↓dhG_M_1, ↓dhG_M_2, ↓dhG_M_3, ↓dhG_M_4, ↓dhG_M_5, ↓dhG_M_6, ↓dhG_M_7, ↓dhG_M_8, ↓dhg_M_9, ↓dhq_M_9, ↓dhG_M_10, ↓dhG_M_11, ↓dhG_M_12, ↓dhg_M_13, ↓dhq_M_13, ↓dhG_M_14, ↓dhg_M_15, ↓dhq_M_15, ↓dhG_M_16, ↓dhg_M_17, ↓dhq_M_17, ↓dhg_M_18, ↓dhq_M_18, ↓dhG_M_19, ↓dhG_M_20, ↓dhG_M_21, ↓dhG_M_22, ↓dhG_M_23, ↓dhG_M_24, ↓dhg_M_25, ↓dhq_M_25, ↓dhG_M_26, ↓dhG_M_27, ↓dhG_M_28, ↓dhg_M_29, ↓dhq_M_29, ↓dhG_M_30, ↓dhG_M_31, ↓dhg_M_32, ↓dhq_M_32, ↓dhg_M_33, ↓dhq_M_33, ↓dhg_M_34, ↓dhq_M_34, ↓dhg_M_35, ↓dhq_M_35, ↓dhG_M_36, ↓dhG_M_37, ↓dhg_M_38, ↓dhq_M_38, ↓dhg_M_39, ↓dhq_M_39, ↓dhG_M_40, ↓dhG_M_41, ↓dhG_M_42, ↓dhG_M_43, ↓dhg_M_44, ↓dhq_M_44, ↓dha_170, ↓dhs_170, ↓dhl_170, Option.bind_some, ↓nm_eq, ↓sm_inl, ↓sm_inr, ↓dzo_0, ↓dzo_1, ↓drg_ok, ↓if_pos, ↓if_neg, if_pos, if_neg, if_true, if_false, Int.toNat_natCast, rg_ok]
    have : ((24 : Nat) : Int) = 24 := rfl
    simp (disch := omega) only [↓dhi_M, ↓dhG_M_0, ↓dhG_M_1, ↓dhG_M_2, ↓dhG_M_3, ↓dhG_M_4, ↓dhG_M_5, ↓dhG_M_6, ↓dhG_M_7, ↓dhG_M_8, ↓dhg_M_9, ↓dhq_M_9, ↓dhG_M_10, ↓dhG_M_11, ↓dhG_M_12, ↓dhg_M_13, ↓dhq_M_13, ↓dhG_M_14, ↓dhg_M_15, ↓dhq_M_15, ↓dhG_M_16, ↓dhg_M_17, ↓dhq_M_17, ↓dhg_M_18, ↓dhq_M_18, ↓dhG_M_19, ↓dhG_M_20, ↓dhG_M_21, ↓dhG_M_22, ↓dhG_M_23, ↓dhG_M_24, ↓dhg_M_25, ↓dhq_M_25, ↓dhG_M_26, ↓dhG_M_27, ↓dhG_M_28, ↓dhg_M_29, ↓dhq_M_29, ↓dhG_M_30, ↓dhG_M_31, ↓dhg_M_32, ↓dhq_M_32, ↓dhg_M_33, ↓dhq_M_33, ↓dhg_M_34, ↓dhq_M_34, ↓dhg_M_35, ↓dhq_M_35, ↓dhG_M_36, ↓dhG_M_37, ↓dhg_M_38, ↓dhq_M_38, ↓dhg_M_39, ↓dhq_M_39, ↓dhG_M_40, ↓dhG_M_41, ↓dhG_M_42, ↓dhG_M_43, ↓dhg_M_44, ↓dhq_M_44, ↓dha_170, ↓dhs_170, ↓dhl_170, Option.bind_some, ↓nm_eq, ↓sm_inl, ↓sm_inr, ↓dzo_0, ↓dzo_1, ↓drg_ok, ↓if_pos, ↓if_neg, if_pos, if_neg, if_true, if_false, Int.toNat_natCast, rg_ok, ↓bnd es', this, h9.1, ht]
    congr 1
  · rw [gX_l e] at hk
    rw [gX_s e]
    obtain ⟨w1, rfl⟩ := w
    exact X12_symbol w1 hk
theorem rx_empty (hn : 1000000000000000000000000000000 ≤ n) {J : Nat → Nat → Int} (w : RX g N F J) {p k : Nat} (hv : pv g p) (hk : k ≤ Gl (gX g) p) (h1 : 1 ≤ k) : ∃ r : Int, f_X12_isEmptyFrom n 161 (p : Int) (k : Int) (hp u J L) = some r ∧ ((r = 1 ∧ emF (gX g) N p k) ∨ (r = 0 ∧ ¬ emF (gX g) N p k)) := by
  obtain ⟨w1, w2, w3, w4⟩ := w
  by_cases e : p = 24
  · subst e
    rw [gX_l24] at hk
    have e1 : k = 1 := by omega
    subst e1
    have es : f_X12_sizeOf 161 24 (hp u J L) = some ((1 : Nat) : Int) := rx_size (u := u) (L := L) w1 (p := 24) (Or.inr rfl)
    obtain ⟨m, rfl⟩ : ∃ m, n = m + 1 := ⟨n - 1, by omega⟩
    refine ⟨1, ?_, Or.inl ⟨rfl, emF_end (by rw [gX_l24]; omega)⟩⟩
    have e24 : ((24 : Nat) : Int) = 24 := rfl
    have e11 : ((1 : Nat) : Int) = 1 := rfl
    rw [e24, e11]
    simp (disch := omega) only [f_X12_isEmptyFrom, l_X12_isEmptyFrom_5, b_X12_isEmptyFrom_5, ↓dhi_M, ↓dhG_M_0, ↓dhG_M_1, ↓dhG_M_2, ↓dhG_M_3, ↓dhG_M_4, ↓dhG_M_5, ↓dhG_M_6, ↓dhG_M_7, ↓dhG_M_8, ↓dhg_M_9, ↓dhq_M_9, ↓dhG_M_10, ↓dhG_M_11, ↓dhG_M_12, ↓dhg_M_13, ↓dhq_M_13, ↓dhG_M_14, ↓dhg_M_15, ↓dhq_M_15, ↓dhG_M_16, ↓dhg_M_17, ↓dhq_M_17, ↓dhg_M_18, ↓dhq_M_18, ↓dhG_M_19, ↓dhG_M_20, ↓dhG_M_21, ↓dhG_M_22, ↓dhG_M_23, ↓dhG_M_24, ↓dhg_M_25, ↓dhq_M_25, ↓dhG_M_26, ↓dhG_M_27, ↓dhG_M_28, ↓dhg_M_29, ↓dhq_M_29, ↓dhG_M_30, ↓dhG_M_31, ↓dhg_M_32, ↓dhq_M_32, ↓dhg_M_33, ↓dhq_M_33, ↓dhg_M_34, ↓dhq_M_34, ↓dhg_M_35, ↓dhq_M_35, ↓dhG_M_36, ↓dhG_M_37, ↓dhg_M_38, ↓dhq_M_38, ↓dhg_M_39, ↓dhq_M_39, ↓dhG_M_40, ↓dhG_M_41, ↓dhG_M_42, ↓dhG_M_43, ↓dhg_M_44, ↓dhq_M_44, Option.bind_some, ↓nm_eq, ↓sm_inl, ↓sm_inr, ↓dzo_0, ↓dzo_1, ↓drg_ok, ↓if_pos, ↓if_neg, if_pos, if_neg, if_true, if_false, Int.toNat_natCast, rg_ok, ↓bnd es]
  · have hq : p < Gn g := hv.elim id (fun z => absurd z e)
    rw [gX_l e] at hk
    obtain ⟨a, rfl⟩ := w1
    obtain ⟨r, e1, e2⟩ := X12_empty (u := u) (L := L) hn a w2 hq hk
    refine ⟨r, e1, ?_⟩
    rw [gX_em e, ← w3]; exact e2
theorem rx_first (hn : 1000000000000000000000000000000 ≤ n) {J : Nat → Nat → Int} (w : RX g N F J) {p k : Nat} (hv : pv g p) (hk : k ≤ Gl (gX g) p) (h1 : 1 ≤ k) : ∃ r : Int, f_X12_firstFrom n 161 (p : Int) (k : Int) (hp u J L) = some r ∧ gi_ok r ∧ ∀ i, bt r i = true ↔ (i < 8 ∧ fsF (gX g) N F p k i) := by
  obtain ⟨w1, w2, w3, w4⟩ := w
  by_cases e : p = 24
  · subst e
    rw [gX_l24] at hk
    have e1 : k = 1 := by omega
    subst e1
    have es : f_X12_sizeOf 161 24 (hp u J L) = some ((1 : Nat) : Int) := rx_size (u := u) (L := L) w1 (p := 24) (Or.inr rfl)
    obtain ⟨m, rfl⟩ : ∃ m, n = m + 1 := ⟨n - 1, by omega⟩
    have e24 : ((24 : Nat) : Int) = 24 := rfl
    have e11 : ((1 : Nat) : Int) = 1 := rfl
    refine ⟨0, ?_, by decide, fun i => ?_⟩
    · rw [e24, e11]
      simp (disch := omega) only [f_X12_firstFrom, l_X12_firstFrom_8, b_X12_firstFrom_8, ↓dhi_M, ↓dhG_M_0, ↓dhG_M_1, ↓dhG_M_2, ↓dhG_M_3, ↓dhG_M_4, ↓dhG_M_5, ↓dhG_M_6, ↓dhG_M_7, ↓dhG_M_8, ↓dhg_M_9, ↓dhq_M_9, ↓dhG_M_10, ↓dhG_M_11, ↓dhG_M_12, ↓dhg_M_13, ↓dhq_M_13, ↓dhG_M_14, ↓dhg_M_15, ↓dhq_M_15, ↓dhG_M_16, ↓dhg_M_17, ↓dhq_M_17, ↓dhg_M_18, ↓dhq_M_18, ↓dhG_M_19, ↓dhG_M_20, ↓dhG_M_21, ↓dhG_M_22, ↓dhG_M_23, ↓dhG_M_24, ↓dhg_M_25, ↓dhq_M_25, ↓dhG_M_26, ↓dhG_M_27, ↓dhG_M_28, ↓dhg_M_29, ↓dhq_M_29, ↓dhG_M_30, ↓dhG_M_31, ↓dhg_M_32, ↓dhq_M_32, ↓dhg_M_33, ↓dhq_M_33, ↓dhg_M_34, ↓dhq_M_34, ↓dhg_M_35, ↓dhq_M_35, ↓dhG_M_36, ↓dhG_M_37, ↓dhg_M_38, ↓dhq_M_38, ↓dhg_M_39, ↓dhq_M_39, ↓dhG_M_40, ↓dhG_M_41, ↓dhG_M_42, ↓dhG_M_43, ↓dhg_M_44, ↓dhq_M_44, Option.bind_some, ↓nm_eq, ↓sm_inl, ↓sm_inr, ↓dzo_0, ↓dzo_1, ↓drg_ok, ↓if_pos, ↓if_neg, if_pos, if_neg, if_true, if_false, Int.toNat_natCast, rg_ok, ↓bnd es]
    · rw [bt_zero]
      exact ⟨fun z => absurd z (by decide), fun z => absurd z.2 (fsF_end (by rw [gX_l24]; omega))⟩
  · have hq : p < Gn g := hv.elim id (fun z => absurd z e)
    rw [gX_l e] at hk
    obtain ⟨a, rfl⟩ := w1
    obtain ⟨r, e1, e2, e3⟩ := X12_first (u := u) (L := L) hn a w2 hq hk
    refine ⟨r, e1, e2, fun i => ?_⟩
    rw [gX_fs e, ← w3, ← w4]; exact e3 i
/-- the arrays that hold rows of items -/
def hA3 (A : Nat) (len : Nat) : Prop := (A = 182 ∧ len = 146) ∨ ((A = 183 ∨ A = 185) ∧ len = 11680)
theorem ra {A len : Nat} (h : hA3 A len) {J : Nat → Nat → Int} {i : Int} (h1 : 0 ≤ i) (h2 : i < (len : Int)) : gi_aI (hp u J L) 1 A i = some (J A i.toNat) := by
  rcases h with ⟨rfl, rfl⟩ | ⟨rfl | rfl, rfl⟩
  · exact ha0 (N := 146) rfl (by decide) (by decide) h1 h2
  · exact ha0 (N := 11680) rfl (by decide) (by decide) h1 h2
  · exact ha0 (N := 11680) rfl (by decide) (by decide) h1 h2
theorem rs1 {A len : Nat} (h : hA3 A len) {J : Nat → Nat → Int} {i x : Int} (h1 : 0 ≤ i) (h2 : i < (len : Int)) : gi_s1 (hp u J L) A i x = some (hp u (gx_u J A i.toNat x) L) := by
  rcases h with ⟨rfl, rfl⟩ | ⟨rfl | rfl, rfl⟩
  · exact hs0 (N := 146) rfl (by decide) (by decide) h1 h2
  · exact hs0 (N := 11680) rfl (by decide) (by decide) h1 h2
  · exact hs0 (N := 11680) rfl (by decide) (by decide) h1 h2
theorem hA_ne {A len : Nat} (h : hA3 A len) : A = 182 ∨ A = 183 ∨ A = 185 := by rcases h with ⟨h, -⟩ | ⟨h | h, -⟩ <;> omega
theorem or_0 {x : Int} (h : gi_ok x) : gi_or x 0 = x := (bt_or_left h).mpr (fun i _ q => by rw [bt_zero] at q; exact absurd q (by decide))
theorem bt_511i {x : Int} {t : Nat} : bt (gi_and x 511) t = true ↔ bt x t = true ∧ t < 9 := by
  rw [bt_and, Bool.and_eq_true, bt_511, decide_eq_true_eq]
theorem and512_rg {x : Int} : gi_ok (gi_and x 512) := bt_ok_and _ _
theorem X12_opens (hn : 1000000000000000000000000000000 ≤ n) {A len o : Nat} (hA : hA3 A len) {J0 : Nat → Nat → Int} (w : RX g N F J0) (hu : NU g J0) (ho : o + 146 ≤ len) {p k : Nat} {K : AS} (hI : CI g N F A (ar g o) K J0) (hv : pv g p) (hk : k < Gl (gX g) p) :
    ∃ (r : Int) (J' : Nat → Nat → Int), f_X12_opens n 161 A (o : Int) (p : Int) (k : Int) (hp u J0 L) = some (r, hp u J' L) ∧ Fr [A] J0 J' ∧ (∀ x, x < o ∨ o + 146 ≤ x → J' A x = J0 A x) ∧ CI g N F A (ar g o) K J' ∧ sAS (SR g A (ar g o) J0) (SR g A (ar g o) J') ∧ ((r = 0 ∧ J' = J0 ∧ CAt g N F A (ar g o) J0 p k) ∨ (r = 1 ∧ mR g A (ar g o) J0 < mR g A (ar g o) J')) := by
  have hE := w.1
  have hg := hE.gr
  have h24 := hg.1
  have hAn := hA_ne hA
  have hvI : vI g p k := ⟨hv, by omega⟩
  have hlen : len ≤ 11680 := by rcases hA with ⟨-, z⟩ | ⟨-, z⟩ <;> omega
  have hsr := gX_sr hg hk
  have hfo := fo_rg hg hvI
  have hp24 : p ≤ 24 := (vI_6 hg hvI).1
  have e181 := hu.at hv
  have ei : ((o : Int) + (fo g p : Int) + (k : Int)).toNat = ar g o p k := by unfold ar; omega
  have hlt : ar g o p k < len := by unfold ar; omega
  have er := ra (u := u) (L := L) hA (J := J0) (i := (o : Int) + (fo g p : Int) + (k : Int)) (by omega) (by omega)
  rw [ei] at er
  have es := rx_symbol (u := u) (L := L) hE hk
  have hrow := hI.1 p k hvI
  have hrg : -2147483648 ≤ gi_and (J0 A (ar g o p k)) 512 ∧ gi_and (J0 A (ar g o p k)) 512 ≤ 2147483647 := and512_rg
  have h512 := bt_and512 (x := J0 A (ar g o p k))
  by_cases c9 : bt (J0 A (ar g o p k)) 9 = true
  · have n512 : gi_and (J0 A (ar g o p k)) 512 ≠ 0 := fun z => by rw [h512.mp z] at c9; exact absurd c9 (by decide)
    by_cases c16 : 16 ≤ Gs (gX g) p k
    · have ek1 : (k : Int) + 1 = ((k + 1 : Nat) : Int) := by omega
      obtain ⟨f1, ef, fok, fbt⟩ := rx_first (u := u) (L := L) hn w hv (k := k + 1) (by omega) (by omega)
      obtain ⟨y1, ey, hy⟩ := rx_empty (u := u) (L := L) hn w hv (k := k + 1) (by omega) (by omega)
      have hy01 : y1 = 0 ∨ y1 = 1 := by rcases hy with z | z <;> omega
      have hm : ∃ m, (∀ t, bt m t = true ↔ mvb g N F p k (J0 A (ar g o p k)) t) ∧ f_X12_opens n 161 A (o : Int) (p : Int) (k : Int) (hp u J0 L) = l_X12_opens_86 n n 161 A (o : Int) ((Gs (gX g) p k : Nat) : Int) m 0 0 (hp u J0 L) := by
        rcases hy with ⟨z1, z2⟩ | ⟨z1, z2⟩
        · refine ⟨gi_or (gi_or 512 f1) (gi_and (J0 A (ar g o p k)) 511), fun t => ?_, ?_⟩
          · rw [bt_or, Bool.or_eq_true, bt_or, Bool.or_eq_true, bt_512, decide_eq_true_eq, fbt t, bt_511i]
            unfold mvb
            constructor
            · rintro ((z | z) | ⟨z, y⟩)
              · exact Or.inl z
              · exact Or.inr (Or.inl z)
              · exact Or.inr (Or.inr ⟨z2, y, z⟩)
            · rintro (z | z | ⟨-, z, y⟩)
              · exact Or.inl (Or.inl z)
              · exact Or.inl (Or.inr z)
              · exact Or.inr ⟨y, z⟩
          · simp (disch := omega) only [f_X12_opens, b_X12_opens_77, ↓dhi_M, ↓dhG_M_0, ↓dhG_M_1, ↓dhG_M_2, ↓dhG_M_3, ↓dhG_M_4, ↓dhG_M_5, ↓dhG_M_6, ↓dhG_M_7, ↓dhG_M_8, ↓dhg_M_9, ↓dhq_M_9, ↓dhG_M_10, ↓dhG_M_11, ↓dhG_M_12, ↓dhg_M_13, ↓dhq_M_13, ↓dhG_M_14, ↓dhg_M_15, ↓dhq_M_15, ↓dhG_M_16, ↓dhg_M_17, ↓dhq_M_17, ↓dhg_M_18, ↓dhq_M_18, ↓dhG_M_19, ↓dhG_M_20, ↓dhG_M_21, ↓dhG_M_22, ↓dhG_M_23, ↓dhG_M_24, ↓dhg_M_25, ↓dhq_M_25, ↓dhG_M_26, ↓dhG_M_27, ↓dhG_M_28, ↓dhg_M_29, ↓dhq_M_29, ↓dhG_M_30, ↓dhG_M_31, ↓dhg_M_32, ↓dhq_M_32, ↓dhg_M_33, ↓dhq_M_33, ↓dhg_M_34, ↓dhq_M_34, ↓dhg_M_35, ↓dhq_M_35, ↓dhG_M_36, ↓dhG_M_37, ↓dhg_M_38, ↓dhq_M_38, ↓dhg_M_39, ↓dhq_M_39, ↓dhG_M_40, ↓dhG_M_41, ↓dhG_M_42, ↓dhG_M_43, ↓dhg_M_44, ↓dhq_M_44, ↓dha_181, ↓dhs_181, ↓dhl_181, Option.bind_some, ↓nm_eq, ↓sm_inl, ↓sm_inr, ↓dzo_0, ↓dzo_1, ↓drg_ok, ↓if_pos, ↓if_neg, if_pos, if_neg, if_true, if_false, Int.toNat_natCast, rg_ok, e181, ↓bnd er, ↓bnd es, ek1, ↓bnd ef, ↓bnd ey]
        · refine ⟨gi_or (gi_or 512 f1) 0, fun t => ?_, ?_⟩
          · rw [bt_or, Bool.or_eq_true, bt_or, Bool.or_eq_true, bt_512, decide_eq_true_eq, fbt t, bt_zero]
            unfold mvb
            constructor
            · rintro ((z | z) | z)
              · exact Or.inl z
              · exact Or.inr (Or.inl z)
              · exact absurd z (by decide)
            · rintro (z | z | ⟨z, -⟩)
              · exact Or.inl (Or.inl z)
              · exact Or.inl (Or.inr z)
              · exact absurd z z2
          · simp (disch := omega) only [f_X12_opens, b_X12_opens_77, ↓dhi_M, ↓dhG_M_0, ↓dhG_M_1, ↓dhG_M_2, ↓dhG_M_3, ↓dhG_M_4, ↓dhG_M_5, ↓dhG_M_6, ↓dhG_M_7, ↓dhG_M_8, ↓dhg_M_9, ↓dhq_M_9, ↓dhG_M_10, ↓dhG_M_11, ↓dhG_M_12, ↓dhg_M_13, ↓dhq_M_13, ↓dhG_M_14, ↓dhg_M_15, ↓dhq_M_15, ↓dhG_M_16, ↓dhg_M_17, ↓dhq_M_17, ↓dhg_M_18, ↓dhq_M_18, ↓dhG_M_19, ↓dhG_M_20, ↓dhG_M_21, ↓dhG_M_22, ↓dhG_M_23, ↓dhG_M_24, ↓dhg_M_25, ↓dhq_M_25, ↓dhG_M_26, ↓dhG_M_27, ↓dhG_M_28, ↓dhg_M_29, ↓dhq_M_29, ↓dhG_M_30, ↓dhG_M_31, ↓dhg_M_32, ↓dhq_M_32, ↓dhg_M_33, ↓dhq_M_33, ↓dhg_M_34, ↓dhq_M_34, ↓dhg_M_35, ↓dhq_M_35, ↓dhG_M_36, ↓dhG_M_37, ↓dhg_M_38, ↓dhq_M_38, ↓dhg_M_39, ↓dhq_M_39, ↓dhG_M_40, ↓dhG_M_41, ↓dhG_M_42, ↓dhG_M_43, ↓dhg_M_44, ↓dhq_M_44, ↓dha_181, ↓dhs_181, ↓dhl_181, Option.bind_some, ↓nm_eq, ↓sm_inl, ↓sm_inr, ↓dzo_0, ↓dzo_1, ↓drg_ok, ↓if_pos, ↓if_neg, if_pos, if_neg, if_true, if_false, Int.toNat_natCast, rg_ok, e181, ↓bnd er, ↓bnd es, ek1, ↓bnd ef, ↓bnd ey]
      obtain ⟨m, hmb, em⟩ := hm
      have e16 : ((Gs (gX g) p k : Nat) : Int) - 16 = ((Gs (gX g) p k - 16 : Nat) : Int) := by omega
      suffices key : zLP (Gn g) (fun f q (s1 : Int × (Nat → Nat → Int)) => l_X12_opens_86 n f 161 A (o : Int) ((Gs (gX g) p k : Nat) : Int) m s1.1 (q : Int) (hp u s1.2 L))
          (fun q s1 => Fr [A] J0 s1.2 ∧ (∀ x, x < o ∨ o + 146 ≤ x → s1.2 A x = J0 A x) ∧ CI g N F A (ar g o) K s1.2 ∧ sAS (SR g A (ar g o) J0) (SR g A (ar g o) s1.2) ∧ ((s1.1 = 0 ∧ s1.2 = J0 ∧ ∀ q', q' < q → Gs (gX g) p k = 16 + Go g q' → ∀ t, mvb g N F p k (J0 A (ar g o p k)) t → SR g A (ar g o) J0 q' 0 t) ∨ (s1.1 = 1 ∧ mR g A (ar g o) J0 < mR g A (ar g o) s1.2)))
          (fun res => ∃ (r : Int) (J' : Nat → Nat → Int), res = some (r, hp u J' L) ∧ Fr [A] J0 J' ∧ (∀ x, x < o ∨ o + 146 ≤ x → J' A x = J0 A x) ∧ CI g N F A (ar g o) K J' ∧ sAS (SR g A (ar g o) J0) (SR g A (ar g o) J') ∧ ((r = 0 ∧ J' = J0 ∧ CAt g N F A (ar g o) J0 p k) ∨ (r = 1 ∧ mR g A (ar g o) J0 < mR g A (ar g o) J'))) by
        obtain ⟨r, J', e, q⟩ := key (Gn g) n 0 (0, J0) (by omega) (by omega) ⟨Fr.rf, fun _ _ => rfl, hI, fun _ _ _ z => z, Or.inl ⟨rfl, rfl, fun q' z => absurd z (by omega)⟩⟩
        exact ⟨r, J', em.trans e, q⟩
      have hfrA : ∀ J, Fr [A] J0 J → RX g N F J ∧ NU g J := fun J f => by
        have q61 : J 161 = J0 161 := f 161 (by simp; omega)
        exact ⟨w.fr f ⟨by rw [q61], by rw [q61]⟩ (by simp; omega), hu.fr (f 181 (by simp; omega)) (by rw [q61])⟩
      refine zlp ?_ ?_
      · rintro f q ⟨fl, J⟩ hq ⟨f1', f2, f4, f5, f6⟩
        dsimp only at f1' f2 f4 f5 f6 ⊢
        right
        obtain ⟨wJ, uJ⟩ := hfrA J f1'
        have h9 := re_w wJ.1
        have hnn := re_n wJ.1
        have el := re_lead (u := u) (L := L) wJ.1 hq
        have e8 := uJ.at (p := q) (Or.inl hq)
        have hv0 : vI g q 0 := ⟨Or.inl hq, Nat.zero_le _⟩
        have hfq := fo_rg hg hv0
        have eq1 : (o : Int) + (fo g q : Int) = ((ar g o q 0 : Nat) : Int) := by unfold ar; omega
        have hltq : ar g o q 0 < len := by unfold ar; omega
        have ra0 := ra (u := u) (L := L) hA (J := J) (i := ((ar g o q 0 : Nat) : Int)) (by omega) (by omega)
        have rs0 := fun x : Int => rs1 (u := u) (L := L) hA (J := J) (i := ((ar g o q 0 : Nat) : Int)) (x := x) (by omega) (by omega)
        rw [Int.toNat_natCast] at ra0
        simp only [Int.toNat_natCast] at rs0
        have ek : (q : Int) + 1 = ((q + 1 : Nat) : Int) := by omega
        have hfl : fl = 0 ∨ fl = 1 := by rcases f6 with z | z <;> omega
        have ho16 := hg.2.2.1 q
        have hok : gi_ok (J A (ar g o q 0)) := (f4.1 q 0 hv0).1
        have hok' : -2147483648 ≤ J A (ar g o q 0) ∧ J A (ar g o q 0) ≤ 2147483647 := hok
        have horg := bt_ok_or (J A (ar g o q 0)) m
        have hq24 : q < 24 := by omega
        by_cases c : Gs (gX g) p k = 16 + Go g q
        · obtain ⟨w1, w2, w3, w4⟩ := wid_ok hg (ar_inj o) f4 (q := q) (m := m) hq ((hmb 9).mpr (Or.inl rfl)) (fun t ht => by
            have z := (hmb t).mp ht
            refine opA_mono f5 ⟨hq, p, k, hv, hk, c, ⟨hvI, c9⟩, ?_⟩
            rcases z with z | z | z
            · exact Or.inl z
            · exact Or.inr (Or.inl z)
            · exact Or.inr (Or.inr ⟨z.1, z.2.1, hvI, z.2.2⟩))
          refine ⟨(if fl = 0 then (if gi_or (J A (ar g o q 0)) m = J A (ar g o q 0) then 0 else 1) else 1, gx_u J A (ar g o q 0) (gi_or (J A (ar g o q 0)) m)), ?_, f1'.wr (by simp), fun x hx => ?_, w1, fun a b d z => w2 a b d (f5 a b d z), ?_⟩
          · dsimp only
            by_cases c2 : fl = 0
            · rw [if_pos c2]
              by_cases c3 : gi_or (J A (ar g o q 0)) m = J A (ar g o q 0)
              · rw [if_pos c3]
                simp (disch := omega) only [l_X12_opens_86, b_X12_opens_86, b_X12_opens_148, b_X12_opens_149, b_X12_opens_176, ↓dhi_M, ↓dhG_M_0, ↓dhG_M_1, ↓dhG_M_2, ↓dhG_M_3, ↓dhG_M_4, ↓dhG_M_5, ↓dhG_M_6, ↓dhG_M_7, ↓dhG_M_8, ↓dhg_M_9, ↓dhq_M_9, ↓dhG_M_10, ↓dhG_M_11, ↓dhG_M_12, ↓dhg_M_13, ↓dhq_M_13, ↓dhG_M_14, ↓dhg_M_15, ↓dhq_M_15, ↓dhG_M_16, ↓dhg_M_17, ↓dhq_M_17, ↓dhg_M_18, ↓dhq_M_18, ↓dhG_M_19, ↓dhG_M_20, ↓dhG_M_21, ↓dhG_M_22, ↓dhG_M_23, ↓dhG_M_24, ↓dhg_M_25, ↓dhq_M_25, ↓dhG_M_26, ↓dhG_M_27, ↓dhG_M_28, ↓dhg_M_29, ↓dhq_M_29, ↓dhG_M_30, ↓dhG_M_31, ↓dhg_M_32, ↓dhq_M_32, ↓dhg_M_33, ↓dhq_M_33, ↓dhg_M_34, ↓dhq_M_34, ↓dhg_M_35, ↓dhq_M_35, ↓dhG_M_36, ↓dhG_M_37, ↓dhg_M_38, ↓dhq_M_38, ↓dhg_M_39, ↓dhq_M_39, ↓dhG_M_40, ↓dhG_M_41, ↓dhG_M_42, ↓dhG_M_43, ↓dhg_M_44, ↓dhq_M_44, ↓dha_165, ↓dhs_165, ↓dhl_165, ↓dha_181, ↓dhs_181, ↓dhl_181, Option.bind_some, ↓nm_eq, ↓sm_inl, ↓sm_inr, ↓dzo_0, ↓dzo_1, ↓drg_ok, ↓if_pos, ↓if_neg, if_pos, if_neg, if_true, if_false, Int.toNat_natCast, rg_ok, h9.1, hnn, e8, eq1, ↓bnd el, ↓bnd ra0, c2, e16, rs0, ek]
              · rw [if_neg c3]
                simp (disch := omega) only [l_X12_opens_86, b_X12_opens_86, b_X12_opens_144, b_X12_opens_149, b_X12_opens_176, ↓dhi_M, ↓dhG_M_0, ↓dhG_M_1, ↓dhG_M_2, ↓dhG_M_3, ↓dhG_M_4, ↓dhG_M_5, ↓dhG_M_6, ↓dhG_M_7, ↓dhG_M_8, ↓dhg_M_9, ↓dhq_M_9, ↓dhG_M_10, ↓dhG_M_11, ↓dhG_M_12, ↓dhg_M_13, ↓dhq_M_13, ↓dhG_M_14, ↓dhg_M_15, ↓dhq_M_15, ↓dhG_M_16, ↓dhg_M_17, ↓dhq_M_17, ↓dhg_M_18, ↓dhq_M_18, ↓dhG_M_19, ↓dhG_M_20, ↓dhG_M_21, ↓dhG_M_22, ↓dhG_M_23, ↓dhG_M_24, ↓dhg_M_25, ↓dhq_M_25, ↓dhG_M_26, ↓dhG_M_27, ↓dhG_M_28, ↓dhg_M_29, ↓dhq_M_29, ↓dhG_M_30, ↓dhG_M_31, ↓dhg_M_32, ↓dhq_M_32, ↓dhg_M_33, ↓dhq_M_33, ↓dhg_M_34, ↓dhq_M_34, ↓dhg_M_35, ↓dhq_M_35, ↓dhG_M_36, ↓dhG_M_37, ↓dhg_M_38, ↓dhq_M_38, ↓dhg_M_39, ↓dhq_M_39, ↓dhG_M_40, ↓dhG_M_41, ↓dhG_M_42, ↓dhG_M_43, ↓dhg_M_44, ↓dhq_M_44, ↓dha_165, ↓dhs_165, ↓dhl_165, ↓dha_181, ↓dhs_181, ↓dhl_181, Option.bind_some, ↓nm_eq, ↓sm_inl, ↓sm_inr, ↓dzo_0, ↓dzo_1, ↓drg_ok, ↓if_pos, ↓if_neg, if_pos, if_neg, if_true, if_false, Int.toNat_natCast, rg_ok, h9.1, hnn, e8, eq1, ↓bnd el, ↓bnd ra0, c2, e16, rs0, ek]
            · rw [if_neg c2]
              simp (disch := omega) only [l_X12_opens_86, b_X12_opens_86, b_X12_opens_144, b_X12_opens_149, b_X12_opens_176, ↓dhi_M, ↓dhG_M_0, ↓dhG_M_1, ↓dhG_M_2, ↓dhG_M_3, ↓dhG_M_4, ↓dhG_M_5, ↓dhG_M_6, ↓dhG_M_7, ↓dhG_M_8, ↓dhg_M_9, ↓dhq_M_9, ↓dhG_M_10, ↓dhG_M_11, ↓dhG_M_12, ↓dhg_M_13, ↓dhq_M_13, ↓dhG_M_14, ↓dhg_M_15, ↓dhq_M_15, ↓dhG_M_16, ↓dhg_M_17, ↓dhq_M_17, ↓dhg_M_18, ↓dhq_M_18, ↓dhG_M_19, ↓dhG_M_20, ↓dhG_M_21, ↓dhG_M_22, ↓dhG_M_23, ↓dhG_M_24, ↓dhg_M_25, ↓dhq_M_25, ↓dhG_M_26, ↓dhG_M_27, ↓dhG_M_28, ↓dhg_M_29, ↓dhq_M_29, ↓dhG_M_30, ↓dhG_M_31, ↓dhg_M_32, ↓dhq_M_32, ↓dhg_M_33, ↓dhq_M_33, ↓dhg_M_34, ↓dhq_M_34, ↓dhg_M_35, ↓dhq_M_35, ↓dhG_M_36, ↓dhG_M_37, ↓dhg_M_38, ↓dhq_M_38, ↓dhg_M_39, ↓dhq_M_39, ↓dhG_M_40, ↓dhG_M_41, ↓dhG_M_42, ↓dhG_M_43, ↓dhg_M_44, ↓dhq_M_44, ↓dha_165, ↓dhs_165, ↓dhl_165, ↓dha_181, ↓dhs_181, ↓dhl_181, Option.bind_some, ↓nm_eq, ↓sm_inl, ↓sm_inr, ↓dzo_0, ↓dzo_1, ↓drg_ok, ↓if_pos, ↓if_neg, if_pos, if_neg, if_true, if_false, Int.toNat_natCast, rg_ok, h9.1, hnn, e8, eq1, ↓bnd el, ↓bnd ra0, e16, rs0, ek]
          · dsimp only; rw [gu_at_ne (by unfold ar; omega)]; exact f2 x hx
          · dsimp only
            rcases w4 with ⟨z1, z2⟩ | ⟨z1, z2⟩
            · rw [if_pos z1, z2]
              rcases f6 with ⟨y1, y2, y3⟩ | ⟨y1, y2⟩
              · left
                refine ⟨by rw [if_pos y1], y2, fun q' hq' hc t ht => ?_⟩
                by_cases e : q' = q
                · rw [e]
                  have := w3 t ((hmb t).mpr ht)
                  rw [z2, y2] at this; exact this
                · exact y3 q' (by omega) hc t ht
              · right; exact ⟨by rw [if_neg (by omega)], y2⟩
            · rw [if_neg z1]
              right
              refine ⟨by split <;> rfl, ?_⟩
              rcases f6 with ⟨y1, y2, y3⟩ | ⟨y1, y2⟩
              · rw [← y2]; exact z2
              · exact Nat.lt_trans y2 z2
        · have hz : gx_u J A (ar g o q 0) (gi_or (J A (ar g o q 0)) 0) = J := by rw [or_0 hok, gu_id]
          refine ⟨(fl, J), ?_, f1', f2, f4, f5, ?_⟩
          · dsimp only
            by_cases c2 : fl = 0
            · simp (disch := omega) only [l_X12_opens_86, b_X12_opens_86, b_X12_opens_148, b_X12_opens_149, b_X12_opens_176, ↓dhi_M, ↓dhG_M_0, ↓dhG_M_1, ↓dhG_M_2, ↓dhG_M_3, ↓dhG_M_4, ↓dhG_M_5, ↓dhG_M_6, ↓dhG_M_7, ↓dhG_M_8, ↓dhg_M_9, ↓dhq_M_9, ↓dhG_M_10, ↓dhG_M_11, ↓dhG_M_12, ↓dhg_M_13, ↓dhq_M_13, ↓dhG_M_14, ↓dhg_M_15, ↓dhq_M_15, ↓dhG_M_16, ↓dhg_M_17, ↓dhq_M_17, ↓dhg_M_18, ↓dhq_M_18, ↓dhG_M_19, ↓dhG_M_20, ↓dhG_M_21, ↓dhG_M_22, ↓dhG_M_23, ↓dhG_M_24, ↓dhg_M_25, ↓dhq_M_25, ↓dhG_M_26, ↓dhG_M_27, ↓dhG_M_28, ↓dhg_M_29, ↓dhq_M_29, ↓dhG_M_30, ↓dhG_M_31, ↓dhg_M_32, ↓dhq_M_32, ↓dhg_M_33, ↓dhq_M_33, ↓dhg_M_34, ↓dhq_M_34, ↓dhg_M_35, ↓dhq_M_35, ↓dhG_M_36, ↓dhG_M_37, ↓dhg_M_38, ↓dhq_M_38, ↓dhg_M_39, ↓dhq_M_39, ↓dhG_M_40, ↓dhG_M_41, ↓dhG_M_42, ↓dhG_M_43, ↓dhg_M_44, ↓dhq_M_44, ↓dha_165, ↓dhs_165, ↓dhl_165, ↓dha_181, ↓dhs_181, ↓dhl_181, Option.bind_some, ↓nm_eq, ↓sm_inl, ↓sm_inr, ↓dzo_0, ↓dzo_1, ↓drg_ok, ↓if_pos, ↓if_neg, if_pos, if_neg, if_true, if_false, Int.toNat_natCast, rg_ok, h9.1, hnn, e8, eq1, ↓bnd el, ↓bnd ra0, c2, e16, rs0, hz, ek]
            · have c3 : fl = 1 := hfl.elim (fun z => absurd z c2) id
              simp (disch := omega) only [l_X12_opens_86, b_X12_opens_86, b_X12_opens_144, b_X12_opens_149, b_X12_opens_176, ↓dhi_M, ↓dhG_M_0, ↓dhG_M_1, ↓dhG_M_2, ↓dhG_M_3, ↓dhG_M_4, ↓dhG_M_5, ↓dhG_M_6, ↓dhG_M_7, ↓dhG_M_8, ↓dhg_M_9, ↓dhq_M_9, ↓dhG_M_10, ↓dhG_M_11, ↓dhG_M_12, ↓dhg_M_13, ↓dhq_M_13, ↓dhG_M_14, ↓dhg_M_15, ↓dhq_M_15, ↓dhG_M_16, ↓dhg_M_17, ↓dhq_M_17, ↓dhg_M_18, ↓dhq_M_18, ↓dhG_M_19, ↓dhG_M_20, ↓dhG_M_21, ↓dhG_M_22, ↓dhG_M_23, ↓dhG_M_24, ↓dhg_M_25, ↓dhq_M_25, ↓dhG_M_26, ↓dhG_M_27, ↓dhG_M_28, ↓dhg_M_29, ↓dhq_M_29, ↓dhG_M_30, ↓dhG_M_31, ↓dhg_M_32, ↓dhq_M_32, ↓dhg_M_33, ↓dhq_M_33, ↓dhg_M_34, ↓dhq_M_34, ↓dhg_M_35, ↓dhq_M_35, ↓dhG_M_36, ↓dhG_M_37, ↓dhg_M_38, ↓dhq_M_38, ↓dhg_M_39, ↓dhq_M_39, ↓dhG_M_40, ↓dhG_M_41, ↓dhG_M_42, ↓dhG_M_43, ↓dhg_M_44, ↓dhq_M_44, ↓dha_165, ↓dhs_165, ↓dhl_165, ↓dha_181, ↓dhs_181, ↓dhl_181, Option.bind_some, ↓nm_eq, ↓sm_inl, ↓sm_inr, ↓dzo_0, ↓dzo_1, ↓drg_ok, ↓if_pos, ↓if_neg, if_pos, if_neg, if_true, if_false, Int.toNat_natCast, rg_ok, h9.1, hnn, e8, eq1, ↓bnd el, ↓bnd ra0, c3, e16, rs0, hz, ek]
          · rcases f6 with ⟨y1, y2, y3⟩ | y
            · left
              refine ⟨y1, y2, fun q' hq' hc t ht => ?_⟩
              by_cases e : q' = q
              · rw [e] at hc; exact absurd hc c
              · exact y3 q' (by omega) hc t ht
            · exact Or.inr y
      · rintro f ⟨fl, J⟩ ⟨f1', f2, f4, f5, f6⟩
        dsimp only at f1' f2 f4 f5 f6 ⊢
        obtain ⟨wJ, uJ⟩ := hfrA J f1'
        have h9 := re_w wJ.1
        have hnn := re_n wJ.1
        have hfl : fl = 0 ∨ fl = 1 := by rcases f6 with z | z <;> omega
        refine ⟨fl, J, ?_, f1', f2, f4, f5, ?_⟩
        · simp (disch := omega) only [l_X12_opens_86, b_X12_opens_86, ↓dhi_M, ↓dhG_M_0, ↓dhG_M_1, ↓dhG_M_2, ↓dhG_M_3, ↓dhG_M_4, ↓dhG_M_5, ↓dhG_M_6, ↓dhG_M_7, ↓dhG_M_8, ↓dhg_M_9, ↓dhq_M_9, ↓dhG_M_10, ↓dhG_M_11, ↓dhG_M_12, ↓dhg_M_13, ↓dhq_M_13, ↓dhG_M_14, ↓dhg_M_15, ↓dhq_M_15, ↓dhG_M_16, ↓dhg_M_17, ↓dhq_M_17, ↓dhg_M_18, ↓dhq_M_18, ↓dhG_M_19, ↓dhG_M_20, ↓dhG_M_21, ↓dhG_M_22, ↓dhG_M_23, ↓dhG_M_24, ↓dhg_M_25, ↓dhq_M_25, ↓dhG_M_26, ↓dhG_M_27, ↓dhG_M_28, ↓dhg_M_29, ↓dhq_M_29, ↓dhG_M_30, ↓dhG_M_31, ↓dhg_M_32, ↓dhq_M_32, ↓dhg_M_33, ↓dhq_M_33, ↓dhg_M_34, ↓dhq_M_34, ↓dhg_M_35, ↓dhq_M_35, ↓dhG_M_36, ↓dhG_M_37, ↓dhg_M_38, ↓dhq_M_38, ↓dhg_M_39, ↓dhq_M_39, ↓dhG_M_40, ↓dhG_M_41, ↓dhG_M_42, ↓dhG_M_43, ↓dhg_M_44, ↓dhq_M_44, ↓dha_165, ↓dhs_165, ↓dhl_165, Option.bind_some, ↓nm_eq, ↓sm_inl, ↓sm_inr, ↓dzo_0, ↓dzo_1, ↓drg_ok, ↓if_pos, ↓if_neg, if_pos, if_neg, if_true, if_false, Int.toNat_natCast, rg_ok, ↓dzo_ok, h9.1, hnn]
        · rcases f6 with ⟨y1, y2, y3⟩ | y
          · exact Or.inl ⟨y1, y2, fun _ _ q hq hc t ht => y3 q hq hc t ht⟩
          · exact Or.inr y
    · refine ⟨0, J0, ?_, Fr.rf, fun _ _ => rfl, hI, fun _ _ _ z => z, Or.inl ⟨rfl, rfl, fun _ _ q hq hc => by omega⟩⟩
      simp (disch := omega) only [f_X12_opens, ↓dhi_M, ↓dhG_M_0, ↓dhG_M_1, ↓dhG_M_2, ↓dhG_M_3, ↓dhG_M_4, ↓dhG_M_5, ↓dhG_M_6, ↓dhG_M_7, ↓dhG_M_8, ↓dhg_M_9, ↓dhq_M_9, ↓dhG_M_10, ↓dhG_M_11, ↓dhG_M_12, ↓dhg_M_13, ↓dhq_M_13, ↓dhG_M_14, ↓dhg_M_15, ↓dhq_M_15, ↓dhG_M_16, ↓dhg_M_17, ↓dhq_M_17, ↓dhg_M_18, ↓dhq_M_18, ↓dhG_M_19, ↓dhG_M_20, ↓dhG_M_21, ↓dhG_M_22, ↓dhG_M_23, ↓dhG_M_24, ↓dhg_M_25, ↓dhq_M_25, ↓dhG_M_26, ↓dhG_M_27, ↓dhG_M_28, ↓dhg_M_29, ↓dhq_M_29, ↓dhG_M_30, ↓dhG_M_31, ↓dhg_M_32, ↓dhq_M_32, ↓dhg_M_33, ↓dhq_M_33, ↓dhg_M_34, ↓dhq_M_34, ↓dhg_M_35, ↓dhq_M_35, ↓dhG_M_36, ↓dhG_M_37, ↓dhg_M_38, ↓dhq_M_38, ↓dhg_M_39, ↓dhq_M_39, ↓dhG_M_40, ↓dhG_M_41, ↓dhG_M_42, ↓dhG_M_43, ↓dhg_M_44, ↓dhq_M_44, ↓dha_181, ↓dhs_181, ↓dhl_181, Option.bind_some, ↓nm_eq, ↓sm_inl, ↓sm_inr, ↓dzo_0, ↓dzo_1, ↓drg_ok, ↓if_pos, ↓if_neg, if_pos, if_neg, if_true, if_false, Int.toNat_natCast, rg_ok, e181, ↓bnd er, ↓bnd es]
  · have c9' : bt (J0 A (ar g o p k)) 9 = false := by cases h : bt (J0 A (ar g o p k)) 9 with
      | true => exact absurd h c9
      | false => rfl
    have n512 := h512.mpr c9'
    refine ⟨0, J0, ?_, Fr.rf, fun _ _ => rfl, hI, fun _ _ _ z => z, Or.inl ⟨rfl, rfl, fun z => absurd z.2 c9⟩⟩
    simp (disch := omega) only [f_X12_opens, ↓dhi_M, ↓dhG_M_0, ↓dhG_M_1, ↓dhG_M_2, ↓dhG_M_3, ↓dhG_M_4, ↓dhG_M_5, ↓dhG_M_6, ↓dhG_M_7, ↓dhG_M_8, ↓dhg_M_9, ↓dhq_M_9, ↓dhG_M_10, ↓dhG_M_11, ↓dhG_M_12, ↓dhg_M_13, ↓dhq_M_13, ↓dhG_M_14, ↓dhg_M_15, ↓dhq_M_15, ↓dhG_M_16, ↓dhg_M_17, ↓dhq_M_17, ↓dhg_M_18, ↓dhq_M_18, ↓dhG_M_19, ↓dhG_M_20, ↓dhG_M_21, ↓dhG_M_22, ↓dhG_M_23, ↓dhG_M_24, ↓dhg_M_25, ↓dhq_M_25, ↓dhG_M_26, ↓dhG_M_27, ↓dhG_M_28, ↓dhg_M_29, ↓dhq_M_29, ↓dhG_M_30, ↓dhG_M_31, ↓dhg_M_32, ↓dhq_M_32, ↓dhg_M_33, ↓dhq_M_33, ↓dhg_M_34, ↓dhq_M_34, ↓dhg_M_35, ↓dhq_M_35, ↓dhG_M_36, ↓dhG_M_37, ↓dhg_M_38, ↓dhq_M_38, ↓dhg_M_39, ↓dhq_M_39, ↓dhG_M_40, ↓dhG_M_41, ↓dhG_M_42, ↓dhG_M_43, ↓dhg_M_44, ↓dhq_M_44, ↓dha_181, ↓dhs_181, ↓dhl_181, Option.bind_some, ↓nm_eq, ↓sm_inl, ↓sm_inr, ↓dzo_0, ↓dzo_1, ↓drg_ok, ↓if_pos, ↓if_neg, if_pos, if_neg, if_true, if_false, Int.toNat_natCast, rg_ok, e181, ↓bnd er, ↓bnd es, n512]
end RM
