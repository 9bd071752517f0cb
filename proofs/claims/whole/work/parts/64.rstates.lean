/-! ===== the least sets by name; the reference: states ===== -/
def zN (g : GT) : Nat → Prop := fun a => ∀ N' F', cl1 g N' F' → N' a
def zF (g : GT) : Nat → Nat → Prop := fun a t => ∀ N' F', cl1 g N' F' → F' a t
def zB (g : GT) : Nat → Nat → Prop := fun a t => ∀ B', cl2 g (zN g) (zF g) B' → B' a t
theorem zN_of {g : GT} {N : Nat → Prop} {F : Nat → Nat → Prop} (h : ls1 g N F) : N = zN g ∧ F = zF g :=
  ⟨by funext a; exact propext ⟨fun z N' F' c => (h.2 N' F' c).1 a z, fun z => z N F h.1⟩, by funext a t; exact propext ⟨fun z N' F' c => (h.2 N' F' c).2 a t z, fun z => z N F h.1⟩⟩
theorem zB_of {g : GT} {B : Nat → Nat → Prop} (h : ls2 g (zN g) (zF g) B) : B = zB g := by
  funext a t; exact propext ⟨fun z B' c => h.2 B' c a t z, fun z => z B h.1⟩
theorem zB_of' {g : GT} {N : Nat → Prop} {F B : Nat → Nat → Prop} (h1 : ls1 g N F) (h : ls2 g N F B) : N = zN g ∧ F = zF g ∧ B = zB g := by
  obtain ⟨rfl, rfl⟩ := zN_of h1
  exact ⟨rfl, rfl, zB_of h⟩
theorem rF_rx {g : GT} {J L : Nat → Nat → Int} (w : RE g J) (h : rF g J L) : RX g (zN g) (zF g) J := by
  obtain ⟨e1, e2⟩ := zN_of h.2.1
  exact ⟨w, h.1, e1, e2⟩
theorem rF_B {g : GT} {J L : Nat → Nat → Int} (h : rF g J L) : rBe J = zB g := (zB_of' h.2.1 h.2.2.2.1).2.2
noncomputable def zS (g : GT) (b : Bool) : BS := FIN g (zN g) (zF g) b
/-- a state's row, as a set -/
noncomputable def zR (g : GT) (b : Bool) (t : Nat) : AS := if b then LBm g (zN g) (zF g) (zS g b) t else CL g (zN g) (zF g) (SK (zS g b) t)
/-- the reference's automaton as it stands -/
def RAT (g : GT) (b : Bool) (J : Nat → Nat → Int) : Prop :=
  (Sb (zS g b) = true ∧ J 161 (mS b) = -2) ∨
  (Sb (zS g b) = false ∧ J 161 (mS b) = (Sn (zS g b) : Int) ∧
    (∀ t, t < Sn (zS g b) → VR g (mA b) (ar g (146 * t)) J ∧ SR g (mA b) (ar g (146 * t)) J = zR g b t) ∧
    ∀ s x, s < Sn (zS g b) → x < 24 → J (mG b) (24 * s + x) = Sm (zS g b) s x)
theorem RAT.fr {g : GT} {b : Bool} {J J' : Nat → Nat → Int} (h : RAT g b J) (e1 : J' 161 (mS b) = J 161 (mS b)) (e2 : J' (mA b) = J (mA b)) (e3 : J' (mG b) = J (mG b)) : RAT g b J' := by
  rcases h with ⟨a, c⟩ | ⟨a, c, d, e⟩
  · exact Or.inl ⟨a, e1.trans c⟩
  · refine Or.inr ⟨a, e1.trans c, fun t ht => ?_, fun s x hs hx => by rw [e3]; exact e s x hs hx⟩
    obtain ⟨d1, d2⟩ := d t ht
    exact ⟨VR_fr (fun p k _ => by rw [e2]) d1, by rw [SR_fr (J := J) (fun p k _ => by rw [e2])]; exact d2⟩
/-- facts of the reference: found before or not -/
def RFD (g : GT) (J L : Nat → Nat → Int) : Prop := J 161 33 = 0 ∨ (J 161 33 = 1 ∧ rF g J L)
def RAD (g : GT) (b : Bool) (J : Nat → Nat → Int) : Prop := J 161 (mF b) = 0 ∨ (J 161 (mF b) = 1 ∧ RAT g b J)
section ST_
variable {u : Nat} {n : Nat} {L : Nat → Nat → Int} {g : GT}
theorem X12_found (hn : 1000000000000000000000000000000 ≤ n) {J0 : Nat → Nat → Int} (w : RE g J0) (h : RFD g J0 L) :
    ∃ J K : Nat → Nat → Int, f_X12_finds n 161 (hp u J0 L) = some (hp u J K) ∧ Fr [176, 177, 178, 180, 161] J0 J ∧ Fr [179] L K ∧ (∀ k, k ≠ 18 → k ≠ 33 → J 161 k = J0 161 k) ∧ J 161 33 = 1 ∧ rF g J K ∧ RE g J := by
  obtain ⟨J, K, e, f, fk, q, q33, hF⟩ := X12_finds (u := u) hn w h
  exact ⟨J, K, e, f, fk, q, q33, hF, w.fr f (q 9 (by decide) (by decide)) (by decide)⟩
theorem X12_makes (hn : 1000000000000000000000000000000 ≤ n) {b : Bool} {J0 : Nat → Nat → Int} (w : RE g J0) (h : RFD g J0 L) :
    ∃ (r : Int) (J K : Nat → Nat → Int), f_X12_makes n 161 (mA b) (mG b) (if b then 1 else 0) (hp u J0 L) = some (r, hp u J K) ∧ Fr ([176, 177, 178, 180, 161, 181, 182] ++ [mA b, mG b]) J0 J ∧ Fr [179] L K ∧ (∀ k, k ≠ 18 → k ≠ 33 → k ≠ 25 → J 161 k = J0 161 k) ∧ J 161 33 = 1 ∧ rF g J K ∧ RE g J ∧ NU g J ∧
      ((Sb (zS g b) = true ∧ r = -2) ∨ (Sb (zS g b) = false ∧ r = (Sn (zS g b) : Int) ∧ RBI g (zN g) (zF g) b 1920 J)) := by
  obtain ⟨J1, K, e1, f1, fk, q1, q33, hF, w1⟩ := X12_found (u := u) hn w h
  obtain ⟨J2, e2, f2, q2, u2⟩ := X12_numbers (u := u) (L := K) hn w1
  have w2 : RE g J2 := w1.fr f2 (q2 9 (by decide)) (by decide)
  have hF2 : rF g J2 K := rF_fr (f2 176 (by decide)) (f2 177 (by decide)) (f2 178 (by decide)) (f2 180 (by decide)) (q2 18 (by decide)) rfl hF
  have x2 : RX g (zN g) (zF g) J2 := rF_rx w2 hF2
  obtain ⟨r, J3, e3, f3, h3⟩ := X12_makes0 (u := u) (L := K) (b := b) hn x2 u2
  obtain ⟨x3, u3⟩ := fA_fr x2 u2 f3
  have hA : ∀ a, a ∉ fA b → J3 a = J2 a := fun a ha => f3 a ha
  have n161 : J3 161 = J2 161 := f3 161 (by cases b <;> decide)
  have hF3 : rF g J3 K := rF_fr (f3 176 (by cases b <;> decide)) (f3 177 (by cases b <;> decide)) (f3 178 (by cases b <;> decide)) (f3 180 (by cases b <;> decide)) (by rw [n161]) rfl hF2
  refine ⟨r, J3, K, ?_, ?_, fk, fun k h1 h2 h3 => by rw [n161, q2 k h3, q1 k h1 h2], by rw [n161, q2 33 (by decide), q33], hF3, x3.1, u3, h3⟩
  · rw [← e3]
    simp (disch := omega) only [f_X12_makes, ↓dhi_M, ↓dhG_M_0, ↓dhG_M_1, ↓dhG_M_2, ↓dhG_M_3, ↓dhG_M_4, ↓dhG_M_5, ↓dhG_M_6, ↓dhG_M_7, ↓dhG_M_8, ↓dhg_M_9, ↓dhq_M_9, ↓dhG_M_10, ↓dhG_M_11, ↓dhG_M_12, ↓dhg_M_13, ↓dhq_M_13, ↓dhG_M_14, ↓dhg_M_15, ↓dhq_M_15, ↓dhG_M_16, ↓dhg_M_17, ↓dhq_M_17, ↓dhg_M_18, ↓dhq_M_18, ↓dhG_M_19, ↓dhG_M_20, ↓dhG_M_21, ↓dhG_M_22, ↓dhG_M_23, ↓dhG_M_24, ↓dhg_M_25, ↓dhq_M_25, ↓dhG_M_26, ↓dhG_M_27, ↓dhG_M_28, ↓dhg_M_29, ↓dhq_M_29, ↓dhG_M_30, ↓dhG_M_31, ↓dhg_M_32, ↓dhq_M_32, ↓dhg_M_33, ↓dhq_M_33, ↓dhg_M_34, ↓dhq_M_34, ↓dhg_M_35, ↓dhq_M_35, ↓dhG_M_36, ↓dhG_M_37, ↓dhg_M_38, ↓dhq_M_38, ↓dhg_M_39, ↓dhq_M_39, ↓dhG_M_40, ↓dhG_M_41, ↓dhG_M_42, ↓dhG_M_43, ↓dhg_M_44, ↓dhq_M_44, Option.bind_some, ↓nm_eq, ↓sm_inl, ↓sm_inr, ↓dzo_0, ↓dzo_1, ↓drg_ok, ↓if_pos, ↓if_neg, if_pos, if_neg, if_true, if_false, Int.toNat_natCast, rg_ok, ↓bnd e1, ↓bnd e2]
  · refine ((f1.up (fun a z => ?_)).tr (f2.up (fun a z => ?_))).tr (f3.up (fun a z => ?_))
    · simp at z ⊢; omega
    · simp at z ⊢; omega
    · unfold fA at z; simp at z ⊢; omega
theorem X12_wholes (hn : 1000000000000000000000000000000 ≤ n) {J0 : Nat → Nat → Int} (w : RE g J0) (h : RFD g J0 L) (hD : RAD g false J0) :
    ∃ J K : Nat → Nat → Int, f_X12_wholes n 161 (hp u J0 L) = some (hp u J K) ∧ Fr [176, 177, 178, 180, 161, 181, 182, 185, 186] J0 J ∧ Fr [179] L K ∧ (∀ k, k ≠ 18 → k ≠ 33 → k ≠ 25 → k ≠ 32 → k ≠ 35 → J 161 k = J0 161 k) ∧ J 161 35 = 1 ∧ RE g J ∧ RAT g false J ∧
      ((J 161 33 = 1 ∧ rF g J K ∧ NU g J) ∨ (J = J0 ∧ K = L)) := by
  rcases hD with hz | ⟨hz, hR⟩
  · have hz' : J0 161 35 = 0 := hz
    have w0 : RE g (gx_u J0 161 35 1) := w.fr (l := [161]) (Fr.rf.wr (by simp)) (gu_at_ne (by decide)) (by decide)
    have h0 : RFD g (gx_u J0 161 35 1) L := by
      rcases h with q | ⟨q, hF⟩
      · exact Or.inl (by rw [gu_at_ne (by decide)]; exact q)
      · exact Or.inr ⟨by rw [gu_at_ne (by decide)]; exact q, rF_fr (gu_ne (by decide)) (gu_ne (by decide)) (gu_ne (by decide)) (gu_ne (by decide)) (gu_at_ne (by decide)) rfl hF⟩
    obtain ⟨r, J, K, e, f, fk, q, q33, hF, wJ, uJ, hr⟩ := X12_makes (u := u) (b := false) hn w0 h0
    have e' : f_X12_makes n 161 185 186 0 (hp u (gx_u J0 161 35 1) L) = some (r, hp u J K) := e
    have f' : Fr [176, 177, 178, 180, 161, 181, 182, 185, 186] (gx_u J0 161 35 1) J := f
    have hr80 : -2 ≤ r ∧ r ≤ 80 := by
      rcases hr with ⟨-, z⟩ | ⟨-, z, -⟩
      · omega
      · have : Sn (zS g false) ≤ 80 := (PB_bfi (N := zN g) (F := zF g) (b := false) w.gr 1920).2.1
        omega
    have n32 : ∀ k, k ≠ 32 → gx_u J 161 32 r 161 k = J 161 k := fun k hk => gu_at_ne hk
    refine ⟨gx_u J 161 32 r, K, ?_, ((Fr.rf.wr (by simp)).tr f').wr (by simp), fk, fun k h1 h2 h3 h4 h5 => by rw [n32 k h4, q k h1 h2 h3, gu_at_ne h5], by rw [n32 35 (by decide), q 35 (by decide) (by decide) (by decide), gu_at_eq rfl], wJ.fr (l := [161]) (Fr.rf.wr (by simp)) (n32 9 (by decide)) (by decide), ?_, Or.inl ⟨by rw [n32 33 (by decide)]; exact q33, rF_fr (gu_ne (by decide)) (gu_ne (by decide)) (gu_ne (by decide)) (gu_ne (by decide)) (n32 18 (by decide)) rfl hF, uJ.fr (gu_ne (by decide)) (n32 25 (by decide))⟩⟩
    · simp (disch := omega) only [f_X12_wholes, ↓dhi_M, ↓dhG_M_0, ↓dhG_M_1, ↓dhG_M_2, ↓dhG_M_3, ↓dhG_M_4, ↓dhG_M_5, ↓dhG_M_6, ↓dhG_M_7, ↓dhG_M_8, ↓dhg_M_9, ↓dhq_M_9, ↓dhG_M_10, ↓dhG_M_11, ↓dhG_M_12, ↓dhg_M_13, ↓dhq_M_13, ↓dhG_M_14, ↓dhg_M_15, ↓dhq_M_15, ↓dhG_M_16, ↓dhg_M_17, ↓dhq_M_17, ↓dhg_M_18, ↓dhq_M_18, ↓dhG_M_19, ↓dhG_M_20, ↓dhG_M_21, ↓dhG_M_22, ↓dhG_M_23, ↓dhG_M_24, ↓dhg_M_25, ↓dhq_M_25, ↓dhG_M_26, ↓dhG_M_27, ↓dhG_M_28, ↓dhg_M_29, ↓dhq_M_29, ↓dhG_M_30, ↓dhG_M_31, ↓dhg_M_32, ↓dhq_M_32, ↓dhg_M_33, ↓dhq_M_33, ↓dhg_M_34, ↓dhq_M_34, ↓dhg_M_35, ↓dhq_M_35, ↓dhG_M_36, ↓dhG_M_37, ↓dhg_M_38, ↓dhq_M_38, ↓dhg_M_39, ↓dhq_M_39, ↓dhG_M_40, ↓dhG_M_41, ↓dhG_M_42, ↓dhG_M_43, ↓dhg_M_44, ↓dhq_M_44, Option.bind_some, ↓nm_eq, ↓sm_inl, ↓sm_inr, ↓dzo_0, ↓dzo_1, ↓drg_ok, ↓if_pos, ↓if_neg, if_pos, if_neg, if_true, if_false, Int.toNat_natCast, rg_ok, ↓bnd e', hz']
    · rcases hr with ⟨z1, z2⟩ | ⟨z1, z2, z3⟩
      · exact Or.inl ⟨z1, by show gx_u J 161 32 r 161 32 = -2; rw [gu_at_eq rfl]; exact z2⟩
      · right
        refine ⟨z1, by show gx_u J 161 32 r 161 32 = _; rw [gu_at_eq rfl]; exact z2, fun t ht => ?_, fun s x hs hx => ?_⟩
        · obtain ⟨y1, y2⟩ := z3.2.1 t ht
          refine ⟨VR_fr (fun p k _ => by rw [gu_ne (show (mA false) ≠ 161 by decide)]) y1, ?_⟩
          rw [SR_fr (J := J) (fun p k _ => by rw [gu_ne (show (mA false) ≠ 161 by decide)])]
          exact y2.1 rfl
        · rw [gu_ne (show (mG false) ≠ 161 by decide)]
          have hs80 : s < 80 := Nat.lt_of_lt_of_le hs (PB_bfi (N := zN g) (F := zF g) (b := false) w.gr 1920).2.1
          exact z3.2.2.2 s x hs hx (by omega)
  · have hz' : J0 161 35 = 1 := hz
    refine ⟨J0, L, ?_, Fr.rf, Fr.rf, fun _ _ _ _ _ _ => rfl, hz', w, hR, Or.inr ⟨rfl, rfl⟩⟩
    simp (disch := omega) only [f_X12_wholes, ↓dhi_M, ↓dhG_M_0, ↓dhG_M_1, ↓dhG_M_2, ↓dhG_M_3, ↓dhG_M_4, ↓dhG_M_5, ↓dhG_M_6, ↓dhG_M_7, ↓dhG_M_8, ↓dhg_M_9, ↓dhq_M_9, ↓dhG_M_10, ↓dhG_M_11, ↓dhG_M_12, ↓dhg_M_13, ↓dhq_M_13, ↓dhG_M_14, ↓dhg_M_15, ↓dhq_M_15, ↓dhG_M_16, ↓dhg_M_17, ↓dhq_M_17, ↓dhg_M_18, ↓dhq_M_18, ↓dhG_M_19, ↓dhG_M_20, ↓dhG_M_21, ↓dhG_M_22, ↓dhG_M_23, ↓dhG_M_24, ↓dhg_M_25, ↓dhq_M_25, ↓dhG_M_26, ↓dhG_M_27, ↓dhG_M_28, ↓dhg_M_29, ↓dhq_M_29, ↓dhG_M_30, ↓dhG_M_31, ↓dhg_M_32, ↓dhq_M_32, ↓dhg_M_33, ↓dhq_M_33, ↓dhg_M_34, ↓dhq_M_34, ↓dhg_M_35, ↓dhq_M_35, ↓dhG_M_36, ↓dhG_M_37, ↓dhg_M_38, ↓dhq_M_38, ↓dhg_M_39, ↓dhq_M_39, ↓dhG_M_40, ↓dhG_M_41, ↓dhG_M_42, ↓dhG_M_43, ↓dhg_M_44, ↓dhq_M_44, Option.bind_some, ↓nm_eq, ↓sm_inl, ↓sm_inr, ↓dzo_0, ↓dzo_1, ↓drg_ok, ↓if_pos, ↓if_neg, if_pos, if_neg, if_true, if_false, Int.toNat_natCast, rg_ok, hz']
theorem X12_merges (hn : 1000000000000000000000000000000 ≤ n) {J0 : Nat → Nat → Int} (w : RE g J0) (h : RFD g J0 L) (hD : RAD g true J0) :
    ∃ J K : Nat → Nat → Int, f_X12_merges n 161 (hp u J0 L) = some (hp u J K) ∧ Fr [176, 177, 178, 180, 161, 181, 182, 183, 184] J0 J ∧ Fr [179] L K ∧ (∀ k, k ≠ 18 → k ≠ 33 → k ≠ 25 → k ≠ 29 → k ≠ 34 → J 161 k = J0 161 k) ∧ J 161 34 = 1 ∧ RE g J ∧ RAT g true J ∧ RFD g J K := by
  rcases hD with hz | ⟨hz, hR⟩
  · have hz' : J0 161 34 = 0 := hz
    have w0 : RE g (gx_u J0 161 34 1) := w.fr (l := [161]) (Fr.rf.wr (by simp)) (gu_at_ne (by decide)) (by decide)
    have h0 : RFD g (gx_u J0 161 34 1) L := by
      rcases h with q | ⟨q, hF⟩
      · exact Or.inl (by rw [gu_at_ne (by decide)]; exact q)
      · exact Or.inr ⟨by rw [gu_at_ne (by decide)]; exact q, rF_fr (gu_ne (by decide)) (gu_ne (by decide)) (gu_ne (by decide)) (gu_ne (by decide)) (gu_at_ne (by decide)) rfl hF⟩
    obtain ⟨r, J, K, e, f, fk, q, q33, hF, wJ, uJ, hr⟩ := X12_makes (u := u) (b := true) hn w0 h0
    have e' : f_X12_makes n 161 183 184 1 (hp u (gx_u J0 161 34 1) L) = some (r, hp u J K) := e
    have f' : Fr [176, 177, 178, 180, 161, 181, 182, 183, 184] (gx_u J0 161 34 1) J := f
    have n29 : ∀ k, k ≠ 29 → gx_u J 161 29 r 161 k = J 161 k := fun k hk => gu_at_ne hk
    have w2 : RE g (gx_u J 161 29 r) := wJ.fr (l := [161]) (Fr.rf.wr (by simp)) (n29 9 (by decide)) (by decide)
    have hF2 : rF g (gx_u J 161 29 r) K := rF_fr (gu_ne (by decide)) (gu_ne (by decide)) (gu_ne (by decide)) (gu_ne (by decide)) (n29 18 (by decide)) rfl hF
    have u2 : NU g (gx_u J 161 29 r) := uJ.fr (gu_ne (by decide)) (n29 25 (by decide))
    have q2 : gx_u J 161 29 r 161 29 = r := gu_at_eq rfl
    have fJ2 : Fr [176, 177, 178, 180, 161, 181, 182, 183, 184] J0 (gx_u J 161 29 r) := ((Fr.rf.wr (by simp)).tr f').wr (by simp)
    have hfld : ∀ k, k ≠ 18 → k ≠ 33 → k ≠ 25 → k ≠ 29 → k ≠ 34 → gx_u J 161 29 r 161 k = J0 161 k := fun k h1 h2 h3 h4 h5 => by rw [n29 k h4, q k h1 h2 h3, gu_at_ne h5]
    have h34 : gx_u J 161 29 r 161 34 = 1 := by rw [n29 34 (by decide), q 34 (by decide) (by decide) (by decide), gu_at_eq rfl]
    rcases hr with ⟨z1, z2⟩ | ⟨z1, z2, z3⟩
    · obtain ⟨J9, q9⟩ : ∃ J9, J9 = gx_u J 161 29 r := ⟨_, rfl⟩
      have e29 : J9 161 29 = -2 := by rw [q9, q2, z2]
      have el1 : ∀ f, l_X12_merges_32 n (f + 1) 161 0 (hp u J9 K) = some (hp u J9 K) := fun f => by
        simp (disch := omega) only [l_X12_merges_32, b_X12_merges_32, Option.bind_some, ↓nm_eq, ↓sm_inl, ↓sm_inr, ↓dzo_0, ↓dzo_1, ↓drg_ok, ↓if_pos, ↓if_neg, if_pos, if_neg, if_true, if_false, Int.toNat_natCast, rg_ok]
      have el : l_X12_merges_32 n n 161 1 (hp u J9 K) = some (hp u J9 K) := by
        obtain ⟨m, hm⟩ : ∃ m, n = (m + 1) + 1 := ⟨n - 2, by omega⟩
        have c1 : l_X12_merges_40 n (l_X12_merges_32 n (m + 1)) n 161 0 0 (hp u J9 K) = l_X12_merges_32 n (m + 1) 161 0 (hp u J9 K) := by
          have hm' : ∀ r32, l_X12_merges_40 n r32 n 161 0 0 (hp u J9 K) = b_X12_merges_40 n r32 (l_X12_merges_40 n r32 (m + 1)) 161 0 0 (hp u J9 K) := fun r32 => by
            conv => lhs; arg 3; rw [hm]
            rfl
          rw [hm']
          simp (disch := omega) only [b_X12_merges_40, b_X12_merges_85, ↓dhi_M, ↓dhG_M_0, ↓dhG_M_1, ↓dhG_M_2, ↓dhG_M_3, ↓dhG_M_4, ↓dhG_M_5, ↓dhG_M_6, ↓dhG_M_7, ↓dhG_M_8, ↓dhg_M_9, ↓dhq_M_9, ↓dhG_M_10, ↓dhG_M_11, ↓dhG_M_12, ↓dhg_M_13, ↓dhq_M_13, ↓dhG_M_14, ↓dhg_M_15, ↓dhq_M_15, ↓dhG_M_16, ↓dhg_M_17, ↓dhq_M_17, ↓dhg_M_18, ↓dhq_M_18, ↓dhG_M_19, ↓dhG_M_20, ↓dhG_M_21, ↓dhG_M_22, ↓dhG_M_23, ↓dhG_M_24, ↓dhg_M_25, ↓dhq_M_25, ↓dhG_M_26, ↓dhG_M_27, ↓dhG_M_28, ↓dhg_M_29, ↓dhq_M_29, ↓dhG_M_30, ↓dhG_M_31, ↓dhg_M_32, ↓dhq_M_32, ↓dhg_M_33, ↓dhq_M_33, ↓dhg_M_34, ↓dhq_M_34, ↓dhg_M_35, ↓dhq_M_35, ↓dhG_M_36, ↓dhG_M_37, ↓dhg_M_38, ↓dhq_M_38, ↓dhg_M_39, ↓dhq_M_39, ↓dhG_M_40, ↓dhG_M_41, ↓dhG_M_42, ↓dhG_M_43, ↓dhg_M_44, ↓dhq_M_44, Option.bind_some, ↓nm_eq, ↓sm_inl, ↓sm_inr, ↓dzo_0, ↓dzo_1, ↓drg_ok, ↓if_pos, ↓if_neg, if_pos, if_neg, if_true, if_false, Int.toNat_natCast, rg_ok, e29]
        conv => lhs; arg 2; rw [hm]
        rw [← el1 m, ← c1]
        simp (disch := omega) only [l_X12_merges_32, b_X12_merges_32, Option.bind_some, ↓nm_eq, ↓sm_inl, ↓sm_inr, ↓dzo_0, ↓dzo_1, ↓drg_ok, ↓if_pos, ↓if_neg, if_pos, if_neg, if_true, if_false, Int.toNat_natCast, rg_ok]
      refine ⟨J9, K, ?_, by rw [q9]; exact fJ2, fk, fun k h1 h2 h3 h4 h5 => by rw [q9]; exact hfld k h1 h2 h3 h4 h5, by rw [q9]; exact h34, by rw [q9]; exact w2, Or.inl ⟨z1, e29⟩, Or.inr ⟨by rw [q9, n29 33 (by decide)]; exact q33, by rw [q9]; exact hF2⟩⟩
      rw [q9] at el ⊢
      rw [← el]
      simp (disch := omega) only [f_X12_merges, ↓dhi_M, ↓dhG_M_0, ↓dhG_M_1, ↓dhG_M_2, ↓dhG_M_3, ↓dhG_M_4, ↓dhG_M_5, ↓dhG_M_6, ↓dhG_M_7, ↓dhG_M_8, ↓dhg_M_9, ↓dhq_M_9, ↓dhG_M_10, ↓dhG_M_11, ↓dhG_M_12, ↓dhg_M_13, ↓dhq_M_13, ↓dhG_M_14, ↓dhg_M_15, ↓dhq_M_15, ↓dhG_M_16, ↓dhg_M_17, ↓dhq_M_17, ↓dhg_M_18, ↓dhq_M_18, ↓dhG_M_19, ↓dhG_M_20, ↓dhG_M_21, ↓dhG_M_22, ↓dhG_M_23, ↓dhG_M_24, ↓dhg_M_25, ↓dhq_M_25, ↓dhG_M_26, ↓dhG_M_27, ↓dhG_M_28, ↓dhg_M_29, ↓dhq_M_29, ↓dhG_M_30, ↓dhG_M_31, ↓dhg_M_32, ↓dhq_M_32, ↓dhg_M_33, ↓dhq_M_33, ↓dhg_M_34, ↓dhq_M_34, ↓dhg_M_35, ↓dhq_M_35, ↓dhG_M_36, ↓dhG_M_37, ↓dhg_M_38, ↓dhq_M_38, ↓dhg_M_39, ↓dhq_M_39, ↓dhG_M_40, ↓dhG_M_41, ↓dhG_M_42, ↓dhG_M_43, ↓dhg_M_44, ↓dhq_M_44, Option.bind_some, ↓nm_eq, ↓sm_inl, ↓sm_inr, ↓dzo_0, ↓dzo_1, ↓drg_ok, ↓if_pos, ↓if_neg, if_pos, if_neg, if_true, if_false, Int.toNat_natCast, rg_ok, ↓bnd e', hz']
    · have x2 := rF_rx w2 hF2
      have hA : ∀ a, a ≠ 161 → gx_u J 161 29 r a = J a := fun a ha => gu_ne ha
      have r0 : RVM g (zN g) (zF g) (gx_u J 161 29 r) := by
        obtain ⟨-, d1, d2, d3⟩ := z3
        refine ⟨fun t ht => ?_, ?_, fun s x hs hx => ?_⟩
        · obtain ⟨y1, y2⟩ := d1 t ht
          have es : rst g t (gx_u J 161 29 r) = SR g (mA true) (ar g (146 * t)) J := SR_fr (J := J) (fun p k _ => by rw [hA 183 (by decide)])
          refine ⟨VR_fr (fun p k _ => by rw [hA 183 (by decide)]) y1, fun p k => by rw [es]; exact y2.2 rfl p k, by rw [es]; exact (d2 rfl).2 z1 t ht⟩
        · have es : rst g 0 (gx_u J 161 29 r) = SR g (mA true) (ar g (146 * 0)) J := SR_fr (J := J) (fun p k _ => by rw [hA 183 (by decide)])
          rw [es]; exact (d2 rfl).1
        · rw [hA 184 (by decide)]
          have hs80 : s < 80 := Nat.lt_of_lt_of_le hs (PB_bfi (N := zN g) (F := zF g) (b := true) w.gr 1920).2.1
          exact d3 s x hs hx (by omega)
      obtain ⟨J3, e3, f3, h3, d3⟩ := X12_mloop (u := u) (L := K) hn z1 x2 u2 (by rw [q2]; exact z2) r0
      have n161 : J3 161 = gx_u J 161 29 r 161 := f3 161 (by simp)
      refine ⟨J3, K, ?_, fJ2.tr (f3.up (by simp)), fk, fun k h1 h2 h3 h4 h5 => by rw [n161]; exact hfld k h1 h2 h3 h4 h5, by rw [n161]; exact h34, w2.fr f3 (by rw [n161]) (by decide), Or.inr ⟨z1, ?_, fun t ht => ⟨(h3.1 t ht).1, ?_⟩, fun s x hs hx => h3.2.2 s x hs hx⟩, Or.inr ⟨by rw [n161, n29 33 (by decide)]; exact q33, rF_fr (f3 176 (by decide)) (f3 177 (by decide)) (f3 178 (by decide)) (f3 180 (by decide)) (by rw [n161]) rfl hF2⟩⟩
      · rw [← e3]
        have hr80 : -2 ≤ r ∧ r ≤ 80 := by
          have : Sn (zS g true) ≤ 80 := (PB_bfi (N := zN g) (F := zF g) (b := true) w.gr 1920).2.1
          omega
        simp (disch := omega) only [f_X12_merges, ↓dhi_M, ↓dhG_M_0, ↓dhG_M_1, ↓dhG_M_2, ↓dhG_M_3, ↓dhG_M_4, ↓dhG_M_5, ↓dhG_M_6, ↓dhG_M_7, ↓dhG_M_8, ↓dhg_M_9, ↓dhq_M_9, ↓dhG_M_10, ↓dhG_M_11, ↓dhG_M_12, ↓dhg_M_13, ↓dhq_M_13, ↓dhG_M_14, ↓dhg_M_15, ↓dhq_M_15, ↓dhG_M_16, ↓dhg_M_17, ↓dhq_M_17, ↓dhg_M_18, ↓dhq_M_18, ↓dhG_M_19, ↓dhG_M_20, ↓dhG_M_21, ↓dhG_M_22, ↓dhG_M_23, ↓dhG_M_24, ↓dhg_M_25, ↓dhq_M_25, ↓dhG_M_26, ↓dhG_M_27, ↓dhG_M_28, ↓dhg_M_29, ↓dhq_M_29, ↓dhG_M_30, ↓dhG_M_31, ↓dhg_M_32, ↓dhq_M_32, ↓dhg_M_33, ↓dhq_M_33, ↓dhg_M_34, ↓dhq_M_34, ↓dhg_M_35, ↓dhq_M_35, ↓dhG_M_36, ↓dhG_M_37, ↓dhg_M_38, ↓dhq_M_38, ↓dhg_M_39, ↓dhq_M_39, ↓dhG_M_40, ↓dhG_M_41, ↓dhG_M_42, ↓dhG_M_43, ↓dhg_M_44, ↓dhq_M_44, Option.bind_some, ↓nm_eq, ↓sm_inl, ↓sm_inr, ↓dzo_0, ↓dzo_1, ↓drg_ok, ↓if_pos, ↓if_neg, if_pos, if_neg, if_true, if_false, Int.toNat_natCast, rg_ok, ↓bnd e', hz']
      · show J3 161 29 = _
        rw [n161, q2]; exact z2
      · exact don_all w.gr z1 h3 d3 ht
  · have hz' : J0 161 34 = 1 := hz
    refine ⟨J0, L, ?_, Fr.rf, Fr.rf, fun _ _ _ _ _ _ => rfl, hz', w, hR, h⟩
    simp (disch := omega) only [f_X12_merges, ↓dhi_M, ↓dhG_M_0, ↓dhG_M_1, ↓dhG_M_2, ↓dhG_M_3, ↓dhG_M_4, ↓dhG_M_5, ↓dhG_M_6, ↓dhG_M_7, ↓dhG_M_8, ↓dhg_M_9, ↓dhq_M_9, ↓dhG_M_10, ↓dhG_M_11, ↓dhG_M_12, ↓dhg_M_13, ↓dhq_M_13, ↓dhG_M_14, ↓dhg_M_15, ↓dhq_M_15, ↓dhG_M_16, ↓dhg_M_17, ↓dhq_M_17, ↓dhg_M_18, ↓dhq_M_18, ↓dhG_M_19, ↓dhG_M_20, ↓dhG_M_21, ↓dhG_M_22, ↓dhG_M_23, ↓dhG_M_24, ↓dhg_M_25, ↓dhq_M_25, ↓dhG_M_26, ↓dhG_M_27, ↓dhG_M_28, ↓dhg_M_29, ↓dhq_M_29, ↓dhG_M_30, ↓dhG_M_31, ↓dhg_M_32, ↓dhq_M_32, ↓dhg_M_33, ↓dhq_M_33, ↓dhg_M_34, ↓dhq_M_34, ↓dhg_M_35, ↓dhq_M_35, ↓dhG_M_36, ↓dhG_M_37, ↓dhg_M_38, ↓dhq_M_38, ↓dhg_M_39, ↓dhq_M_39, ↓dhG_M_40, ↓dhG_M_41, ↓dhG_M_42, ↓dhG_M_43, ↓dhg_M_44, ↓dhq_M_44, Option.bind_some, ↓nm_eq, ↓sm_inl, ↓sm_inr, ↓dzo_0, ↓dzo_1, ↓drg_ok, ↓if_pos, ↓if_neg, if_pos, if_neg, if_true, if_false, Int.toNat_natCast, rg_ok, hz']
end ST_
