/-! ===== the class: rules admitted, brought, dropped ===== -/
def tl (t : List Int) : Nat → Int := fun j => t.getD j 0
def TL (x : Nat) (J : Nat → Nat → Int) (t : List Int) : Prop := J x 1 = (t.length : Int) ∧ (∀ j, j < t.length → J (x + 1) j = tl t j) ∧ t.length ≤ 24 ∧ ∀ j, j < t.length → tk (tl t j) ≠ 8
theorem TL.tk {x : Nat} {J : Nat → Nat → Int} {t : List Int} (h : TL x J t) : TK x J := by
  obtain ⟨h1, h2, h3, h4⟩ := h
  refine ⟨by omega, fun k hk => ?_⟩
  rw [h2 k (by omega)]; exact h4 k (by omega)
theorem TL.fr {x : Nat} {J K : Nat → Nat → Int} {t : List Int} (h : TL x J t) (e1 : K x = J x) (e2 : K (x + 1) = J (x + 1)) : TL x K t := by
  unfold TL; rw [e1, e2]; exact h
theorem rdm_congr {t t' : Nat → Int} : ∀ (m k : Nat) (b : Bool) (ps : List (Nat × List Nat)) (r : Nat → Int) (H : Nat), (∀ j, k ≤ j → j < k + m → t j = t' j) → rdm t m k b ps r H = rdm t' m k b ps r H
  | 0, _, _, _, _, _, _ => by unfold rdm; rfl
  | m + 1, k, b, ps, r, H, h => by
    have e := h k (Nat.le_refl k) (by omega)
    have ih : ∀ b ps r H, rdm t m (k + 1) b ps r H = rdm t' m (k + 1) b ps r H := fun b ps r H => rdm_congr m (k + 1) b ps r H (fun j h1 h2 => h j (by omega) (by omega))
    cases b <;> unfold rdm <;> simp only [e, ih]
theorem rdr_congr {t t' : Nat → Int} {N : Nat} (hN : 2 ≤ N) (h : ∀ j, j < N → t j = t' j) (ps : List (Nat × List Nat)) (r : Nat → Int) : rdr t N ps r = rdr t' N ps r := by
  unfold rdr
  rw [rdm_congr (N - 2) 2 false ps r 0 (fun j h1 h2 => h j (by omega)), h 0 (by omega)]
theorem rdm_px {t : Nat → Int} : ∀ (m k : Nat) (b : Bool) (ps : List (Nat × List Nat)) (r : Nat → Int) (H : Nat) {q : List (Nat × List Nat) × (Nat → Int) × Nat}, rdm t m k b ps r H = some q → PX ps q.1
  | 0, _, _, _, _, _, q, h => by unfold rdm at h; simp only [Option.some.injEq] at h; subst h; exact PX.rf
  | m + 1, k, true, ps, r, H, q, h => by
    have h' : (match wr ps r H 37 (t k - 97).toNat with | none => none | some q => rdm t m (k + 1) false q.1 q.2 H) = some q := h
    cases e : wr ps r H 37 (t k - 97).toNat with
    | none => rw [e] at h'; exact absurd h' (by simp)
    | some q1 => rw [e] at h'; exact (wr_some e).1.tr (rdm_px m (k + 1) false _ _ _ h')
  | m + 1, k, false, ps, r, H, q, h => by
    unfold rdm at h
    split at h
    · exact rdm_px m (k + 1) false _ _ _ h
    · split at h
      · exact rdm_px m (k + 1) false _ _ _ h
      · split at h
        · exact rdm_px m (k + 1) false _ _ _ h
        · split at h
          · exact rdm_px m (k + 1) false _ _ _ h
          · split at h
            · cases e : cls ps r H with
              | none => rw [e] at h; exact absurd h (by simp)
              | some q1 =>
                rw [e] at h
                cases hl : lo r H with
                | none => unfold cls at e; rw [hl] at e; exact absurd e (by simp)
                | some b => exact (cls_some hl e).1.tr (rdm_px m (k + 1) false _ _ _ h)
            · split at h
              · cases e : wr ps r H (t k) 0 with
                | none => rw [e] at h; exact absurd h (by simp)
                | some q1 => rw [e] at h; exact (wr_some e).1.tr (rdm_px m (k + 1) false _ _ _ h)
              · exact rdm_px m (k + 1) true _ _ _ h
theorem PX.len {a b : List (Nat × List Nat)} (h : PX a b) : a.length ≤ b.length := by
  obtain ⟨t, rfl⟩ := h; simp
def rd0 (t : List Int) (ps : List (Nat × List Nat)) : Option (List (Nat × List Nat)) := rdr (tl t) t.length ps (fun _ => 0)
def vld (t : List Int) : Prop := tf (tl t) t.length t.length 0 0 0 = -1
theorem rd0_px {t : List Int} {ps q : List (Nat × List Nat)} (h : rd0 t ps = some q) : PX ps q ∧ ps.length < q.length := by
  unfold rd0 rdr at h
  cases e : rdm (tl t) (t.length - 2) 2 false ps (fun _ => 0) 0 with
  | none => rw [e] at h; exact absurd h (by simp)
  | some q1 =>
    rw [e] at h
    have h1 := rdm_px _ _ _ _ _ _ e
    have h2 : PX q1.1 q := aa_px _ _ _ _ h
    have h3 : ∀ (m : Nat) (ps : List (Nat × List Nat)) (a k : Nat) (o : Nat) (r : Nat → Int) {q : List (Nat × List Nat)}, aa o r m ps a k = some q → ps.length < q.length := by
      intro m
      induction m with
      | zero =>
        intro ps a k o r q h
        have h' : (if ps.length < 24 ∧ k - a ≤ 5 then some (ps ++ [(o, ch r a k)]) else none) = some q := h
        split at h'
        · simp only [Option.some.injEq] at h'; subst h'; simp
        · exact absurd h' (by simp)
      | succ m ih =>
        intro ps a k o r q h
        have h' : (if r k = -1 then (match ad ps o r a k with | none => none | some ps' => aa o r m ps' (k + 1) (k + 1)) else aa o r m ps a (k + 1)) = some q := h
        split at h'
        · cases e : ad ps o r a k with
          | none => rw [e] at h'; exact absurd h' (by simp)
          | some ps' =>
            rw [e] at h'
            have h1 := ih ps' _ _ _ _ h'
            unfold ad at e
            split at e
            · simp only [Option.some.injEq] at e; subst e; simp at h1; omega
            · exact absurd e (by simp)
        · exact ih ps a (k + 1) o r h'
    exact ⟨h1.tr h2, Nat.lt_of_le_of_lt h1.len (h3 _ _ _ _ _ _ h)⟩
/-- a grammar of the class: productions, rules -/
def CG (v : Nat) (J : Nat → Nat → Int) (ps : List (Nat × List Nat)) (rs : List (Nat × List Int)) : Prop := CP v J ps ∧ J v 6 = (rs.length : Int) ∧ ∀ i, i < rs.length → J (v + 5) i = ((rs.getD i (0, [])).1 : Int) ∧ TL (v + 10 + 2 * i) J (rs.getD i (0, [])).2
def AO (ps : List (Nat × List Nat)) (rs : List (Nat × List Int)) : Prop := ∀ i, i < rs.length → vld (rs.getD i (0, [])).2 ∧ (rs.getD i (0, [])).1 < (if i + 1 < rs.length then (rs.getD (i + 1) (0, [])).1 else ps.length)
theorem AO.lt {ps : List (Nat × List Nat)} {rs : List (Nat × List Int)} (h : AO ps rs) : rs.length ≤ ps.length := by
  have key : ∀ i, i < rs.length → i ≤ (rs.getD i (0, [])).1 := by
    intro i
    induction i with
    | zero => intro _; omega
    | succ i ih =>
      intro hi
      have h1 := (h i (by omega)).2
      rw [if_pos hi] at h1
      have := ih (by omega); omega
  by_cases e : rs.length = 0
  · omega
  · have h1 := (h (rs.length - 1) (by omega)).2
    rw [if_neg (by omega)] at h1
    have := key (rs.length - 1) (by omega); omega
/-- nothing outside of the grammar at v, and its start, has changed -/
def FG (v : Nat) (J K : Nat → Nat → Int) : Prop := (∀ a, a < v ∨ v + 58 ≤ a → K a = J a) ∧ K v 7 = J v 7
theorem FG.rf {v : Nat} {I : Nat → Nat → Int} : FG v I I := ⟨fun _ _ => rfl, rfl⟩
theorem FG.tr {v : Nat} {I J K : Nat → Nat → Int} (h : FG v I J) (q : FG v J K) : FG v I K := ⟨fun a ha => (q.1 a ha).trans (h.1 a ha), q.2.trans h.2⟩
theorem FG.of {v : Nat} {l : List Nat} {J K : Nat → Nat → Int} (h : Fr l J K) (q : ∀ a, a ∈ l → v ≤ a ∧ a < v + 58) (h7 : K v 7 = J v 7) : FG v J K := ⟨fun a ha => h a (fun z => by have := q a z; omega), h7⟩
theorem FD.fg {v : Nat} {J K : Nat → Nat → Int} (h : FD v J K) : FG v J K := FG.of h.1 (fun a q => by simp at q; omega) (h.2 7 (by decide))
theorem CP.cut {v : Nat} {J : Nat → Nat → Int} {ps : List (Nat × List Nat)} {c : Nat} (h : CP v J ps) (hc : c ≤ ps.length) : CP v (gx_u J v 3 (c : Int)) (ps.take c) := by
  obtain ⟨w, h1, h2⟩ := h
  have w3 := w.1
  have hl : (ps.take c).length = c := by simp; omega
  refine ⟨⟨?_, ?_, ?_, fun k => ?_, fun k => ?_, fun k => ?_⟩, ?_, fun p hp => ?_⟩
  · rw [gu_at_eq rfl]; omega
  · rw [gu_at_ne (by decide)]; exact w.2.1
  · rw [gu_at_ne (by decide)]; exact w.2.2.1
  · rw [gu_ne (by omega)]; exact w.2.2.2.1 k
  · rw [gu_ne (by omega)]; exact w.2.2.2.2.1 k
  · rw [gu_ne (by omega)]; exact w.2.2.2.2.2 k
  · rw [gu_at_eq rfl, hl]
  · rw [hl] at hp
    have e : (ps.take c).getD p (0, []) = ps.getD p (0, []) := by simp [List.getD_eq_getElem?_getD, List.getElem?_take, hp]
    rw [e, gu_ne (by omega), gu_ne (by omega), gu_ne (by omega)]
    exact h2 p (by omega)
theorem gD_t {α : Type} {d : α} {l : List α} {c i : Nat} (h : i < c) : (l.take c).getD i d = l.getD i d := by
  rw [List.getD_eq_getElem?_getD, List.getD_eq_getElem?_getD, List.getElem?_take, if_pos h]
theorem take_px {a b : List (Nat × List Nat)} (h : PX a b) : b.take a.length = a := by
  obtain ⟨t, rfl⟩ := h; simp
theorem gT_mem {v i : Nat} (hv : v ∈ [3, 87]) (hi : i < 24) : v + 10 + 2 * i ∈ gTX := by
  have key : ∀ v ∈ [3, 87], ∀ i, i < 24 → v + 10 + 2 * i ∈ gTX := by decide
  exact key v hv i hi
theorem gT_ref {v i u : Nat} (hv : v ∈ [3, 87]) (hi : i < 24) : hR u (v + 4) i = some (v + 10 + 2 * i) := by
  have key : ∀ v ∈ [3, 87], ∀ i, i < 24 → (v + 4, i, v + 10 + 2 * i) ∈ h0R ∧ ¬ (v + 4 = 0 ∧ i = 1) ∧ ¬ (v + 4 = 0 ∧ i = 2) ∧ ¬ (v + 4 = 64 ∧ i = 0) := by decide
  obtain ⟨k1, k2, k3, k4⟩ := key v hv i hi
  unfold hR
  rw [if_neg k2, if_neg k3, if_neg k4]
  exact h0_R _ k1
section GE
variable {u : Nat} {n : Nat} {L : Nat → Nat → Int}
theorem X4_admit (hn : 1000000000000000000000000000000 ≤ n) {v : Nat} (hv : v ∈ [3, 87]) {J : Nat → Nat → Int} {ps : List (Nat × List Nat)} {rs : List (Nat × List Int)} (h : CG v J ps rs) (ha : AO ps rs) {x : Nat} (hx : x = 1 ∨ x = v + 6) {t : List Int} (hT : TL x J t) (hf : vld t) :
    (∃ ps' J', rd0 t ps = some ps' ∧ f_X4_admit n v x (hp u J L) = some (1, hp u J' L) ∧ FG v J J' ∧ J' (v + 6) = J (v + 6) ∧ J' (v + 7) = J (v + 7) ∧ CG v J' ps' (rs ++ [(ps.length, t)])) ∨
    (rd0 t ps = none ∧ ∃ J', f_X4_admit n v x (hp u J L) = some (0, hp u J' L) ∧ FG v J J' ∧ J' (v + 6) = J (v + 6) ∧ J' (v + 7) = J (v + 7) ∧ CG v J' ps rs) := by
  obtain ⟨hP, hr6, hrs⟩ := h
  have hlt := ha.lt
  have hw := hP.1
  have h3 := hP.2.1
  have h24 := hP.po.1
  have hxT : x ∈ gTX := by
    rcases hx with q | q
    · rw [q]; decide
    · rcases gG4 hv with z | z <;> rw [q, z] <;> decide
  have hxd : x ∉ [v, v + 1, v + 2, v + 3, v + 8, v + 9] ∧ x + 1 ∉ [v, v + 1, v + 2, v + 3, v + 8, v + 9] := by
    rcases gG4 hv with z | z <;> rcases hx with q | q <;> rw [q, z] <;> decide
  have hf0 : tf (J (x + 1)) t.length t.length 0 0 0 = -1 := by
    rw [tf_congr (t' := tl t) t.length 0 0 0 (fun j _ hj => hT.2.1 j (by omega))]; exact hf
  obtain ⟨hN2, -, -⟩ := vs_0 (r := fun _ => 0) hf0
  have ecg := rdr_congr hN2 hT.2.1 ps (fun _ => 0)
  by_cases hR : rs.length = 24
  · -- no room for a rule
    right
    have hfull : ps.length = 24 := by omega
    refine ⟨?_, gx_u J v 3 (ps.length : Int), ?_, FG.of (l := [v]) (Fr.rf.wr (by simp)) (fun a q => by simp at q; omega) (gu_at_ne (by decide)), gu_ne (by omega), gu_ne (by omega), ?_, ?_, fun i hi => ?_⟩
    · cases e : rd0 t ps with
      | none => rfl
      | some q =>
        exfalso
        unfold rd0 rdr at e
        cases e1 : rdm (tl t) (t.length - 2) 2 false ps (fun _ => 0) 0 with
        | none => rw [e1] at e; exact absurd e (by simp)
        | some q1 =>
          rw [e1] at e
          have h5 := (rdm_px _ _ _ _ _ _ e1).len
          have h6 : aa (tl t 0 - 65).toNat q1.2.1 q1.2.2 q1.1 0 0 = some q := e
          rw [aa_full _ _ _ _ (by omega)] at h6
          exact absurd h6 (by simp)
    · simp (disch := omega) only [f_X4_admit, b_X4_admit_33, b_X4_admit_34, b_X4_admit_51, ↓dhi_G hv, ↓dhG_G_0 hv, ↓dhG_G_1 hv, ↓dhG_G_2 hv, ↓dhg_G_3 hv, ↓dhq_G_3 hv, ↓dhG_G_4 hv, ↓dhG_G_5 hv, ↓dhg_G_6 hv, ↓dhq_G_6 hv, ↓dhg_G_7 hv, ↓dhq_G_7 hv, ↓dhG_G_8 hv, ↓dhG_G_9 hv, ↓dha_G_1 hv, ↓dhs_G_1 hv, ↓dhl_G_1 hv, ↓dha_G_2 hv, ↓dhs_G_2 hv, ↓dhl_G_2 hv, ↓dha_G_3 hv, ↓dhs_G_3 hv, ↓dhl_G_3 hv, ↓dha_G_4 hv, ↓dhl_G_4 hv, ↓dha_G_5 hv, ↓dhs_G_5 hv, ↓dhl_G_5 hv, Option.bind_some, ↓nm_eq, ↓sm_inl, ↓sm_inr, ↓dzo_0, ↓dzo_1, ↓drg_ok, ↓if_pos, ↓if_neg, if_pos, if_neg, if_true, if_false, Int.toNat_natCast, rg_ok, h3, hr6]
    · have := hP.cut (c := ps.length) (Nat.le_refl _)
      rwa [List.take_length] at this
    · rw [gu_at_ne (by decide)]; exact hr6
    · rw [gu_ne (by omega)]
      exact ⟨(hrs i hi).1, (hrs i hi).2.fr (gu_ne (by omega)) (gu_ne (by omega))⟩
  · have hR24 : rs.length < 24 := by omega
    have gm := gT_mem hv hR24
    have gr := gT_ref (u := u) hv hR24
    have e0 : f_X4_admit n v x (hp u J L) = b_X4_admit_34 n v x (ps.length : Int) (some (v + 10 + 2 * rs.length)) (hp u J L) := by
      simp (disch := omega) only [f_X4_admit, ↓dhi_G hv, ↓dhG_G_0 hv, ↓dhG_G_1 hv, ↓dhG_G_2 hv, ↓dhg_G_3 hv, ↓dhq_G_3 hv, ↓dhG_G_4 hv, ↓dhG_G_5 hv, ↓dhg_G_6 hv, ↓dhq_G_6 hv, ↓dhg_G_7 hv, ↓dhq_G_7 hv, ↓dhG_G_8 hv, ↓dhG_G_9 hv, ↓dha_G_1 hv, ↓dhs_G_1 hv, ↓dhl_G_1 hv, ↓dha_G_2 hv, ↓dhs_G_2 hv, ↓dhl_G_2 hv, ↓dha_G_3 hv, ↓dhs_G_3 hv, ↓dhl_G_3 hv, ↓dha_G_4 hv, ↓dhl_G_4 hv, ↓dha_G_5 hv, ↓dhs_G_5 hv, ↓dhl_G_5 hv, Option.bind_some, ↓nm_eq, ↓sm_inl, ↓sm_inr, ↓dzo_0, ↓dzo_1, ↓drg_ok, ↓if_pos, ↓if_neg, if_pos, if_neg, if_true, if_false, Int.toNat_natCast, rg_ok, h3, hr6, gr]
    have e1 : ∀ h, b_X4_admit_34 n v x (ps.length : Int) (some (v + 10 + 2 * rs.length)) h = Option.bind (gi_gR h v 3 9) (fun t7 => Option.bind (gi_is h t7 6) (fun _ => Option.bind (f_X7_read n t7 x v h) fun q9 => Option.bind (gi_rg q9.1) fun _ => if q9.1 = 0 then b_X4_admit_51 n v (ps.length : Int) q9.2 else Option.bind (gi_is q9.2 (v + 10 + 2 * rs.length) 7) fun _ => Option.bind (f_X8_copyRenamed n (v + 10 + 2 * rs.length) x 0 q9.2) fun q14 => Option.bind (gi_gR q14 v 3 5) fun t15 => Option.bind (gi_gI q14 v 3 6) fun t16 => Option.bind (gi_s1 q14 t15 t16 (ps.length : Int)) fun h17 => Option.bind (gi_gI h17 v 3 6) fun t18 => Option.bind (gi_pI h17 v 3 6 (t18 + 1)) fun h19 => some ((1 : Int), h19))) := fun h => by
      rw [b_X4_admit_34, if_neg (by simp)]; rfl
    rw [e0, e1]
    have cut0 : ∀ (K : Nat → Nat → Int) (psx : List (Nat × List Nat)), CP v K psx → PX ps psx → CP v (gx_u K v 3 (ps.length : Int)) ps := fun K psx hK hpx => by
      have := hK.cut (c := ps.length) hpx.len
      rwa [take_px hpx] at this
    rcases X7_read (u := u) (L := L) hn hv hP hxT hxd hT.tk hT.1 hf0 (fun _ => 0) with ⟨ps', J1, a1, a2, a3, a4⟩ | ⟨a1, J1, psx, a2, a3, a4, a5⟩
    · left
      have er : rd0 t ps = some ps' := ecg.symm.trans a1
      have hpx := rd0_px er
      have q1 : J1 x = J x := a3.1 x hxd.1
      have q2 : J1 (x + 1) = J (x + 1) := a3.1 _ hxd.2
      have hT1 : TL x J1 t := hT.fr q1 q2
      have hne : x ≠ v + 10 + 2 * rs.length ∧ x ≠ v + 10 + 2 * rs.length + 1 ∧ x + 1 ≠ v + 10 + 2 * rs.length := by rcases gG4 hv with z | z <;> omega
      obtain ⟨J2, b1, b2, b3, b4, b5⟩ := X8_copyRenamed (u := u) (L := L) gm hxT hne hT1.tk hn (sh := 0) (by omega)
      have c6 : J2 v 6 = (rs.length : Int) := by rw [b2 v (by simp; omega), a3.2 6 (by decide)]; exact hr6
      have c6' : gx_u J2 (v + 5) rs.length (ps.length : Int) v 6 = (rs.length : Int) := by rw [gu_ne (by omega)]; exact c6
      refine ⟨ps', gx_u (gx_u J2 (v + 5) rs.length (ps.length : Int)) v 6 ((rs.length : Int) + 1), er, ?_, ?_, ?_, ?_, ?_, ?_, fun i hi => ?_⟩
      · have a2' : f_X7_read n (v + 8) x v (hp u J L) = some (1, hp u J1 L) := a2
        simp (disch := omega) only [↓dhi_G hv, ↓dhG_G_0 hv, ↓dhG_G_1 hv, ↓dhG_G_2 hv, ↓dhg_G_3 hv, ↓dhq_G_3 hv, ↓dhG_G_4 hv, ↓dhG_G_5 hv, ↓dhg_G_6 hv, ↓dhq_G_6 hv, ↓dhg_G_7 hv, ↓dhq_G_7 hv, ↓dhG_G_8 hv, ↓dhG_G_9 hv, ↓dha_G_1 hv, ↓dhs_G_1 hv, ↓dhl_G_1 hv, ↓dha_G_2 hv, ↓dhs_G_2 hv, ↓dhl_G_2 hv, ↓dha_G_3 hv, ↓dhs_G_3 hv, ↓dhl_G_3 hv, ↓dha_G_4 hv, ↓dhl_G_4 hv, ↓dha_G_5 hv, ↓dhs_G_5 hv, ↓dhl_G_5 hv, ↓dhi_R (r8 hv), ↓dhG_R_0 (r8 hv), ↓dhg_R_1 (r8 hv), ↓dhq_R_1 (r8 hv), ↓dha_R_1 (r8 hv), ↓dhs_R_1 (r8 hv), ↓dhl_R_1 (r8 hv), Option.bind_some, ↓nm_eq, ↓sm_inl, ↓sm_inr, ↓dzo_0, ↓dzo_1, ↓drg_ok, ↓if_pos, ↓if_neg, if_pos, if_neg, if_true, if_false, Int.toNat_natCast, rg_ok, ↓bnd a2', ↓bnd b1, ↓dhi_T gm, c6, c6']
      · refine a3.fg.tr ((FG.of b2 (fun a q => by simp at q; omega) ?_).tr ((FG.of (l := [v + 5]) (Fr.rf.wr (by simp)) (fun a q => by simp at q; omega) (by rw [gu_ne (by omega)])).tr (FG.of (l := [v]) (Fr.rf.wr (by simp)) (fun a q => by simp at q; omega) (gu_at_ne (by decide)))))
        rw [b2 v (by simp; omega)]
      · rw [gu_ne (by omega), gu_ne (by omega), b2 _ (by simp; omega), a3.1 _ (by simp)]
      · rw [gu_ne (by omega), gu_ne (by omega), b2 _ (by simp; omega), a3.1 _ (by simp)]
      · have d1 : CP v J2 ps' := a4.fr b2 (by simp; omega)
        have d2 : CP v (gx_u J2 (v + 5) rs.length (ps.length : Int)) ps' := d1.fr (l := [v + 5]) (Fr.rf.wr (by simp)) (by simp)
        obtain ⟨w, d3, d4⟩ := d2
        refine ⟨⟨?_, ?_, ?_, fun k => ?_, fun k => ?_, fun k => ?_⟩, ?_, fun p hp => ?_⟩
        · rw [gu_at_ne (by decide)]; exact w.1
        · rw [gu_at_eq rfl]; omega
        · rw [gu_at_ne (by decide)]; exact w.2.2.1
        · rw [gu_ne (by omega)]; exact w.2.2.2.1 k
        · rw [gu_ne (by omega)]; exact w.2.2.2.2.1 k
        · rw [gu_ne (by omega)]; exact w.2.2.2.2.2 k
        · rw [gu_at_ne (by decide)]; exact d3
        · rw [gu_ne (a := v) (b := v + 1) (by omega), gu_ne (a := v) (b := v + 3) (by omega), gu_ne (a := v) (b := v + 2) (by omega)]; exact d4 p hp
      · rw [gu_at_eq rfl, List.length_append]; rfl
      · rw [List.length_append, List.length_singleton] at hi
        have tx : ∀ a, a ≠ v → a ≠ v + 5 → a ≠ v + 10 + 2 * rs.length → a ≠ v + 10 + 2 * rs.length + 1 → a ∉ [v, v + 1, v + 2, v + 3, v + 8, v + 9] → gx_u (gx_u J2 (v + 5) rs.length (ps.length : Int)) v 6 ((rs.length : Int) + 1) a = J a := fun a z1 z2 z3 z4 z5 => by
          rw [gu_ne z1, gu_ne z2, b2 a (by simp; omega), a3.1 a z5]
        by_cases e : i = rs.length
        · rw [e, gD_m, gu_ne (by omega), gu_at_eq rfl]
          refine ⟨rfl, ?_, fun j hj => ?_, hT.2.2.1, hT.2.2.2⟩
          · rw [gu_ne (by omega), gu_ne (by omega), b3]; exact hT1.1
          · rw [gu_ne (by omega), gu_ne (by omega), b5 j (by rw [hT1.1]; exact Int.ofNat_lt.mpr hj), rn_0]; exact hT1.2.1 j hj
        · have hi' : i < rs.length := by omega
          have h5 := hrs i hi'
          rw [gD_l hi', gu_ne (by omega), gu_at_ne e, b2 _ (by simp; omega), a3.1 _ (by simp)]
          exact ⟨h5.1, h5.2.fr (tx _ (by omega) (by omega) (by omega) (by omega) (by simp; omega)) (tx _ (by omega) (by omega) (by omega) (by omega) (by simp; omega))⟩
    · right
      have er : rd0 t ps = none := ecg.symm.trans a1
      refine ⟨er, gx_u J1 v 3 (ps.length : Int), ?_, a3.fg.tr (FG.of (l := [v]) (Fr.rf.wr (by simp)) (fun a q => by simp at q; omega) (gu_at_ne (by decide))), ?_, ?_, cut0 J1 psx a5 a4, ?_, fun i hi => ?_⟩
      · simp (disch := omega) only [b_X4_admit_51, ↓dhi_G hv, ↓dhG_G_0 hv, ↓dhG_G_1 hv, ↓dhG_G_2 hv, ↓dhg_G_3 hv, ↓dhq_G_3 hv, ↓dhG_G_4 hv, ↓dhG_G_5 hv, ↓dhg_G_6 hv, ↓dhq_G_6 hv, ↓dhg_G_7 hv, ↓dhq_G_7 hv, ↓dhG_G_8 hv, ↓dhG_G_9 hv, ↓dha_G_1 hv, ↓dhs_G_1 hv, ↓dhl_G_1 hv, ↓dha_G_2 hv, ↓dhs_G_2 hv, ↓dhl_G_2 hv, ↓dha_G_3 hv, ↓dhs_G_3 hv, ↓dhl_G_3 hv, ↓dha_G_4 hv, ↓dhl_G_4 hv, ↓dha_G_5 hv, ↓dhs_G_5 hv, ↓dhl_G_5 hv, ↓dhi_R (r8 hv), ↓dhG_R_0 (r8 hv), ↓dhg_R_1 (r8 hv), ↓dhq_R_1 (r8 hv), ↓dha_R_1 (r8 hv), ↓dhs_R_1 (r8 hv), ↓dhl_R_1 (r8 hv), Option.bind_some, ↓nm_eq, ↓sm_inl, ↓sm_inr, ↓dzo_0, ↓dzo_1, ↓drg_ok, ↓if_pos, ↓if_neg, if_pos, if_neg, if_true, if_false, Int.toNat_natCast, rg_ok, ↓bnd a2]
      · rw [gu_ne (by omega), a3.1 _ (by simp)]
      · rw [gu_ne (by omega), a3.1 _ (by simp)]
      · rw [gu_at_ne (by decide), a3.2 6 (by decide)]; exact hr6
      · have h5 := hrs i hi
        rw [gu_ne (by omega), a3.1 _ (by simp)]
        exact ⟨h5.1, h5.2.fr (by rw [gu_ne (by omega), a3.1 _ (by simp; omega)]) (by rw [gu_ne (by omega), a3.1 _ (by simp; omega)])⟩
theorem X4_dropLastRule {v : Nat} (hv : v ∈ [3, 87]) {J : Nat → Nat → Int} {ps : List (Nat × List Nat)} {rs : List (Nat × List Int)} (h : CG v J ps rs) (ha : AO ps rs) :
    (rs = [] ∧ f_X4_dropLastRule v (hp u J L) = some (0, hp u J L)) ∨ (rs ≠ [] ∧ ∃ J', f_X4_dropLastRule v (hp u J L) = some (1, hp u J' L) ∧ FG v J J' ∧ CG v J' (ps.take (rs.getD (rs.length - 1) (0, [])).1) (rs.take (rs.length - 1))) := by
  obtain ⟨hP, hr6, hrs⟩ := h
  have hlt := ha.lt
  have h24 := hP.po.1
  by_cases e : rs.length = 0
  · left
    refine ⟨List.eq_nil_of_length_eq_zero e, ?_⟩
    simp (disch := omega) only [f_X4_dropLastRule, ↓dhi_G hv, ↓dhG_G_0 hv, ↓dhG_G_1 hv, ↓dhG_G_2 hv, ↓dhg_G_3 hv, ↓dhq_G_3 hv, ↓dhG_G_4 hv, ↓dhG_G_5 hv, ↓dhg_G_6 hv, ↓dhq_G_6 hv, ↓dhg_G_7 hv, ↓dhq_G_7 hv, ↓dhG_G_8 hv, ↓dhG_G_9 hv, ↓dha_G_1 hv, ↓dhs_G_1 hv, ↓dhl_G_1 hv, ↓dha_G_2 hv, ↓dhs_G_2 hv, ↓dhl_G_2 hv, ↓dha_G_3 hv, ↓dhs_G_3 hv, ↓dhl_G_3 hv, ↓dha_G_4 hv, ↓dhl_G_4 hv, ↓dha_G_5 hv, ↓dhs_G_5 hv, ↓dhl_G_5 hv, Option.bind_some, ↓nm_eq, ↓sm_inl, ↓sm_inr, ↓dzo_0, ↓dzo_1, ↓drg_ok, ↓if_pos, ↓if_neg, if_pos, if_neg, if_true, if_false, Int.toNat_natCast, rg_ok, hr6]
  · right
    have h5 := (hrs (rs.length - 1) (by omega)).1
    have h6 := (ha (rs.length - 1) (by omega)).2
    rw [if_neg (by omega)] at h6
    have e1 : gx_u J v 6 ((rs.length : Int) - 1) v 6 = ((rs.length - 1 : Nat) : Int) := by rw [gu_same]; omega
    have e2 : gx_u J v 6 ((rs.length : Int) - 1) (v + 5) (rs.length - 1) = ((rs.getD (rs.length - 1) (0, [])).1 : Int) := by rw [gu_ne (by omega)]; exact h5
    refine ⟨fun z => e (by rw [z]; rfl), gx_u (gx_u J v 6 ((rs.length : Int) - 1)) v 3 ((rs.getD (rs.length - 1) (0, [])).1 : Int), ?_, ?_, ?_, ?_, fun i hi => ?_⟩
    · simp (disch := omega) only [f_X4_dropLastRule, ↓dhi_G hv, ↓dhG_G_0 hv, ↓dhG_G_1 hv, ↓dhG_G_2 hv, ↓dhg_G_3 hv, ↓dhq_G_3 hv, ↓dhG_G_4 hv, ↓dhG_G_5 hv, ↓dhg_G_6 hv, ↓dhq_G_6 hv, ↓dhg_G_7 hv, ↓dhq_G_7 hv, ↓dhG_G_8 hv, ↓dhG_G_9 hv, ↓dha_G_1 hv, ↓dhs_G_1 hv, ↓dhl_G_1 hv, ↓dha_G_2 hv, ↓dhs_G_2 hv, ↓dhl_G_2 hv, ↓dha_G_3 hv, ↓dhs_G_3 hv, ↓dhl_G_3 hv, ↓dha_G_4 hv, ↓dhl_G_4 hv, ↓dha_G_5 hv, ↓dhs_G_5 hv, ↓dhl_G_5 hv, Option.bind_some, ↓nm_eq, ↓sm_inl, ↓sm_inr, ↓dzo_0, ↓dzo_1, ↓drg_ok, ↓if_pos, ↓if_neg, if_pos, if_neg, if_true, if_false, Int.toNat_natCast, rg_ok, hr6, e1, e2]
    · exact (FG.of (l := [v]) (Fr.rf.wr (by simp)) (fun a q => by simp at q; omega) (gu_at_ne (by decide))).tr (FG.of (l := [v]) (Fr.rf.wr (by simp)) (fun a q => by simp at q; omega) (gu_at_ne (by decide)))
    · have d2 : CP v (gx_u J v 6 ((rs.length : Int) - 1)) ps := by
        obtain ⟨w, d3, d4⟩ := hP
        refine ⟨⟨?_, ?_, ?_, fun k => ?_, fun k => ?_, fun k => ?_⟩, ?_, fun p hp => ?_⟩
        · rw [gu_at_ne (by decide)]; exact w.1
        · rw [gu_at_eq rfl]; omega
        · rw [gu_at_ne (by decide)]; exact w.2.2.1
        · rw [gu_ne (by omega)]; exact w.2.2.2.1 k
        · rw [gu_ne (by omega)]; exact w.2.2.2.2.1 k
        · rw [gu_ne (by omega)]; exact w.2.2.2.2.2 k
        · rw [gu_at_ne (by decide)]; exact d3
        · rw [gu_ne (a := v) (b := v + 1) (by omega), gu_ne (a := v) (b := v + 3) (by omega), gu_ne (a := v) (b := v + 2) (by omega)]; exact d4 p hp
      exact d2.cut (by omega)
    · rw [gu_at_ne (by decide), gu_same]; simp; omega
    · have hl : (rs.take (rs.length - 1)).length = rs.length - 1 := by simp
      rw [hl] at hi
      have e3 : (rs.take (rs.length - 1)).getD i (0, []) = rs.getD i (0, []) := gD_t hi
      have h7 := hrs i (by omega)
      rw [e3, gu_ne (by omega), gu_ne (by omega)]
      exact ⟨h7.1, h7.2.fr (by rw [gu_ne (by omega), gu_ne (by omega)]) (by rw [gu_ne (by omega), gu_ne (by omega)])⟩
end GE
