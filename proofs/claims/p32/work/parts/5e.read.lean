/-! ===== the class's reader: wrap, brackets, a rule read, a rule admitted ===== -/
def FD (v : Nat) (I J : Nat → Nat → Int) : Prop := Fr [v, v + 1, v + 2, v + 3, v + 8, v + 9] I J ∧ ∀ k, k ≠ 3 → J v k = I v k
theorem FD.rf {v : Nat} {I : Nat → Nat → Int} : FD v I I := ⟨Fr.rf, fun _ _ => rfl⟩
theorem FD.tr {v : Nat} {I J K : Nat → Nat → Int} (h : FD v I J) (q : FD v J K) : FD v I K := ⟨h.1.tr q.1, fun k hk => (q.2 k hk).trans (h.2 k hk)⟩
theorem FC.fd {v : Nat} {I J : Nat → Nat → Int} (h : FC v I J) : FD v I J := ⟨h.1.up (fun a q => by simp at q ⊢; omega), h.2⟩
theorem FD.of {v : Nat} {I J : Nat → Nat → Int} (h : Fr [v + 8, v + 9] I J) : FD v I J := ⟨h.up (fun a q => by simp at q ⊢; omega), fun k _ => by rw [h v (by simp)]⟩
theorem CP.f89 {v : Nat} {I J : Nat → Nat → Int} {ps : List (Nat × List Nat)} (h : CP v I ps) (f : Fr [v + 8, v + 9] I J) : CP v J ps := h.fr f (by simp)
theorem FD.row {v : Nat} {I : Nat → Nat → Int} (i : Nat) (x : Int) : FD v I (gx_u I (v + 9) i x) := FD.of (Fr.rf.wr (by simp))
theorem FD.ht {v : Nat} {I : Nat → Nat → Int} (x : Int) : FD v I (gx_u I (v + 8) 1 x) := FD.of (Fr.rf.wr (by simp))
theorem CP.row {v : Nat} {I : Nat → Nat → Int} {ps : List (Nat × List Nat)} (h : CP v I ps) (i : Nat) (x : Int) : CP v (gx_u I (v + 9) i x) ps := h.f89 (Fr.rf.wr (by simp))
theorem CP.ht {v : Nat} {I : Nat → Nat → Int} {ps : List (Nat × List Nat)} (h : CP v I ps) (x : Int) : CP v (gx_u I (v + 8) 1 x) ps := h.f89 (Fr.rf.wr (by simp))
theorem lo_spec {r : Nat → Int} : ∀ {H b : Nat}, lo r H = some b → b < H ∧ r b = -2 ∧ ∀ i, b < i → i < H → r i ≠ -2
  | 0, _, h => absurd h (by simp [lo])
  | H + 1, b, h => by
    unfold lo at h
    split at h
    · next q => simp only [Option.some.injEq] at h; subst h; exact ⟨by omega, q, fun i h1 h2 => by omega⟩
    · next q =>
      obtain ⟨h1, h2, h3⟩ := lo_spec h
      refine ⟨by omega, h2, fun i z1 z2 => ?_⟩
      by_cases e : i = H
      · rw [e]; exact q
      · exact h3 i z1 (by omega)
section GC
variable {u : Nat} {n : Nat} {L : Nat → Nat → Int}
theorem CR.top {v : Nat} {J : Nat → Nat → Int} {r : Nat → Int} {H i : Nat} (h : CR v J r H) (x : Int) : CR v (gx_u J (v + 9) i x) (zup r i x) H := by
  refine ⟨by rw [gu_ne (by omega)]; exact h.1, h.2.1, fun j hj => ?_⟩
  by_cases e : j = i
  · rw [e, zup_eq]; exact gu_same _ _ _ _
  · rw [zup_ne e, gu_at_ne e]; exact h.2.2 j hj
theorem wrap_f {v : Nat} (hv : v ∈ [3, 87]) {J : Nat → Nat → Int} {r : Nat → Int} {H : Nat} (hR : CR v J r H) (h1 : 1 ≤ H) {sg sep : Int} (hsg : sg = 63 ∨ sg = 42 ∨ sg = 43 ∨ sg = 37) {h : Nat} (part : Int) :
    b_X7_wrap_106 n (v + 8) v sg sep (h : Int) part 0 (hp u J L) = some (0, hp u (gx_u J (v + 9) (H - 1) ((16 + h : Nat) : Int)) L) := by
  have hr := r8 hv
  have g1 := hR.1
  have g2 := hR.2.1
  have e1 : ((H : Int) - 1).toNat = H - 1 := by omega
  have e2 : (16 : Int) + (h : Int) = ((16 + h : Nat) : Int) := by omega
  rcases hsg with q | q | q | q <;> subst q <;>
    simp (disch := omega) only [b_X7_wrap_106, b_X7_wrap_135, b_X7_wrap_136, b_X7_wrap_138, b_X7_wrap_161, b_X7_wrap_162, b_X7_wrap_164, b_X7_wrap_198, hi_R hr, hG_R_0 hr, hg_R_1 hr, hq_R_1 hr, ha_R_1 hr, hs_R_1 hr, hl_R_1 hr, Option.bind_some, nm_eq, sm_inl, sm_inr, zo_0, zo_1, rg_ok, if_pos, if_neg, if_true, if_false, Int.toNat_natCast, g1, e1, e2]
theorem X7_wrap (hn : 1000000000000000000000000000000 ≤ n) {v : Nat} (hv : v ∈ [3, 87]) {J : Nat → Nat → Int} {ps : List (Nat × List Nat)} (h : CP v J ps) {r : Nat → Int} {H : Nat} (hR : CR v J r H) (h1 : 1 ≤ H) (hs : sgd (r (H - 1))) {sg sep : Int} (hsg : sg = 63 ∨ sg = 42 ∨ sg = 43 ∨ sg = 37) (hse : sg = 37 → 0 ≤ sep ∧ sep < 8) {sp : Nat} (hsp : sg = 37 → sp = sep.toNat) :
    (∃ q J', wr ps r H sg sp = some q ∧ f_X7_wrap n (v + 8) v sg sep (hp u J L) = some (1, hp u J' L) ∧ FD v J J' ∧ CP v J' q.1 ∧ CR v J' q.2 H) ∨
    (wr ps r H sg sp = none ∧ ∃ J' psx, f_X7_wrap n (v + 8) v sg sep (hp u J L) = some (0, hp u J' L) ∧ FD v J J' ∧ PX ps psx ∧ CP v J' psx) := by
  have hr := r8 hv
  have g1 := hR.1
  have g2 := hR.2.1
  have g3 : J (v + 8 + 1) (H - 1) = r (H - 1) := hR.2.2 (H - 1) (by omega)
  have e1 : ((H : Int) - 1).toNat = H - 1 := by omega
  have eh := X4_freeHelper (u := u) (L := L) hn hv h
  unfold wr
  cases hf : fH ps with
  | none =>
    rw [hf] at eh
    right
    refine ⟨rfl, J, ps, ?_, FD.rf, PX.rf, h⟩
    simp (disch := omega) only [f_X7_wrap, hi_G hv, hi_R hr, hG_R_0 hr, hg_R_1 hr, hq_R_1 hr, ha_R_1 hr, hs_R_1 hr, hl_R_1 hr, Option.bind_some, nm_eq, sm_inl, sm_inr, zo_0, zo_1, rg_ok, if_pos, if_neg, if_true, if_false, Int.toNat_natCast, eh, g1]
  | some hh =>
    rw [hf] at eh
    have hh16 := fH_rg hf
    dsimp only at eh ⊢
    have hx : ((r (H - 1)).toNat < 8 ∨ (16 ≤ (r (H - 1)).toNat ∧ (r (H - 1)).toNat < 32)) ∧ (((r (H - 1)).toNat : Nat) : Int) = r (H - 1) := by unfold sgd at hs; omega
    have hx16 : (16 + hh < 8 ∨ (16 ≤ 16 + hh ∧ 16 + hh < 32)) := by omega
    have e2 : (16 : Int) + (hh : Int) = ((16 + hh : Nat) : Int) := by omega
    -- the beginning
    have e0 : f_X7_wrap n (v + 8) v sg sep (hp u J L) = Option.bind (f_X4_open v (hh : Int) (hp u J L)) (fun q => if sg = 43 ∨ sg = 37 then b_X7_wrap_66 n (v + 8) v sg sep (hh : Int) (r (H - 1)) q.1 q.2 else b_X7_wrap_87 n (v + 8) v sg sep (hh : Int) (r (H - 1)) q.1 q.2) := by
      rcases hsg with q | q | q | q <;> subst q <;> simp (disch := omega) [f_X7_wrap, hi_G hv, hi_R hr, hG_R_0 hr, hg_R_1 hr, hq_R_1 hr, ha_R_1 hr, hs_R_1 hr, hl_R_1 hr, rg_ok, if_pos, if_neg, eh, g1, e1, g3]
    -- the end
    have fin : ∀ (K : Nat → Nat → Int) (pk : List (Nat × List Nat)) (l : List Nat), CP v K (pk ++ [(hh, l)]) → l.length < 5 → CR v K r H → ∃ J', b_X7_wrap_164 n (v + 8) v (hh : Int) (r (H - 1)) 1 (hp u K L) = some (1, hp u J' L) ∧ FD v K J' ∧ CP v J' (pk ++ [(hh, l ++ [(r (H - 1)).toNat])]) ∧ CR v J' (zup r (H - 1) ((16 + hh : Nat) : Int)) H := by
      intro K pk l hK hl hRK
      have k1 := hRK.1
      have hRK' := hRK.top (i := H - 1) ((16 + hh : Nat) : Int)
      have hK' : CP v (gx_u K (v + 9) (H - 1) ((16 + hh : Nat) : Int)) (pk ++ [(hh, l)]) := hK.row _ _
      rcases X4_extend (u := u) (L := L) hv hK' hx.1 with ⟨q1, -⟩ | ⟨-, J', q2, q3, q4⟩
      · omega
      · rw [hx.2] at q2
        refine ⟨J', ?_, (FD.row _ _).tr q4.fd, q3, hRK'.fr q4⟩
        simp (disch := omega) only [b_X7_wrap_164, hi_G hv, hi_R hr, hG_R_0 hr, hg_R_1 hr, hq_R_1 hr, ha_R_1 hr, hs_R_1 hr, hl_R_1 hr, Option.bind_some, nm_eq, sm_inl, sm_inr, zo_0, zo_1, rg_ok, if_pos, if_neg, if_true, if_false, Int.toNat_natCast, k1, e1, e2, q2]
    have two : ∀ (K : Nat → Nat → Int) (pk : List (Nat × List Nat)), CP v K (pk ++ [(hh, [])]) → CR v K r H → ∃ J', b_X7_wrap_106 n (v + 8) v sg sep (hh : Int) (r (H - 1)) 1 (hp u K L) = some (1, hp u J' L) ∧ FD v K J' ∧ CP v J' (pk ++ [(hh, if sg = 63 then [(r (H - 1)).toNat] else if sg = 37 then [16 + hh, sp, (r (H - 1)).toNat] else [16 + hh, (r (H - 1)).toNat])]) ∧ CR v J' (zup r (H - 1) ((16 + hh : Nat) : Int)) H := by
      intro K pk hK hRK
      by_cases c63 : sg = 63
      · rw [if_pos c63]
        obtain ⟨J', q1, q2⟩ := fin K pk [] hK (by decide) hRK
        refine ⟨J', ?_, q2⟩
        simp (disch := omega) only [b_X7_wrap_106, b_X7_wrap_138, Option.bind_some, nm_eq, sm_inl, sm_inr, zo_0, zo_1, rg_ok, if_pos, if_neg, if_true, if_false, Int.toNat_natCast, q1]
      · rw [if_neg c63]
        rcases X4_extend (u := u) (L := L) hv hK hx16 with ⟨q1, -⟩ | ⟨-, K1, q2, q3, q4⟩
        · exact absurd q1 (by decide)
        · have hR1 := hRK.fr q4
          by_cases c37 : sg = 37
          · rw [if_pos c37]
            have hsep := hse c37
            have hsx : (sp < 8 ∨ (16 ≤ sp ∧ sp < 32)) ∧ (sp : Int) = sep := by have := hsp c37; omega
            rcases X4_extend (u := u) (L := L) hv q3 hsx.1 with ⟨z1, -⟩ | ⟨-, K2, z2, z3, z4⟩
            · exact absurd z1 (by simp)
            · rw [hsx.2] at z2
              obtain ⟨J', y1, y2, y3, y4⟩ := fin K2 pk _ z3 (by simp) (hR1.fr z4)
              refine ⟨J', ?_, (q4.tr z4).fd.tr y2, by simpa using y3, y4⟩
              simp (disch := omega) only [b_X7_wrap_106, b_X7_wrap_136, b_X7_wrap_138, b_X7_wrap_162, hi_G hv, Option.bind_some, nm_eq, sm_inl, sm_inr, zo_0, zo_1, rg_ok, if_pos, if_neg, if_true, if_false, Int.toNat_natCast, e2, q2, z2, y1]
          · rw [if_neg c37]
            obtain ⟨J', y1, y2, y3, y4⟩ := fin K1 pk _ q3 (by simp) hR1
            refine ⟨J', ?_, q4.fd.tr y2, by simpa using y3, y4⟩
            simp (disch := omega) only [b_X7_wrap_106, b_X7_wrap_136, b_X7_wrap_138, b_X7_wrap_162, hi_G hv, Option.bind_some, nm_eq, sm_inl, sm_inr, zo_0, zo_1, rg_ok, if_pos, if_neg, if_true, if_false, Int.toNat_natCast, e2, q2, y1]
    -- the second production
    have snd : ∀ (K : Nat → Nat → Int) (pk : List (Nat × List Nat)), CP v K pk → CR v K r H → (pk.length < 24 ∧ ∃ J', b_X7_wrap_87 n (v + 8) v sg sep (hh : Int) (r (H - 1)) 1 (hp u K L) = some (1, hp u J' L) ∧ FD v K J' ∧ CP v J' (pk ++ [(hh, if sg = 63 then [(r (H - 1)).toNat] else if sg = 37 then [16 + hh, sp, (r (H - 1)).toNat] else [16 + hh, (r (H - 1)).toNat])]) ∧ CR v J' (zup r (H - 1) ((16 + hh : Nat) : Int)) H) ∨ (24 ≤ pk.length ∧ ∃ J', b_X7_wrap_87 n (v + 8) v sg sep (hh : Int) (r (H - 1)) 1 (hp u K L) = some (0, hp u J' L) ∧ FD v K J' ∧ CP v J' pk) := by
      intro K pk hK hRK
      rcases X4_open (u := u) (L := L) hv hK (o := hh) (by omega) with ⟨q1, q2⟩ | ⟨q1, K1, q2, q3, q4⟩
      · right
        refine ⟨q1, gx_u K (v + 9) (H - 1) ((16 + hh : Nat) : Int), ?_, FD.row _ _, hK.row _ _⟩
        simp (disch := omega) only [b_X7_wrap_87, b_X7_wrap_105, hi_G hv, Option.bind_some, nm_eq, sm_inl, sm_inr, zo_0, zo_1, rg_ok, if_pos, if_neg, if_true, if_false, Int.toNat_natCast, q2, wrap_f hv hRK h1 hsg]
      · left
        obtain ⟨J', y1, y2, y3, y4⟩ := two K1 pk q3 (hRK.fr q4)
        refine ⟨q1, J', ?_, q4.fd.tr y2, y3, y4⟩
        simp (disch := omega) only [b_X7_wrap_87, hi_G hv, Option.bind_some, nm_eq, sm_inl, sm_inr, zo_0, zo_1, rg_ok, if_pos, if_neg, if_true, if_false, Int.toNat_natCast, q2, y1]
    have no : ∀ K : Nat → Nat → Int, CR v K r H → b_X7_wrap_66 n (v + 8) v sg sep (hh : Int) (r (H - 1)) 0 (hp u K L) = some (0, hp u (gx_u K (v + 9) (H - 1) ((16 + hh : Nat) : Int)) L) ∧ b_X7_wrap_87 n (v + 8) v sg sep (hh : Int) (r (H - 1)) 0 (hp u K L) = some (0, hp u (gx_u K (v + 9) (H - 1) ((16 + hh : Nat) : Int)) L) := fun K hRK => by
      constructor <;> simp (disch := omega) only [b_X7_wrap_66, b_X7_wrap_84, b_X7_wrap_85, b_X7_wrap_87, b_X7_wrap_105, Option.bind_some, nm_eq, sm_inl, sm_inr, zo_0, zo_1, rg_ok, if_pos, if_neg, if_true, if_false, Int.toNat_natCast, wrap_f hv hRK h1 hsg]
    rw [e0]
    rcases X4_open (u := u) (L := L) hv h (o := hh) (by omega) with ⟨q1, q2⟩ | ⟨q1, K1, q2, q3, q4⟩
    · right
      refine ⟨if_neg (by omega), gx_u J (v + 9) (H - 1) ((16 + hh : Nat) : Int), ps, ?_, FD.row _ _, PX.rf, h.row _ _⟩
      rw [q2, Option.bind_some]
      dsimp only
      rw [(no J hR).1, (no J hR).2]; split <;> rfl
    · rw [q2, Option.bind_some]
      dsimp only
      have hR1 := hR.fr q4
      -- the first production
      have fst : ∃ K2, (if sg = 43 ∨ sg = 37 then b_X7_wrap_66 n (v + 8) v sg sep (hh : Int) (r (H - 1)) 1 (hp u K1 L) else b_X7_wrap_87 n (v + 8) v sg sep (hh : Int) (r (H - 1)) 1 (hp u K1 L)) = b_X7_wrap_87 n (v + 8) v sg sep (hh : Int) (r (H - 1)) 1 (hp u K2 L) ∧ FC v J K2 ∧ CP v K2 (ps ++ [(hh, if sg = 43 ∨ sg = 37 then [(r (H - 1)).toNat] else [])]) := by
        by_cases c : sg = 43 ∨ sg = 37
        · rw [if_pos c, if_pos c]
          rcases X4_extend (u := u) (L := L) hv q3 hx.1 with ⟨z1, -⟩ | ⟨-, K2, z2, z3, z4⟩
          · exact absurd z1 (by decide)
          · rw [hx.2] at z2
            refine ⟨K2, ?_, q4.tr z4, z3⟩
            simp (disch := omega) only [b_X7_wrap_66, b_X7_wrap_85, hi_G hv, Option.bind_some, nm_eq, sm_inl, sm_inr, zo_0, zo_1, rg_ok, if_pos, if_neg, if_true, if_false, Int.toNat_natCast, z2]
        · rw [if_neg c, if_neg c]
          exact ⟨K1, rfl, q4, q3⟩
      obtain ⟨K2, z1, z2, z3⟩ := fst
      rw [z1]
      rcases snd K2 _ z3 (hR.fr z2) with ⟨y1, J', y2, y3, y4, y5⟩ | ⟨y1, J', y2, y3, y4⟩
      · left
        simp only [List.length_append, List.length_singleton] at y1
        exact ⟨_, J', if_pos (by omega), y2, z2.fd.tr y3, y4, y5⟩
      · right
        simp only [List.length_append, List.length_singleton] at y1
        exact ⟨if_neg (by omega), J', _, y2, z2.fd.tr y3, PX.rf.ap _, y4⟩
theorem X7_closeBracket (hn : 1000000000000000000000000000000 ≤ n) {v : Nat} (hv : v ∈ [3, 87]) {J : Nat → Nat → Int} {ps : List (Nat × List Nat)} (h : CP v J ps) {r : Nat → Int} {H : Nat} (hR : CR v J r H) (hs : ∀ i, i < H → r i = -1 ∨ r i = -2 ∨ sgd (r i)) :
    (∃ q J', cls ps r H = some q ∧ f_X7_closeBracket n (v + 8) v (hp u J L) = some (1, hp u J' L) ∧ FD v J J' ∧ CP v J' q.1 ∧ CR v J' q.2.1 q.2.2) ∨
    (cls ps r H = none ∧ ∃ J' psx, f_X7_closeBracket n (v + 8) v (hp u J L) = some (0, hp u J' L) ∧ FD v J J' ∧ PX ps psx ∧ CP v J' psx) := by
  have hr := r8 hv
  have g1 := hR.1
  have g2 := hR.2.1
  have eh := X4_freeHelper (u := u) (L := L) hn hv h
  have e1 : f_X7_closeBracket n (v + 8) v (hp u J L) = b_X7_closeBracket_40 n (v + 8) v (match lo r H with | none => -1 | some b => (b : Int)) (hp u J L) := by
    suffices key : zLP H (fun f k (v2 : Int) => l_X7_closeBracket_4 n f (v + 8) v v2 (k : Int) (hp u J L)) (fun k v2 => v2 = match lo r k with | none => -1 | some b => (b : Int)) (fun res => res = b_X7_closeBracket_40 n (v + 8) v (match lo r H with | none => -1 | some b => (b : Int)) (hp u J L)) by
      exact key H n 0 (-1) (by omega) (by omega) rfl
    refine zlp ?_ ?_
    · rintro f k v2 hk hv2
      right
      have g3 : J (v + 8 + 1) k = r k := hR.2.2 k hk
      have hsk := hs k hk
      have ek : (k : Int) + 1 = ((k + 1 : Nat) : Int) := by omega
      have hrg : -2147483648 ≤ r k ∧ r k ≤ 2147483647 := by unfold sgd at hsk; omega
      by_cases q : r k = -2
      · refine ⟨(k : Int), ?_, ?_⟩
        · simp (disch := omega) only [l_X7_closeBracket_4, b_X7_closeBracket_4, b_X7_closeBracket_34, hi_R hr, hG_R_0 hr, hg_R_1 hr, hq_R_1 hr, ha_R_1 hr, hs_R_1 hr, hl_R_1 hr, Option.bind_some, nm_eq, sm_inl, sm_inr, zo_0, zo_1, rg_ok, if_pos, if_neg, if_true, if_false, Int.toNat_natCast, g1, g3, q, ek]
        · dsimp only [lo]; rw [if_pos q]
      · refine ⟨v2, ?_, ?_⟩
        · simp (disch := omega) only [l_X7_closeBracket_4, b_X7_closeBracket_4, b_X7_closeBracket_34, hi_R hr, hG_R_0 hr, hg_R_1 hr, hq_R_1 hr, ha_R_1 hr, hs_R_1 hr, hl_R_1 hr, Option.bind_some, nm_eq, sm_inl, sm_inr, zo_0, zo_1, rg_ok, if_pos, if_neg, if_true, if_false, Int.toNat_natCast, g1, g3, ek]
        · dsimp only [lo]; rw [if_neg q]; exact hv2
    · rintro f v2 hv2
      simp (disch := omega) only [l_X7_closeBracket_4, b_X7_closeBracket_4, hi_R hr, hG_R_0 hr, hg_R_1 hr, hq_R_1 hr, ha_R_1 hr, hs_R_1 hr, hl_R_1 hr, Option.bind_some, nm_eq, sm_inl, sm_inr, zo_0, zo_1, rg_ok, if_pos, if_neg, if_true, if_false, Int.toNat_natCast, g1, hv2]
  rw [e1]
  unfold cls
  cases hl : lo r H with
  | none =>
    right
    refine ⟨rfl, J, ps, ?_, FD.rf, PX.rf, h⟩
    simp (disch := omega) only [b_X7_closeBracket_40, hi_G hv, Option.bind_some, nm_eq, sm_inl, sm_inr, zo_0, zo_1, rg_ok, if_pos, if_neg, if_true, if_false, Int.toNat_natCast, eh]
  | some b =>
    obtain ⟨l1, l2, l3⟩ := lo_spec hl
    dsimp only
    have eb : (b : Int) + 1 = ((b + 1 : Nat) : Int) := by omega
    cases hf : fH ps with
    | none =>
      rw [hf] at eh
      right
      refine ⟨rfl, J, ps, ?_, FD.rf, PX.rf, h⟩
      simp (disch := omega) only [b_X7_closeBracket_40, hi_G hv, Option.bind_some, nm_eq, sm_inl, sm_inr, zo_0, zo_1, rg_ok, if_pos, if_neg, if_true, if_false, Int.toNat_natCast, eh]
    | some hh =>
      rw [hf] at eh
      have hh16 := fH_rg hf
      have e2 : (16 : Int) + (hh : Int) = ((16 + hh : Nat) : Int) := by omega
      dsimp only at eh ⊢
      rcases X7_release (u := u) (L := L) hn hv h hR (a := b + 1) (o := hh) (by omega) (fun i q1 q2 => by
        rcases hs i q2 with z | z | z
        · exact Or.inl z
        · exact absurd z (l3 i (by omega) q2)
        · exact Or.inr z) (by omega) with ⟨ps', J1, a1, a2, a3, a4⟩ | ⟨a1, J1, psx, a2, a3, a4, a5⟩
      · left
        rw [a1]
        dsimp only
        have c1 : CR v (gx_u J1 (v + 8) 1 (b : Int)) r b := by
          have := hR.fr a3
          refine ⟨gu_same _ _ _ _, by omega, fun i hi => ?_⟩
          rw [gu_ne (by omega)]; exact this.2.2 i (by omega)
        obtain ⟨J2, p1, p2, p3⟩ := X7_push (u := u) (L := L) hv c1 (by omega) ((16 + hh : Nat) : Int)
        refine ⟨_, J2, rfl, ?_, a3.fd.tr ((FD.ht _).tr (FD.of p2)), ?_, p3⟩
        · simp (disch := omega) only [b_X7_closeBracket_40, hi_G hv, hi_R hr, hG_R_0 hr, hg_R_1 hr, hq_R_1 hr, ha_R_1 hr, hs_R_1 hr, hl_R_1 hr, Option.bind_some, nm_eq, sm_inl, sm_inr, zo_0, zo_1, rg_ok, if_pos, if_neg, if_true, if_false, Int.toNat_natCast, eh, eb, a2, e2, p1]
        · exact (a4.ht _).f89 p2
      · right
        rw [a1]
        refine ⟨rfl, J1, psx, ?_, a3.fd, a4, a5⟩
        simp (disch := omega) only [b_X7_closeBracket_40, hi_G hv, hi_R hr, hG_R_0 hr, hg_R_1 hr, hq_R_1 hr, ha_R_1 hr, hs_R_1 hr, hl_R_1 hr, Option.bind_some, nm_eq, sm_inl, sm_inr, zo_0, zo_1, rg_ok, if_pos, if_neg, if_true, if_false, Int.toNat_natCast, eh, eb, a2]
end GC
