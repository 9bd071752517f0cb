/-! ===== what is known of all kinds of tables ===== -/
theorem pig : ∀ (m n : Nat) (f : Nat → Nat), (∀ i, i < n → f i < m) → (∀ i j, i < n → j < n → f i = f j → i = j) → n ≤ m
  | 0, n, f, h, _ => by
    refine Nat.le_of_not_lt fun z => ?_
    have := h 0 z
    omega
  | m + 1, 0, f, _, _ => Nat.zero_le _
  | m + 1, n + 1, f, h, hi => by
    have := pig m n (fun i => if f i = m then f n else f i) (fun i hin => ?_) (fun i j hin hjn e => ?_)
    · omega
    · show (if f i = m then f n else f i) < m
      have h1 := h i (by omega)
      have h2 := h n (by omega)
      split
      · next c =>
        have : f n ≠ m := fun z => by
          have := hi i n (by omega) (by omega) (by omega)
          omega
        omega
      · omega
    · have e : (if f i = m then f n else f i) = (if f j = m then f n else f j) := e
      have k1 := hi i j (by omega) (by omega)
      have k2 := hi i n (by omega) (by omega)
      have k3 := hi j n (by omega) (by omega)
      split at e
      · next c1 =>
        split at e
        · next c2 => exact k1 (by omega)
        · next c2 =>
          have := k3 e.symm
          omega
      · next c1 =>
        split at e
        · next c2 =>
          have := k2 e
          omega
        · exact k1 e
/-- a state's items without what is behind them -/
def prj (A : AS) : AS := fun p k t => t = 9 ∧ A p k 9
section TB_
variable {g : GT}
theorem prj_CL {N : Nat → Prop} {F : Nat → Nat → Prop} {K : AS} {p k : Nat} : CL g N F (prj K) p k 9 ↔ CL g N F K p k 9 := ⟨CL_9 (fun _ _ h => h.2), CL_9 (fun _ _ h => ⟨rfl, h⟩)⟩
theorem prj_adv {N : Nat → Prop} {F : Nat → Nat → Prop} {K : AS} {x : Nat} : adv true g (CL g N F (prj K)) x = prj (adv false g (CL g N F K) x) := by
  funext p k t
  apply propext
  constructor
  · rintro ⟨h1, k', e1, e2, e3, e4, e5, -⟩
    have e9 := h1 rfl
    exact ⟨e9, fun z => absurd z (by decide), k', e1, e2, e3, e4, prj_CL.mp e5, prj_CL.mp e5⟩
  · rintro ⟨h1, -, k', e1, e2, e3, e4, e5, -⟩
    rw [h1]
    exact ⟨fun _ => rfl, k', e1, e2, e3, e4, prj_CL.mpr e5, prj_CL.mpr e5⟩
theorem prj_K0 : K0 true = prj (K0 false) := by
  funext p k t
  apply propext
  constructor
  · rintro ⟨h1, h2, h3⟩
    rcases h3 with h3 | ⟨-, h3⟩
    · exact ⟨h3, h1, h2, Or.inl rfl⟩
    · exact absurd h3 (by decide)
  · rintro ⟨h1, h2, h3, -⟩
    exact ⟨h2, h3, Or.inl h1⟩
/-- over a symbol, from a state with the items of one of WHOLE, one comes to such a state -/
theorem prj_go (hg : GR g) (hb : Sb (zS g false) = false) {K : AS} {s x : Nat} (hs : s < Sn (zS g false)) (hx : x < 24) (hK : K = prj (SK (zS g false) s)) (hne : ∃ p k, adv true g (CL g (zN g) (zF g) K) x p k 9) : ∃ t, t < Sn (zS g false) ∧ Sm (zS g false) s x = (t : Int) ∧ adv true g (CL g (zN g) (zF g) K) x = prj (SK (zS g false) t) := by
  rw [hK, prj_adv] at hne ⊢
  rcases zS_go hg hb hs hx with ⟨-, z⟩ | ⟨t, e, ht, eK, -⟩
  · obtain ⟨p, k, h⟩ := hne
    exact absurd ⟨p, k, h.2⟩ z
  · exact ⟨t, ht, e, by rw [eK]⟩
theorem prj_cov (hg : GR g) (hb : Sb (zS g false) = false) (i : Nat) : ∀ (n t : Nat), t < n → t < Sn (bfi g (zN g) (zF g) true i) → ∃ t', t' < Sn (zS g false) ∧ SK (bfi g (zN g) (zF g) true i) t = prj (SK (zS g false) t')
  | 0, t, h, _ => absurd h (by omega)
  | n + 1, t, h, ht => by
    have hP := PB_bfi (g := g) (N := zN g) (F := zF g) (b := true) hg i
    by_cases c : t = 0
    · refine ⟨0, by have := (zS_n (b := false) hg).1; omega, ?_⟩
      rw [c, hP.2.2.1, (zS_n hg).2.2, prj_K0]
    · obtain ⟨s, x, h1, h2, h3, h4⟩ := hP.2.2.2.2.1 t (by omega) ht
      obtain ⟨s', hs', es⟩ := prj_cov hg hb i n s (by omega) (by omega)
      obtain ⟨p, k, hpk⟩ := (hP.2.2.2.1 t ht).2
      rw [h4] at hpk
      obtain ⟨t', ht', -, e⟩ := prj_go hg hb hs' h2 es ⟨p, k, hpk⟩
      exact ⟨t', ht', by rw [h4, e]⟩
theorem prj_n (hg : GR g) (hb : Sb (zS g false) = false) (i : Nat) : Sn (bfi g (zN g) (zF g) true i) ≤ Sn (zS g false) := by
  have hP := PB_bfi (g := g) (N := zN g) (F := zF g) (b := true) hg i
  have hc := fun t (ht : t < Sn (bfi g (zN g) (zF g) true i)) => prj_cov hg hb i (t + 1) t (by omega) ht
  refine pig _ _ (fun t => if h : t < Sn (bfi g (zN g) (zF g) true i) then (hc t h).choose else 0) (fun t ht => ?_) (fun t u ht hu e => ?_)
  · simp only [dif_pos ht]
    exact (hc t ht).choose_spec.1
  · simp only [dif_pos ht, dif_pos hu] at e
    refine hP.2.2.2.2.2.1 t u ht hu ?_
    rw [(hc t ht).choose_spec.2, (hc u hu).choose_spec.2, e]
theorem prj_b (hg : GR g) (hb : Sb (zS g false) = false) : ∀ i, Sb (bfi g (zN g) (zF g) true i) = false
  | 0 => rfl
  | i + 1 => by
    have ih := prj_b hg hb i
    have hP := PB_bfi (g := g) (N := zN g) (F := zF g) (b := true) hg i
    show Sb (zif _ _ _) = false
    by_cases c : Sb (bfi g (zN g) (zF g) true i) = true ∨ Sn (bfi g (zN g) (zF g) true i) ≤ i / 24
    · rw [zif_p c]; exact ih
    · rw [zif_n c]
      have hs : i / 24 < Sn (bfi g (zN g) (zF g) true i) := by
        refine Nat.lt_of_not_le fun z => c (Or.inr z)
      rcases bst_c (g := g) (N := zN g) (F := zF g) (b := true) (bfi g (zN g) (zF g) true i) (i / 24) (i % 24) with ⟨-, e⟩ | ⟨hne, ⟨t, -, e⟩ | ⟨hno, ⟨h80, e⟩ | ⟨-, e⟩⟩⟩
      · rw [e]; exact ih
      · rw [e]; exact ih
      · exfalso
        obtain ⟨s', hs', es⟩ := prj_cov hg hb i (i / 24 + 1) (i / 24) (by omega) hs
        obtain ⟨t', ht', -, e'⟩ := prj_go hg hb hs' (Nat.mod_lt _ (by omega)) es hne
        have hc := fun t (ht : t < Sn (bfi g (zN g) (zF g) true i)) => prj_cov hg hb i (t + 1) t (by omega) ht
        have h81 : Sn (bfi g (zN g) (zF g) true i) + 1 ≤ Sn (zS g false) := by
          refine pig _ _ (fun t => if h : t < Sn (bfi g (zN g) (zF g) true i) then (hc t h).choose else t') (fun t ht => ?_) (fun t u ht hu e => ?_)
          · by_cases z : t < Sn (bfi g (zN g) (zF g) true i)
            · simp only [dif_pos z]
              exact (hc t z).choose_spec.1
            · simp only [dif_neg z]
              exact ht'
          · by_cases z : t < Sn (bfi g (zN g) (zF g) true i)
            · by_cases z' : u < Sn (bfi g (zN g) (zF g) true i)
              · simp only [dif_pos z, dif_pos z'] at e
                refine hP.2.2.2.2.2.1 t u z z' ?_
                rw [(hc t z).choose_spec.2, (hc u z').choose_spec.2, e]
              · simp only [dif_pos z, dif_neg z'] at e
                exact absurd (by rw [(hc t z).choose_spec.2, e, e']) (hno t z)
            · by_cases z' : u < Sn (bfi g (zN g) (zF g) true i)
              · simp only [dif_neg z, dif_pos z'] at e
                exact absurd (by rw [(hc u z').choose_spec.2, ← e, e']) (hno u z')
              · omega
        have := (zS_n (b := false) hg).2.1
        omega
      · rw [e]; exact ih
/-- WHOLE not too large: neither is MERGED, which has no more states -/
theorem prj_all (hg : GR g) (hb : Sb (zS g false) = false) : Sb (zS g true) = false ∧ Sn (zS g true) ≤ Sn (zS g false) := ⟨prj_b hg hb 1920, prj_n hg hb 1920⟩
theorem zS_inj (hg : GR g) {b : Bool} {t u : Nat} (ht : t < Sn (zS g b)) (hu : u < Sn (zS g b)) (e : SK (zS g b) t = SK (zS g b) u) : t = u := (PB_bfi (g := g) (N := zN g) (F := zF g) (b := b) hg 1920).2.2.2.2.2.1 t u ht hu e
/-- a state of WHOLE has its state of MERGED -/
theorem prj_st (hg : GR g) (hb : Sb (zS g false) = false) (hb' : Sb (zS g true) = false) : ∀ (n t : Nat), t < n → t < Sn (zS g false) → ∃ t0, t0 < Sn (zS g true) ∧ SK (zS g true) t0 = prj (SK (zS g false) t)
  | 0, t, h, _ => absurd h (by omega)
  | n + 1, t, h, ht => by
    by_cases c : t = 0
    · refine ⟨0, by have := (zS_n (b := true) hg).1; omega, ?_⟩
      rw [c, (zS_n hg).2.2, (zS_n hg).2.2, prj_K0]
    · obtain ⟨s, x, h1, h2, h3, h4⟩ := zS_from hg hb (by omega) ht
      obtain ⟨s0, hs0, es⟩ := prj_st hg hb hb' n s (by omega) (by omega)
      obtain ⟨p, k, hpk⟩ : ∃ p k, SK (zS g false) t p k 9 := ((PB_bfi (g := g) (N := zN g) (F := zF g) (b := false) hg 1920).2.2.2.1 t ht).2
      rcases zS_go hg hb' hs0 h2 with ⟨-, z⟩ | ⟨t0, e, ht0, eK, -⟩
      · exfalso
        refine z ⟨p, k, ?_⟩
        rw [es, prj_adv, ← h4]
        exact ⟨rfl, hpk⟩
      · exact ⟨t0, ht0, by rw [eK, es, prj_adv, h4]⟩
theorem la_sub (hg : GR g) (hb : Sb (zS g false) = false) (hb' : Sb (zS g true) = false) {B : Nat → AS} (hB : cLB g (zN g) (zF g) (zS g true) B) : ∀ (n t t0 : Nat), t < n → t < Sn (zS g false) → t0 < Sn (zS g true) → SK (zS g true) t0 = prj (SK (zS g false) t) → sAS (CL g (zN g) (zF g) (SK (zS g false) t)) (B t0)
  | 0, t, _, h, _, _, _ => absurd h (by omega)
  | n + 1, t, t0, h, ht, ht0, e => by
    by_cases c : t = 0
    · have e0 : t0 = 0 := by
        refine zS_inj hg ht0 (by have := (zS_n (b := true) hg).1; omega) ?_
        rw [e, c, (zS_n hg).2.2, (zS_n hg).2.2, prj_K0]
      rw [c, e0]
      refine CL_min (fun p k y q => ?_) (hB.2.1 0 (by omega))
      rw [(zS_n hg).2.2] at q
      obtain ⟨rfl, rfl, q⟩ := q
      rcases q with rfl | ⟨rfl, -⟩
      · exact hB.1.2
      · exact hB.1.1
    · obtain ⟨s, x, h1, h2, h3, h4⟩ := zS_from hg hb (by omega) ht
      obtain ⟨s0, hs0, es⟩ := prj_st hg hb hb' (s + 1) s (by omega) (by omega)
      have ih := la_sub hg hb hb' hB n s s0 (by omega) (by omega) hs0 es
      obtain ⟨p, k, hpk⟩ : ∃ p k, SK (zS g false) t p k 9 := ((PB_bfi (g := g) (N := zN g) (F := zF g) (b := false) hg 1920).2.2.2.1 t ht).2
      rcases zS_go hg hb' hs0 h2 with ⟨-, z⟩ | ⟨t1, e1, ht1, eK, -⟩
      · exfalso
        refine z ⟨p, k, ?_⟩
        rw [es, prj_adv, ← h4]
        exact ⟨rfl, hpk⟩
      · have e01 : t1 = t0 := by
          refine zS_inj hg ht1 ht0 ?_
          rw [eK, es, prj_adv, ← h4, e]
        rw [e01] at e1
        refine CL_min (fun p k y q => ?_) (hB.2.1 t0 ht0)
        rw [h4] at q
        exact hB.2.2 s0 x t0 hs0 h2 e1 p k y (adv_mono ih p k y q)
/-- what WHOLE has in a state, MERGED has in its state -/
theorem zR_sub (hg : GR g) (hb : Sb (zS g false) = false) (hb' : Sb (zS g true) = false) {t t0 : Nat} (ht : t < Sn (zS g false)) (ht0 : t0 < Sn (zS g true)) (e : SK (zS g true) t0 = prj (SK (zS g false) t)) {p k y : Nat} (h : zR g false t p k y) : zR g true t0 p k y := by
  intro B hB
  exact la_sub hg hb hb' hB (t + 1) t t0 (by omega) ht ht0 e p k y h
/-- what MERGED has behind an item is behind the production's left -/
theorem la_fol (hg : GR g) {t p k y : Nat} (hp : p < Gn g) (hy : y < 9) (h : zR g true t p k y) : zB g (Go g p) y := by
  have h2 := cl2_z g
  have hB : cLB g (zN g) (zF g) (zS g true) (fun _ p _ y => y = 9 ∨ (p = 24 ∧ y = 8) ∨ (p < Gn g ∧ y < 9 ∧ zB g (Go g p) y)) := by
    refine ⟨⟨Or.inr (Or.inl ⟨rfl, rfl⟩), Or.inl rfl⟩, fun s _ q t ho => ?_, fun s x t _ _ _ p k y q => ?_⟩
    · obtain ⟨hq, p, k, hpv, hk, hs, -, ho⟩ := ho
      rcases ho with rfl | ⟨ht8, hf⟩ | ⟨he, ht9, hr⟩
      · exact Or.inl rfl
      · right; right
        refine ⟨hq, by omega, ?_⟩
        have hne : p ≠ 24 := fun z => by
          rw [z] at hk hf
          rw [gX_l24] at hk
          exact fsF_end (by rw [gX_l24]; omega) hf
        rw [gX_l hne] at hk
        rw [gX_s hne] at hs
        have := h2.2 p (hpv.resolve_right hne) k hk (by omega) t (Or.inl ((gX_fs hne).mp hf))
        rw [hs, show 16 + Go g q - 16 = Go g q by omega] at this
        exact this
      · right; right
        refine ⟨hq, ht9, ?_⟩
        by_cases hne : p = 24
        · rw [hne, gX_s24] at hs
          have h8 : t = 8 := by
            rcases hr with z | ⟨-, z⟩ | ⟨z, -⟩
            · omega
            · exact z
            · have := hg.1; omega
          rw [h8, show Go g q = Gt g by omega]
          exact h2.1
        · rw [gX_l hne] at hk
          rw [gX_s hne] at hs
          have hB : zB g (Go g p) t := by
            rcases hr with z | ⟨z, -⟩ | ⟨-, -, z⟩
            · omega
            · exact absurd z hne
            · exact z
          have := h2.2 p (hpv.resolve_right hne) k hk (by omega) t (Or.inr ⟨(gX_em hne).mp he, hB⟩)
          rw [hs, show 16 + Go g q - 16 = Go g q by omega] at this
          exact this
    · obtain ⟨-, k', -, -, -, -, -, q⟩ := q
      exact q
  rcases h _ hB with z | ⟨z, -⟩ | ⟨-, -, z⟩
  · omega
  · have := hg.1; omega
  · exact z
theorem cU_mono {f f' : Nat → Bool} {N : Nat} : ∀ m, m ≤ N → (∀ i, i < N → f i = true → f' i = true) → cU f N m ≤ cU f' N m
  | 0, _, _ => Nat.le_refl _
  | m + 1, hm, h => by
    have ih := cU_mono m (by omega) h
    have h1 := h (N - 1 - m) (by omega)
    rw [cU_s, cU_s]
    by_cases c : f (N - 1 - m) = true
    · rw [if_pos c, if_pos (h1 c)]; omega
    · rw [if_neg c]; split <;> omega
theorem cB_zero {f : Nat → Bool} : ∀ N, cB f N = 0 ↔ ∀ i, i < N → f i ≠ true
  | 0 => ⟨fun _ i hi => absurd hi (by omega), fun _ => rfl⟩
  | N + 1 => by
    have ih := cB_zero (f := f) N
    rw [cB_s]
    constructor
    · intro h i hi
      by_cases c : i = N
      · intro z
        rw [c] at z
        rw [if_pos z] at h
        omega
      · exact ih.mp (by omega) i (by omega)
    · intro h
      rw [if_neg (h N (by omega)), ih.mpr (fun i hi => h i (by omega))]
/-- no conflicts: no cell with two actions -/
theorem zcn_0 (hg : GR g) {kd : Nat} {lv : Nat → Int} : zcn g kd lv false = 0 ↔ Sb (zS g (kb kd)) = false ∧ ∀ t y, t < Sn (zS g (kb kd)) → y < 9 → ztt g kd t y ≤ 1 := by
  unfold zcn
  by_cases c : Sb (zS g (kb kd)) = true
  · rw [if_pos c]
    exact ⟨fun z => absurd z (by decide), fun z => absurd z.1 (by rw [c]; decide)⟩
  · rw [if_neg c]
    have hc : Sb (zS g (kb kd)) = false := by simpa using c
    have hz : (cB (zcv g kd lv false) (9 * Sn (zS g (kb kd))) : Int) = 0 ↔ cB (zcv g kd lv false) (9 * Sn (zS g (kb kd))) = 0 := by omega
    rw [hz, cB_zero]
    have hv : ∀ i, zcv g kd lv false i ≠ true ↔ ztt g kd (i / 9) (i % 9) ≤ 1 := by
      intro i
      have : zcv g kd lv false i = decide (1 < ztt g kd (i / 9) (i % 9)) := if_neg (by decide)
      rw [this]
      simp
    constructor
    · intro h
      refine ⟨hc, fun t y ht hy => ?_⟩
      have := (hv (9 * t + y)).mp (h (9 * t + y) (by omega))
      rw [show (9 * t + y) / 9 = t by omega, show (9 * t + y) % 9 = y by omega] at this
      exact this
    · rintro ⟨-, h⟩ i hi
      exact (hv i).mpr (h _ _ (by omega) (Nat.mod_lt _ (by omega)))
theorem b01_mono {b b' : Bool} (h : b = true → b' = true) : b01 b ≤ b01 b' := by
  cases b with
  | false => rw [b01_f]; have := b01_rg b'; omega
  | true => rw [h rfl]; omega
theorem ztt_mono {kd kd' t t' y : Nat} (h1 : zsh g kd t y = true → zsh g kd' t' y = true) (h2 : zac g kd t y = true → zac g kd' t' y = true) (h3 : ∀ p, p < Gn g → zrd g kd t p y → zrd g kd' t' p y) : ztt g kd t y ≤ ztt g kd' t' y := by
  have e1 := b01_mono h1
  have e2 := b01_mono h2
  have e3 : zct g kd t y ≤ zct g kd' t' y := cU_mono _ (Nat.le_refl _) (fun p hp z => zdb_t.mpr (h3 p hp (zdb_t.mp z)))
  unfold ztt
  omega
/-- SIMPLE has no conflicts: neither has MERGED -/
theorem clean12 (hg : GR g) {lv : Nat → Int} (h : zcn g 1 lv false = 0) : zcn g 2 lv false = 0 := by
  obtain ⟨hb, h1⟩ := (zcn_0 hg).mp h
  refine (zcn_0 hg).mpr ⟨hb, fun t y ht hy => Int.le_trans (ztt_mono (kd' := 1) (t' := t) (fun z => z) (fun z => z) (fun p hp z => ?_)) (h1 t y ht hy)⟩
  refine ⟨z.1, ?_⟩
  rw [if_pos rfl, if_neg (by have := hg.1; omega)]
  have z2 := z.2
  rw [if_neg (by decide)] at z2
  exact la_fol hg hp hy z2
/-- MERGED has no conflicts: neither has WHOLE, where it isn't too large -/
theorem clean23 (hg : GR g) {lv : Nat → Int} (h : zcn g 2 lv false = 0) (hb : Sb (zS g false) = false) : zcn g 3 lv false = 0 := by
  obtain ⟨hb', h1⟩ := (zcn_0 hg).mp h
  refine (zcn_0 hg).mpr ⟨hb, fun t y ht hy => ?_⟩
  have ht : t < Sn (zS g false) := ht
  have hb' : Sb (zS g true) = false := hb'
  obtain ⟨t0, ht0, e⟩ := prj_st hg hb hb' (t + 1) t (by omega) ht
  refine Int.le_trans (ztt_mono (kd' := 2) (t' := t0) (fun z => ?_) (fun z => ?_) (fun p hp z => ?_)) (h1 t0 y ht0 hy)
  · obtain ⟨h8, hm⟩ := zdb_t.mp z
    refine zdb_t.mpr ⟨h8, fun z2 => ?_⟩
    rcases zS_go hg hb ht (show y < 24 by omega) with ⟨q, -⟩ | ⟨t1, -, -, -, p, k, hpk⟩
    · exact hm q
    · rcases zS_go hg hb' ht0 (show y < 24 by omega) with ⟨-, q⟩ | ⟨t2, q, -⟩
      · refine q ⟨p, k, ?_⟩
        rw [e, prj_adv]
        exact ⟨rfl, hpk⟩
      · have z2 : Sm (zS g true) t0 y = -1 := z2
        omega
  · obtain ⟨q1, q2⟩ := zdb_t.mp z
    exact zdb_t.mpr ⟨zR_sub hg hb hb' ht ht0 e q1, q2⟩
  · refine ⟨zR_sub hg hb hb' ht ht0 e z.1, ?_⟩
    have z2 := z.2
    rw [if_neg (by decide)] at z2 ⊢
    exact zR_sub hg hb hb' ht ht0 e z2
theorem zcn_ge {kd : Nat} {lv : Nat → Int} : zcn g kd lv true ≤ zcn g kd lv false ∧ (zcn g kd lv true = -2 ↔ zcn g kd lv false = -2) ∧ (zcn g kd lv false = -2 ↔ Sb (zS g (kb kd)) = true) := by
  unfold zcn
  by_cases c : Sb (zS g (kb kd)) = true
  · rw [if_pos c, if_pos c]; exact ⟨Int.le_refl _, Iff.rfl, fun _ => c, fun _ => rfl⟩
  · rw [if_neg c, if_neg c]
    have := cB_mono (f := zcv g kd lv true) (g := zcv g kd lv false) (9 * Sn (zS g (kb kd))) (fun i _ h => by
      have h : zst g kd lv (i / 9) (i % 9) = true := by
        have e : zcv g kd lv true i = zst g kd lv (i / 9) (i % 9) := if_pos rfl
        rw [← e]; exact h
      have e : zcv g kd lv false i = decide (1 < ztt g kd (i / 9) (i % 9)) := if_neg (by decide)
      rw [e]
      exact decide_eq_true (ztt_st h))
    refine ⟨by omega, by omega, fun z => ?_, fun z => absurd z c⟩
    omega
end TB_
