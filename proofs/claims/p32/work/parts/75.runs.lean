/-! ===== calls: cells in conflict, the runs ===== -/
theorem c_run {n : Nat} (hn : 1000000000000000000000000000000 ≤ n) {u kd : Nat} {g : GT} {J L : Nat → Nat → Int} {lv sd : Nat → Int} {w : Nat → Nat} {nw : Nat} (q : CTB u g kd J L) (hl : CLV lv sd J) (hs : CSE w J) (hsw : SW w nw) (hk : kd ≤ 3) : ∃ J1, (kd = 0 → f_X5_run n 145 (hp u J L) = some ((zpr g kd lv sd w).1, hp u J1 L)) ∧ (kd ≠ 0 → f_X9_run n (tb kd) (hp u J L) = some ((zpr g kd lv sd w).1, hp u J1 L)) ∧ CQO u g J L J1 L ∧ ((zpr g kd lv sd w).1 = -1 → J1 (tb kd) 0 = (zpr g kd lv sd w).2) := by
  by_cases c : kd = 0
  · subst c
    obtain ⟨J1, e, f, hv⟩ := X5_run (u := u) hn q hs hsw
    exact ⟨J1, fun _ => e, fun z => absurd rfl z, ⟨f.up (fun a z => by simp [PUL] at z; simp [CLQ]; omega), Fr.rf, (q.ownp f).1⟩, hv⟩
  · have hk1 : 1 ≤ kd ∧ kd ≤ 3 := by omega
    obtain ⟨J1, e, f, e2, hv⟩ := X9_run (u := u) hn q hl hs hsw hk1
    have hz : zpr g kd lv sd w = zrun g kd lv sd w := if_neg c
    rw [hz]
    refine ⟨J1, fun z => absurd z c, fun _ => e, ⟨f.up (fun a z => ?_), Fr.rf, (q.own3 hk1 f e2).1⟩, hv⟩
    have := (tb_m hk1).1
    simp at z this; simp [CLQ]; omega
