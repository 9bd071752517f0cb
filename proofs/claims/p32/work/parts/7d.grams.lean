/-! ===== calls: rules are taken back, entered, brought ===== -/
section GRM
variable {u : Nat} {ps ps1 : List (Nat × List Nat)} {rs rs1 : List (Nat × List Int)} {t : List Int} {lv sd : Nat → Int} {w : Nat → Nat} {nw tp tq : Nat} {J J1 J2 L L' : Nat → Nat → Int}
theorem CG.cnt (c : CG (gU u) J ps rs) : f_X4_count (gU u) (hp u J L) = some ((ps.length : Nat) : Int) := by
  have hgm := gU_mem u
  have e := c.1.2.1
  simp (disch := omega) only [f_X4_count, ↓dhi_G hgm, ↓dhG_G_0 hgm, ↓dhG_G_1 hgm, ↓dhG_G_2 hgm, ↓dhg_G_3 hgm, ↓dhq_G_3 hgm, ↓dhG_G_4 hgm, ↓dhG_G_5 hgm, ↓dhg_G_6 hgm, ↓dhq_G_6 hgm, ↓dhg_G_7 hgm, ↓dhq_G_7 hgm, ↓dhG_G_8 hgm, ↓dhG_G_9 hgm, ↓dha_G_1 hgm, ↓dhs_G_1 hgm, ↓dhl_G_1 hgm, ↓dha_G_2 hgm, ↓dhs_G_2 hgm, ↓dhl_G_2 hgm, ↓dha_G_3 hgm, ↓dhs_G_3 hgm, ↓dhl_G_3 hgm, ↓dha_G_4 hgm, ↓dhl_G_4 hgm, ↓dha_G_5 hgm, ↓dhs_G_5 hgm, ↓dhl_G_5 hgm, Option.bind_some, ↓nm_eq, ↓sm_inl, ↓sm_inr, ↓dzo_0, ↓dzo_1, ↓drg_ok, ↓if_pos, ↓if_neg, if_pos, if_neg, if_true, if_false, Int.toNat_natCast, rg_ok, e]
theorem fgt_cg {v : Nat} (hv : v ∈ [3, 87]) (c : CG v J ps rs) (h24 : rs.length ≤ 24) : CG v (fgt J) ps rs := c.eq h24 (fun a h1 h2 => fgt_a (by rcases gG4 hv with q | q <;> omega))
end GRM
