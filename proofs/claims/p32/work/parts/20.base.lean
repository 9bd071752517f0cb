/-! ===== the abstract heap: how many cells, of what shape (kind, class or length), what they hold ===== -/
abbrev gx_H : Type := Nat × (Nat → Nat × Nat) × (Nat → Nat → Int32) × (Nat → Nat → Int64) × (Nat → Nat → Option Nat)
abbrev gx_O : Type := Option Value ⊕ String
/-- a method: its name, code, locals, what it returns, its table of handlers, its room -/
abbrev gx_M : Type := MethodName × ByteArray × Nat × Option FieldType × List (Nat × Nat × Nat × Nat) × Room × Option (Nat × (Nat → Int32))
def gx_sz (h : gx_H) : Nat := h.1
def gx_S (h : gx_H) : Nat → Nat × Nat := h.2.1
def gx_I (h : gx_H) : Nat → Nat → Int32 := h.2.2.1
def gx_L (h : gx_H) : Nat → Nat → Int64 := h.2.2.2.1
def gx_R (h : gx_H) : Nat → Nat → Option Nat := h.2.2.2.2
def gx_u {α : Type} (f : Nat → Nat → α) (a k : Nat) (v : α) : Nat → Nat → α := fun i j => if i = a then (if j = k then v else f i j) else f i j
def gx_wI (h : gx_H) (a k : Nat) (x : Int32) : gx_H := (h.1, h.2.1, gx_u h.2.2.1 a k x, h.2.2.2.1, h.2.2.2.2)
def gx_wL (h : gx_H) (a k : Nat) (x : Int64) : gx_H := (h.1, h.2.1, h.2.2.1, gx_u h.2.2.2.1 a k x, h.2.2.2.2)
def gx_wR (h : gx_H) (a k : Nat) (x : Option Nat) : gx_H := (h.1, h.2.1, h.2.2.1, h.2.2.2.1, gx_u h.2.2.2.2 a k x)
def gx_nw (h : gx_H) (sh : Nat × Nat) : gx_H := (h.1 + 1, (fun i => if i = h.1 then sh else h.2.1 i), (fun i => if i = h.1 then fun _ => 0 else h.2.2.1 i), (fun i => if i = h.1 then fun _ => 0 else h.2.2.2.1 i), (fun i => if i = h.1 then fun _ => none else h.2.2.2.2 i))
def gx_cv (adr : Nat → Nat) : Value → Value
  | .ref i => .ref (adr i)
  | v => v
theorem gx_cv_cat (adr : Nat → Nat) (v : Value) : (gx_cv adr v).category = v.category := by cases v <;> rfl
theorem gx_cv_rf (adr : Nat → Nat) (r : Option Nat) : gx_cv adr (va_rf r) = va_rf (r.map adr) := by cases r <;> rfl
theorem gx_cats (adr : Nat → Nat) : ∀ st : List Value, ((st.map (gx_cv adr)).map fun v => v.category).sum = (st.map fun v => v.category).sum
  | [] => rfl
  | v :: st => by simp only [List.map_cons, List.sum_cons, gx_cv_cat]; rw [gx_cats adr st]
def gx_tyt : List (Nat → FieldType) := [tyX0, tyX2, tyX3, tyX4, tyX5, tyX6, tyX7, tyX8, tyX9, tyX11]
def gx_ft (ci k : Nat) : FieldType := (gx_tyt.getD ci tyX0) k
def gx_isR : FieldType → Bool
  | .object _ => true
  | .array _ => true
  | _ => false
def gx_c (ci : Nat) : vw_C := vwCl.getD ci ("", TX0, 0)
def gx_fv (adr : Nat → Nat) (h : gx_H) (ci i k : Nat) : Value := if gx_isR (gx_ft ci k) = true then va_rf ((gx_R h i k).map adr) else .int (gx_I h i k)
def gx_cell (adr : Nat → Nat) (K : Nat → ClassId) (h : gx_H) (i : Nat) : va_E :=
  if (gx_S h i).1 = 0 then .inr ((gx_S h i).2, (List.range (gx_c (gx_S h i).2).2.2).map (gx_fv adr h (gx_S h i).2 i))
  else .inl (K (gx_S h i).1, (gx_S h i).2, if (gx_S h i).1 = 2 then .inr (.inl (gx_L h i)) else if (gx_S h i).1 = 5 then .inr (.inr (.inr (.inr (fun j => (gx_R h i j).map adr)))) else .inl (gx_I h i))
def gx_w (adr : Nat → Nat) (K : Nat → ClassId) (h : gx_H) : va_W := (List.range (gx_sz h)).map fun i => (adr i, gx_cell adr K h i)
theorem gx_w_at {adr : Nat → Nat} {K : Nat → ClassId} {h : gx_H} {i : Nat} (hi : i < gx_sz h) : (gx_w adr K h)[i]? = some (adr i, gx_cell adr K h i) := by
  rw [gx_w, List.getElem?_map, List.getElem?_range hi]; rfl
theorem gx_w_len {adr : Nat → Nat} {K : Nat → ClassId} {h : gx_H} : (gx_w adr K h).length = gx_sz h := by rw [gx_w, List.length_map, List.length_range]
theorem gx_w_set {adr : Nat → Nat} {K : Nat → ClassId} {h h' : gx_H} {i : Nat} {e : va_E} (hsz : gx_sz h' = gx_sz h) (he : gx_cell adr K h' i = e) (ho : ∀ j, j ≠ i → gx_cell adr K h' j = gx_cell adr K h j) : (gx_w adr K h).set i (adr i, e) = gx_w adr K h' := by
  apply List.ext_getElem?
  intro j
  by_cases hj : j < gx_sz h
  · by_cases hji : j = i
    · subst hji
      rw [List.getElem?_set_self (by rw [gx_w_len]; exact hj), gx_w_at (by rw [hsz]; exact hj), he]
    · rw [List.getElem?_set_ne (Ne.symm hji), gx_w_at hj, gx_w_at (by rw [hsz]; exact hj), ho j hji]
  · rw [List.getElem?_eq_none (by rw [List.length_set, gx_w_len]; omega), List.getElem?_eq_none (by rw [gx_w_len, hsz]; omega)]
theorem gx_cell_o {adr : Nat → Nat} {K : Nat → ClassId} {h : gx_H} {i ci : Nat} (hS : gx_S h i = (0, ci)) : gx_cell adr K h i = .inr (ci, (List.range (gx_c ci).2.2).map (gx_fv adr h ci i)) := by
  rw [gx_cell, hS]; rfl
theorem gx_cell_i {adr : Nat → Nat} {K : Nat → ClassId} {h : gx_H} {i n kd : Nat} (hS : gx_S h i = (kd, n)) (h0 : kd ≠ 0) (h2 : kd ≠ 2) (h5 : kd ≠ 5) : gx_cell adr K h i = .inl (K kd, n, .inl (gx_I h i)) := by
  rw [gx_cell, hS]; simp only [if_neg h0, if_neg h2, if_neg h5]
theorem gx_cell_l {adr : Nat → Nat} {K : Nat → ClassId} {h : gx_H} {i n : Nat} (hS : gx_S h i = (2, n)) : gx_cell adr K h i = .inl (K 2, n, .inr (.inl (gx_L h i))) := by
  rw [gx_cell, hS]; rfl
theorem gx_cell_q {adr : Nat → Nat} {K : Nat → ClassId} {h : gx_H} {i n : Nat} (hS : gx_S h i = (5, n)) : gx_cell adr K h i = .inl (K 5, n, .inr (.inr (.inr (.inr (fun j => (gx_R h i j).map adr))))) := by
  rw [gx_cell, hS]; rfl
theorem gx_row_ne {α : Type} {f : Nat → Nat → α} {a k j : Nat} {v : α} (h : j ≠ a) : gx_u f a k v j = f j := by funext z; simp [gx_u, h]
theorem gx_cell_ext {adr : Nat → Nat} {K : Nat → ClassId} {h h' : gx_H} {j : Nat} (hS : gx_S h' j = gx_S h j) (hI : gx_I h' j = gx_I h j) (hL : gx_L h' j = gx_L h j) (hR : gx_R h' j = gx_R h j) : gx_cell adr K h' j = gx_cell adr K h j := by
  have hf : gx_fv adr h' (gx_S h j).2 j = gx_fv adr h (gx_S h j).2 j := by funext k; rw [gx_fv, gx_fv, hI, hR]
  rw [gx_cell, gx_cell, hS, hf, hI, hL, hR]
theorem gx_fvs_set {adr : Nat → Nat} {h h' : gx_H} {ci i k N : Nat} {v : Value} (hk : gx_fv adr h' ci i k = v) (ho : ∀ j, j ≠ k → gx_fv adr h' ci i j = gx_fv adr h ci i j) : ((List.range N).map (gx_fv adr h ci i)).set k v = (List.range N).map (gx_fv adr h' ci i) := by
  apply List.ext_getElem?
  intro j
  by_cases hj : j < N
  · by_cases hjk : j = k
    · subst hjk
      rw [List.getElem?_set_self (by rw [List.length_map, List.length_range]; exact hj), List.getElem?_map, List.getElem?_range hj, ← hk]; rfl
    · rw [List.getElem?_set_ne (Ne.symm hjk), List.getElem?_map, List.getElem?_map, List.getElem?_range hj]
      simp only [Option.map_some, ho j hjk]
  · rw [List.getElem?_eq_none (by rw [List.length_set, List.length_map, List.length_range]; omega), List.getElem?_eq_none (by rw [List.length_map, List.length_range]; omega)]
def gx_tk (K : Nat → ClassId) : List (ClassId × FieldType) := [(K 1, .int), (K 2, .long), (K 3, .char), (K 4, .boolean), (K 5, .object RX8)]
/-- the cells that a method may change: those of the abstract heap at its start, and what is made behind -/
def gx_A (adr : Nat → Nat) (sz n : Nat) : Nat → Prop := fun q => (∃ i, i < sz ∧ q = adr i) ∨ n ≤ q
/-- where cells are still made: what comes next comes at the end -/
def gx_T (al : Bool) (adr : Nat → Nat) (sz n : Nat) : Prop := al = true → ∀ i, sz + i < 100000 → adr (sz + i) = n + i
def gx_strs : List (String × Nat × String) := [(RX11, 107, "no letter of a rule"), (RX11, 118, "the text has 24 letters"), (RX11, 132, "the text is no rule"), (RX11, 138, "the grammar has no room for the rule"), (RX11, 149, "there is no rule"), (RX11, 153, "no such grammar"), (RX11, 160, "no such shift"), (RX11, 166, "the grammar has no room for the rules"), (RX11, 171, "no such nonterminal"), (RX11, 184, "no such terminal or side"), (RX11, 186, "no such level"), (RX11, 188, "no such production"), (RX11, 194, "no such production or place"), (RX11, 227, "no such place"), (RX11, 229, "no terminal is there"), (RX11, 278, "no such kind"), (RX11, 255, "no such place or terminal"), (RX11, 257, "the sentence has 12 terminals"), (RX11, 262, "the sentence is not accepted")]
def gx_nests : List (String × Nat × MethodName × String) := [("Grammarsmith", 11, ⟨"Grammarsmith$RuleText", "<init>", "()V"⟩, "Grammarsmith"), ("Grammarsmith$Grammar", 30, ⟨"Grammarsmith$RuleText", "<init>", "()V"⟩, "Grammarsmith"), ("Grammarsmith$Grammar", 37, ⟨"Grammarsmith$RuleReader", "<init>", "()V"⟩, "Grammarsmith"), ("Grammarsmith$PredictiveTable", 3, ⟨"Grammarsmith$Table", "<init>", "()V"⟩, "Grammarsmith"), ("Grammarsmith$StateTable", 3, ⟨"Grammarsmith$Table", "<init>", "()V"⟩, "Grammarsmith"), ("Grammarsmith$RuleText", 23, ⟨"Grammarsmith", "isNonterminalLetter", "(C)Z"⟩, "Grammarsmith"), ("Grammarsmith$RuleText", 35, ⟨"Grammarsmith", "isTerminalLetter", "(C)Z"⟩, "Grammarsmith"), ("Grammarsmith$RuleText", 41, ⟨"Grammarsmith", "isRepeat", "(C)Z"⟩, "Grammarsmith"), ("Grammarsmith$Facts", 133, ⟨"Grammarsmith", "isNonterminal", "(I)Z"⟩, "Grammarsmith"), ("Grammarsmith$Facts", 139, ⟨"Grammarsmith", "behindOf", "(II)I"⟩, "Grammarsmith"), ("Grammarsmith$Facts", 83, ⟨"Grammarsmith", "has", "(II)Z"⟩, "Grammarsmith"), ("Grammarsmith$Automaton", 73, ⟨"Grammarsmith", "isNonterminal", "(I)Z"⟩, "Grammarsmith"), ("Grammarsmith$Automaton", 84, ⟨"Grammarsmith", "behindOf", "(II)I"⟩, "Grammarsmith"), ("Grammarsmith$Automaton", 107, ⟨"Grammarsmith", "has", "(II)Z"⟩, "Grammarsmith"), ("Grammarsmith$PredictiveTable", 98, ⟨"Grammarsmith", "has", "(II)Z"⟩, "Grammarsmith"), ("Grammarsmith$StateTable", 98, ⟨"Grammarsmith", "isTerminal", "(I)Z"⟩, "Grammarsmith"), ("Grammarsmith$StateTable", 107, ⟨"Grammarsmith", "has", "(II)Z"⟩, "Grammarsmith"), ("Grammarsmith$Grammar", 60, ⟨"Grammarsmith", "isTerminal", "(I)Z"⟩, "Grammarsmith"), ("Grammarsmith$Chart", 102, ⟨"Grammarsmith", "isTerminal", "(I)Z"⟩, "Grammarsmith"), ("Grammarsmith$Grammar", 67, ⟨"Grammarsmith", "isNonterminal", "(I)Z"⟩, "Grammarsmith"), ("Grammarsmith$Grammar", 70, ⟨"Grammarsmith", "has", "(II)Z"⟩, "Grammarsmith"), ("Grammarsmith$RuleReader", 33, ⟨"Grammarsmith", "isTerminalLetter", "(C)Z"⟩, "Grammarsmith"), ("Grammarsmith$RuleReader", 41, ⟨"Grammarsmith", "isNonterminalLetter", "(C)Z"⟩, "Grammarsmith"), ("Grammarsmith$RuleReader", 48, ⟨"Grammarsmith", "isRepeat", "(C)Z"⟩, "Grammarsmith"), ("Grammarsmith$PredictiveTable", 52, ⟨"Grammarsmith", "lookAt", "([II)I"⟩, "Grammarsmith"), ("Grammarsmith$PredictiveTable", 73, ⟨"Grammarsmith", "isTerminal", "(I)Z"⟩, "Grammarsmith"), ("Grammarsmith$PredictiveTable", 65, ⟨"Grammarsmith", "isNonterminal", "(I)Z"⟩, "Grammarsmith"), ("Grammarsmith$StateTable", 53, ⟨"Grammarsmith", "lookAt", "([II)I"⟩, "Grammarsmith")]
def gx_exs : List String := ["java/lang/IllegalArgumentException", "java/lang/IllegalStateException", "java/lang/IndexOutOfBoundsException"]
def gx_ncs : List (String × String) := [("java/lang/IllegalStateException", "java/lang/IllegalArgumentException"), ("java/lang/IllegalStateException", "java/lang/IndexOutOfBoundsException"), ("java/lang/IllegalArgumentException", "java/lang/IndexOutOfBoundsException")]
def gx_decls : List MethodName := [⟨"Grammarsmith$Table", "extent", "()I"⟩, ⟨"Grammarsmith$Table", "clashes", "()I"⟩, ⟨"Grammarsmith$Table", "easedClashes", "()I"⟩, ⟨"Grammarsmith$Chart", "none", "()I"⟩, ⟨"Grammarsmith$Chart", "blank", "(II)I"⟩, ⟨"Grammarsmith$Chart", "ofTerminal", "(III)I"⟩, ⟨"Grammarsmith$Chart", "look", "(I)I"⟩, ⟨"Grammarsmith$Chart", "both", "(II)I"⟩, ⟨"Grammarsmith$Chart", "either", "(II)I"⟩, ⟨"Grammarsmith$Chart", "ofNonterminal", "(II)I"⟩, ⟨"Grammarsmith$Chart", "facts", "()LGrammarsmith$Facts;"⟩, ⟨"java/lang/RuntimeException", "<init>", "()V"⟩, ⟨"java/lang/RuntimeException", "<init>", "(Ljava/lang/String;)V"⟩, ⟨"java/lang/Exception", "<init>", "()V"⟩, ⟨"java/lang/Exception", "<init>", "(Ljava/lang/String;)V"⟩, ⟨"java/lang/Throwable", "<init>", "()V"⟩, ⟨"java/lang/Throwable", "<init>", "(Ljava/lang/String;)V"⟩, ⟨"Grammarsmith$Table", "run", "()I"⟩, ⟨"Grammarsmith$Table", "keepWorth", "(I)V"⟩]
/-- what the tables say of the machine beside the good words -/
def gx_V (s : State) : Prop := (∀ q ∈ gx_strs, ∃ a, vk_R q.1 q.2.1 q.2.2 a s) ∧ (∀ q ∈ gx_nests, va_Nw (.methodLinkNest q.1 q.2.1 q.2.2.1 q.2.2.2) s) ∧ va_AO RX8 s ∧ (∀ E ∈ gx_exs, va_Nw (.castable E E) s) ∧ (∀ q ∈ gx_ncs, va_Nc q.1 q.2 s) ∧ ∀ x ∈ gx_decls, va_Nw (.declares x) s
theorem gx_V.warm {s U : State} (hW : s.WarmedH U.vm) (h : gx_V s) : gx_V U := ⟨fun q hq => by obtain ⟨a, ha⟩ := h.1 q hq; exact ⟨a, ha.warm hW⟩, fun q hq => va_Nw.warmM hW (h.2.1 q hq), h.2.2.1.moved hW.alike, fun E hE => va_Nw.warmC hW (h.2.2.2.1 E hE), fun q hq => (h.2.2.2.2.1 q hq).moved hW.alike, fun x hx => va_Nw.warmD hW (h.2.2.2.2.2 x hx)⟩
def gx_X (A : Nat → Prop) (s : State) (H : Heap) : Prop := vx_Zq Bundle.tN "UNASSIGNED_STACK" Bundle.steD A s H ∧ vx_Zq Bundle.tN "SUPPRESSED_SENTINEL" Bundle.listD A s H ∧ gx_V s
/-- 'selects' of an abstract class's private methods for the classes below it, out of the tables' words -/
def gx_pz : List (String × String) := [("fill", "(II)V"), ("setWhole", "(IIII)V"), ("refine", "(II)Z"), ("ofProduction", "(III)I"), ("setPart", "(IIII)V"), ("part", "(III)I"), ("whole", "(III)I")]
def gx_pC : List String := ["Grammarsmith$CountingChart", "Grammarsmith$RepairingChart"]
def gx_pm (q : String × String) : MethodName := ⟨"Grammarsmith$Chart", q.1, q.2⟩
def gx_xs : List Cond := gx_pC.flatMap fun C => gx_pz.map fun q => Cond.selects C (gx_pm q) (gx_pm q)
theorem gx_selpriv {C : String} {y z : MethodName} {s : State} {args : Array Value} (hy : y.cls ≠ "java/lang/invoke/MethodHandle" ∧ y.cls ≠ "java/lang/invoke/VarHandle") (hz : z.cls = y.cls)
    (hs : (Cond.selects C z z).before args s = true) (hpriv : (Cond.privateMethod y).before args s = true) (hinst : (Cond.instanceMethod y).before args s = true) : (Cond.selects C y y).before args s = true := by
  obtain ⟨c, r, m, hc, -, hm, -, k, hk, hni⟩ := Cond.selects_spec hs
  obtain ⟨m2, meth, hnamed, hmeth, -, -⟩ := Cond.instanceMethod_spec hinst
  have hfound : s.methodFound? y.cls y.name y.desc = some m2 := State.methodFound?_of_named hnamed hy
  have hcls : m2.cls = m.cls := by
    have h1 := findClass_of_methodNamed hnamed
    have h2 := findClass_of_methodNamed hm
    rw [hz] at h2
    exact Option.some.inj (h1.symm.trans h2)
  have hsel : selectMethod {} s.vm c m2 = .method m2 := selectMethod_private hmeth (Cond.privateMethod_at hpriv m2 meth hnamed hmeth)
  simp only [Cond.before, Cond.holds, Cond.value, hc, hfound, hnamed, hsel, hcls, hk]
  simp; exact hni
def gx_tb : List Cond := (gx_xs ++ lw_tbl).filter goodWord
theorem gx_tbS {s : State} {args : Array Value} (h : ∀ w ∈ lw_tbl, w.before args s = true) : ∀ w ∈ gx_tb, w.before args s = true := by
  intro w hw
  rcases List.mem_append.mp (List.mem_filter.mp hw).1 with hw | hw
  · obtain ⟨C, hC, hw⟩ := List.mem_flatMap.mp hw
    obtain ⟨q, hq, rfl⟩ := List.mem_map.mp hw
    have k1 : ∀ C ∈ gx_pC, Cond.selects C (gx_pm ("measure", "(I)I")) (gx_pm ("measure", "(I)I")) ∈ tables_1 := by decide +kernel
    have k2 : ∀ q ∈ gx_pz, Cond.privateMethod (gx_pm q) ∈ tables_1 ∧ Cond.instanceMethod (gx_pm q) ∈ tables_1 := by decide +kernel
    have up : ∀ w ∈ tables_1, w.before args s = true := fun w hw => h w (List.mem_append_right _ hw)
    exact gx_selpriv (z := gx_pm ("measure", "(I)I")) ⟨by show "Grammarsmith$Chart" ≠ _; decide +kernel, by show "Grammarsmith$Chart" ≠ _; decide +kernel⟩ rfl (up _ (k1 C hC)) (up _ (k2 q hq).1) (up _ (k2 q hq).2)
  · exact h w hw
theorem gx_ok {w : Cond} (h : w ∈ tables_1) (g : goodWord w = true) : w ∈ gx_tb := List.mem_filter.mpr ⟨List.mem_append_right _ (List.mem_append_right _ h), g⟩
theorem gx_oks {w : Cond} (h : w ∈ k2_sels lw_privs) (g : goodWord w = true) : w ∈ gx_tb := List.mem_filter.mpr ⟨List.mem_append_right _ (List.mem_append_left _ h), g⟩
theorem gx_okx {w : Cond} (h : w ∈ gx_xs) (g : goodWord w = true) : w ∈ gx_tb := List.mem_filter.mpr ⟨List.mem_append_left _ h, g⟩
theorem gx_goodIn {a : Cond} {ws : List Cond} (h : ∀ w ∈ ws, w ∈ gx_tb) : GoodIn (a :: gx_tb) ws := fun w hw => ⟨List.mem_cons_of_mem _ (h w hw), good_of_word (List.mem_filter.mp (h w hw)).2⟩
def gx_y (M : gx_M) : MethodName := M.1
def gx_b (M : gx_M) : ByteArray := M.2.1
def gx_n (M : gx_M) : Nat := M.2.2.1
def gx_r (M : gx_M) : Option FieldType := M.2.2.2.1
def gx_hh (M : gx_M) : List (Nat × Nat × Nat × Nat) := M.2.2.2.2.1
def gx_rm (M : gx_M) : Room := M.2.2.2.2.2.1
/-- the law's script: how long, and what it holds; it lies at the abstract place 100000 -/
def gx_sc (M : gx_M) : Option (Nat × (Nat → Int32)) := M.2.2.2.2.2.2
/-- how many cells of the abstract heap stood ahead of the method: none for the law -/
def gx_lw (M : gx_M) : Bool := (gx_y M).name == "law"
def gx_s0 (M : gx_M) (z : Nat) : Nat := match gx_sc M with
  | none => z
  | some _ => if gx_lw M = true then 0 else if z ≤ 100000 then z else 0
def gx_Sc (M : gx_M) (adr : Nat → Nat) (s : State) : Prop := ∀ q, gx_sc M = some q → va_X (adr 100000) q.1 q.2 s s.heap ∧ adr 100000 < s.heap.size ∧ ∀ i, i < 100000 → adr i ≠ adr 100000
def gx_cw (M : gx_M) : Cond := if gx_hh M = [] then .code (gx_y M) (gx_b M) (gx_n M) (gx_r M) else .codeWith (gx_y M) (gx_b M) (gx_n M) (gx_r M) (gx_hh M)
def gx_Cx (M : gx_M) (adr : Nat → Nat) (p : Program) (l : Launch) (s : State) (m : MethodId) (args : Array Value) (meth : Method) (c : Code) : Prop :=
  p.tables.exec = Jvm.exec ∧ c.code = gx_b M ∧ c.maxLocals = gx_n M ∧ s.vm.findClass (gx_y M).cls = some m.cls ∧ (∀ w ∈ gx_cw M :: gx_tb, w.before args s = true) ∧ meth.sig.returnType = gx_r M ∧ meth.locks = false ∧ (meth.name = (gx_y M).name ∧ gx_Sc M adr s) ∧ c.exceptionTable.toList = tableOf (gx_hh M) ∧ l.stackTraces = false
def gx_Rl (D : va_G) (adr : Nat → Nat) (K : Nat → ClassId) (al : Bool) (sz0 : Nat) (h : gx_H) (s : State) (H : Heap) (locs : List Loc) : Prop :=
  va_P D vwCl (gx_w adr K h) H ∧ va_K D vwCl (gx_tk K) s ∧ va_D (gx_A adr sz0 s.heap.size) (gx_w adr K h) ∧ va_S (gx_A adr sz0 s.heap.size) s.heap H locs ∧ gx_T al adr (gx_sz h) H.size ∧ gx_X (gx_A adr sz0 s.heap.size) s s.heap
def gx_Po (D : va_G) (adr : Nat → Nat) (K : Nat → ClassId) (al : Bool) (A : Nat → Prop) (h : gx_H) (t : State) : Prop :=
  va_P D vwCl (gx_w adr K h) t.heap ∧ va_K D vwCl (gx_tk K) t ∧ va_D A (gx_w adr K h) ∧ gx_T al adr (gx_sz h) t.heap.size
def gx_Qc (D : va_G) (adr : Nat → Nat) (K : Nat → ClassId) (al : Bool) (sz0 : Nat) (o : gx_O) (h1 : gx_H) : Array Value → State → Outcome → State → Prop := fun _ st oc t =>
  (∃ v, o = .inl v ∧ oc = .returned (v.map (gx_cv adr))) ∧ gx_Po D adr K al (gx_A adr sz0 st.heap.size) h1 t ∧ va_F (gx_A adr sz0 st.heap.size) st t
def gx_XC (D : va_G) (adr : Nat → Nat) (K : Nat → ClassId) (al : Bool) (sz0 : Nat) (o : gx_O) (h1 : gx_H) : String → State → State → Prop := fun E st t =>
  o = .inr E ∧ gx_Po D adr K al (gx_A adr sz0 st.heap.size) h1 t ∧ va_F (gx_A adr sz0 st.heap.size) st t
def gx_Pr (D : va_G) (adr : Nat → Nat) (K : Nat → ClassId) (al : Bool) (h : gx_H) (U : State) : Prop :=
  va_P D vwCl (gx_w adr K h) U.heap ∧ va_K D vwCl (gx_tk K) U ∧ va_D (fun _ => True) (gx_w adr K h) ∧ gx_T al adr (gx_sz h) U.heap.size ∧ gx_X (gx_A adr (gx_sz h) U.heap.size) U U.heap
def gx_lv (adr : Nat → Nat) (ls : List (Nat × Value)) : List (Nat × Value) := ls.map fun q => (q.1, gx_cv adr q.2)
/-- THE JUDGEMENT: from the row pc with these locals, this stack and this abstract heap, the method ends as o says, with the abstract heap h1 -/
def gx_Z (M : gx_M) (al af : Bool) (kc ks pc : Nat) (ls : List (Nat × Value)) (st : List Value) (h : gx_H) (o : gx_O) (h1 : gx_H) : Prop :=
  ∀ (p : Program) (l : Launch) (e : Env) (s : State) (m : MethodId) (args : Array Value) (below : List Frame) (meth : Method) (c : Code) (H : Heap) (locs : List Loc) (la : Array Slot) (D : va_G) (adr : Nat → Nat) (K : Nat → ClassId) (sz0 : Nat),
    gx_Cx M adr p l s m args meth c → lv_has la (gx_n M) (gx_lv adr ls) → gx_Rl D adr K al (gx_s0 M sz0) h s H locs →
    W p l e (gx_rm M) s m args below meth c H locs kc ks (vx_MQ below (gx_Qc D adr K af (gx_s0 M sz0) o h1) (gx_XC D adr K af (gx_s0 M sz0) o h1) args s (gx_rm M).cells (gx_rm M).slots (gx_A adr (gx_s0 M sz0) s.heap.size)) (F0 m pc la (st.map (gx_cv adr)))
/-- A METHOD'S CONTRACT: called with these arguments on this abstract heap it ends as o says, with h1 -/
def gx_Cw (M : gx_M) (al : Bool) (as : List Value) (h : gx_H) (o : gx_O) (h1 : gx_H) : Prop :=
  ∀ (l : Launch) (D : va_G) (adr : Nat → Nat) (K : Nat → ClassId) (n0 : Nat), l.stackTraces = false →
    vx_Met l (gx_y M) (gx_cw M :: gx_tb) (gx_rm M) (va_Pc (as.map (gx_cv adr)) (fun U => U.heap.size = n0 ∧ gx_Pr D adr K al h U)) (gx_Qc D adr K al (gx_sz h) o h1) (gx_XC D adr K al (gx_sz h) o h1) (gx_rm M).cells (gx_rm M).slots (gx_A adr (gx_sz h) n0)
theorem gx_lv_args (adr : Nat → Nat) : ∀ (as : List Value) (i : Nat), lv_args i (as.map (gx_cv adr)) = gx_lv adr (lv_args i as)
  | [], i => rfl
  | v :: as, i => by
    show (i, gx_cv adr v) :: lv_args _ (as.map (gx_cv adr)) = (i, gx_cv adr v) :: gx_lv adr (lv_args _ as)
    rw [gx_cv_cat, gx_lv_args adr as]
theorem gx_sl (adr : Nat → Nat) : ∀ (as : List Value), (lg_sl (as.map (gx_cv adr))).length = (lg_sl as).length
  | [] => rfl
  | v :: as => by
    have h := gx_sl adr as
    simp only [lg_sl, List.map_cons, List.flatMap_cons, List.length_append, gx_cv_cat] at h ⊢
    rw [h]
    split <;> rfl
theorem gx_Zq_own {C n d : String} {A B : Nat → Prop} {s U : State} {H : Heap} {H1 : Heap} (hvm : s.vm.Alike U.vm) (h : vx_Zq C n d A s H) (hk : ∀ q : Nat, q < H.size → ¬ A q → H1[q]? = H[q]?) (hAB : ∀ q, B q → A q) : vx_Zq C n d B U H1 := vx_Zq.moved hvm ((h.kept hk).narrow hAB)
/-- the body's walk gives the contract -/
theorem gx_enter {M : gx_M} {al : Bool} {as : List Value} {h : gx_H} {o : gx_O} {h1 : gx_H} (hy : plainName (gx_y M).cls = true) (hsc : gx_sc M = none) (hn : (lg_sl as).length ≤ gx_n M) (k : gx_Z M al al 0 0 0 (lv_args 0 as) [] h o h1) : gx_Cw M al as h o h1 := by
  intro l D adr K n0 hst
  have body : ∀ p e s m args below meth c s₁, BodyLoose p l (gx_y M) (headSpec (gx_cw M :: gx_tb) (gx_rm M)) (gx_b M) (gx_n M) (gx_r M) e s m args below meth c s₁ → c.maxLocals = gx_n M → c.exceptionTable.toList = tableOf (gx_hh M) → va_Pc (as.map (gx_cv adr)) (fun U => U.heap.size = n0 ∧ gx_Pr D adr K al h U) args s →
      W p l e (headSpec (gx_cw M :: gx_tb) (gx_rm M)).room s m args below meth c s.heap [] 0 0 (vx_MQ below (gx_Qc D adr K al (gx_sz h) o h1) (gx_XC D adr K al (gx_sz h) o h1) args s (gx_rm M).cells (gx_rm M).slots (gx_A adr (gx_sz h) n0)) (entryFrame m args (gx_n M)) := by
    intro p e s m args below meth c s₁ B hml htab hv
    obtain ⟨rfl, hsz, hP, hK, hD, hT, hX⟩ := hv
    have hts := atoms_spec (ws := gx_cw M :: gx_tb) B.pre
    have hown : s.vm.findClass (gx_y M).cls = some m.cls := findClass_of_methodNamed B.named
    have hin : meth.name = (gx_y M).name := (name_of_methodNamed B.named B.method).1
    subst hsz
    have hl := lv_entry (as.map (gx_cv adr)) (n := gx_n M) (by rw [gx_sl]; exact hn)
    rw [lg_entry_eq]
    generalize (lg_sl (as.map (gx_cv adr)) ++ List.replicate (gx_n M - (lg_sl (as.map (gx_cv adr))).length) Slot.unset).toArray = la at hl ⊢
    rw [gx_lv_args] at hl
    have e0 : gx_s0 M (gx_sz h) = gx_sz h := by rw [gx_s0, hsc]
    have k2 := k p l e s m _ below meth c s.heap [] la D adr K (gx_sz h) ⟨B.exec, B.bytes, hml, hown, hts, B.returns, B.notSynchronized, ⟨hin, fun q hq => by rw [hsc] at hq; cases hq⟩, htab, hst⟩ hl
    rw [e0] at k2
    refine k2 ⟨hP, hK, ⟨hD.1, fun i q hq => ?_⟩, va_S.rf, hT, hX⟩
    have hi : i < gx_sz h := by
      have := (List.getElem?_eq_some_iff.mp hq).1
      rwa [gx_w_len] at this
    rw [gx_w_at hi] at hq
    cases hq
    exact Or.inl ⟨i, hi, rfl⟩
  by_cases hh : gx_hh M = []
  · have hcw : gx_cw M = .code (gx_y M) (gx_b M) (gx_n M) (gx_r M) := by rw [gx_cw, if_pos hh]
    refine vx_ofW (cc := gx_b M) (maxL := gx_n M) (ret := gx_r M) (ws' := gx_tb) hy (by rw [hcw]) ?_
    intro p e s m args below meth c s₁ B hml htab hv
    refine body p e s m args below meth c s₁ B hml ?_ hv
    rw [hh]
    cases hc : c.exceptionTable.toList with
    | nil => rfl
    | cons x xs => exact (htab x (by rw [hc]; exact List.mem_cons_self)).elim
  · have hcw : gx_cw M = .codeWith (gx_y M) (gx_b M) (gx_n M) (gx_r M) (gx_hh M) := by rw [gx_cw, if_neg hh]
    refine vx_ofWH (cc := gx_b M) (maxL := gx_n M) (ret := gx_r M) (hh := gx_hh M) (ws' := gx_tb) hy (by rw [hcw]) ?_
    intro p e s m args below meth c s₁ B hml hv
    refine body p e s m args below meth c s₁ B hml (vx_table (x := gx_y M) B (y := gx_y M) (bytes := gx_b M) (maxL' := gx_n M) (ret' := gx_r M) ?_) hv
    rw [← hcw]
    exact atoms_spec (ws := gx_cw M :: gx_tb) B.pre _ List.mem_cons_self
/-- the contract of a method that is given the script -/
def gx_CwS (M : gx_M) (al : Bool) (as : List Value) (h : gx_H) (o : gx_O) (h1 : gx_H) : Prop :=
  gx_sz h ≤ 100000 → ∀ (l : Launch) (D : va_G) (adr : Nat → Nat) (K : Nat → ClassId) (n0 : Nat), l.stackTraces = false →
    vx_Met l (gx_y M) (gx_cw M :: gx_tb) (gx_rm M) (va_Pc (as.map (gx_cv adr)) (fun U => (U.heap.size = n0 ∧ gx_Pr D adr K al h U) ∧ gx_Sc M adr U)) (gx_Qc D adr K al (gx_sz h) o h1) (gx_XC D adr K al (gx_sz h) o h1) (gx_rm M).cells (gx_rm M).slots (gx_A adr (gx_sz h) n0)
theorem gx_enterS {M : gx_M} {al : Bool} {as : List Value} {h : gx_H} {o : gx_O} {h1 : gx_H} (hy : plainName (gx_y M).cls = true) (hsc : (gx_sc M).isSome = true) (hlw : gx_lw M = false) (hn : (lg_sl as).length ≤ gx_n M) (k : gx_Z M al al 0 0 0 (lv_args 0 as) [] h o h1) : gx_CwS M al as h o h1 := by
  intro hsz0 l D adr K n0 hst
  have body : ∀ p e s m args below meth c s₁, BodyLoose p l (gx_y M) (headSpec (gx_cw M :: gx_tb) (gx_rm M)) (gx_b M) (gx_n M) (gx_r M) e s m args below meth c s₁ → c.maxLocals = gx_n M → c.exceptionTable.toList = tableOf (gx_hh M) → va_Pc (as.map (gx_cv adr)) (fun U => (U.heap.size = n0 ∧ gx_Pr D adr K al h U) ∧ gx_Sc M adr U) args s →
      W p l e (headSpec (gx_cw M :: gx_tb) (gx_rm M)).room s m args below meth c s.heap [] 0 0 (vx_MQ below (gx_Qc D adr K al (gx_sz h) o h1) (gx_XC D adr K al (gx_sz h) o h1) args s (gx_rm M).cells (gx_rm M).slots (gx_A adr (gx_sz h) n0)) (entryFrame m args (gx_n M)) := by
    intro p e s m args below meth c s₁ B hml htab hv
    obtain ⟨rfl, ⟨hsz, hP, hK, hD, hT, hX⟩, hSc⟩ := hv
    have hts := atoms_spec (ws := gx_cw M :: gx_tb) B.pre
    have hown : s.vm.findClass (gx_y M).cls = some m.cls := findClass_of_methodNamed B.named
    have hin : meth.name = (gx_y M).name := (name_of_methodNamed B.named B.method).1
    subst hsz
    have hl := lv_entry (as.map (gx_cv adr)) (n := gx_n M) (by rw [gx_sl]; exact hn)
    rw [lg_entry_eq]
    generalize (lg_sl (as.map (gx_cv adr)) ++ List.replicate (gx_n M - (lg_sl (as.map (gx_cv adr))).length) Slot.unset).toArray = la at hl ⊢
    rw [gx_lv_args] at hl
    have e0 : gx_s0 M (gx_sz h) = gx_sz h := by
      unfold gx_s0
      cases hq : gx_sc M with
      | none => rfl
      | some q => simp only [hlw, if_pos hsz0]; rfl
    have k2 := k p l e s m _ below meth c s.heap [] la D adr K (gx_sz h) ⟨B.exec, B.bytes, hml, hown, hts, B.returns, B.notSynchronized, ⟨hin, hSc⟩, htab, hst⟩ hl
    rw [e0] at k2
    refine k2 ⟨hP, hK, ⟨hD.1, fun i q hq => ?_⟩, va_S.rf, hT, hX⟩
    have hi : i < gx_sz h := by
      have := (List.getElem?_eq_some_iff.mp hq).1
      rwa [gx_w_len] at this
    rw [gx_w_at hi] at hq
    cases hq
    exact Or.inl ⟨i, hi, rfl⟩
  by_cases hh : gx_hh M = []
  · have hcw : gx_cw M = .code (gx_y M) (gx_b M) (gx_n M) (gx_r M) := by rw [gx_cw, if_pos hh]
    refine vx_ofW (cc := gx_b M) (maxL := gx_n M) (ret := gx_r M) (ws' := gx_tb) hy (by rw [hcw]) ?_
    intro p e s m args below meth c s₁ B hml htab hv
    refine body p e s m args below meth c s₁ B hml ?_ hv
    rw [hh]
    cases hc : c.exceptionTable.toList with
    | nil => rfl
    | cons x xs => exact (htab x (by rw [hc]; exact List.mem_cons_self)).elim
  · have hcw : gx_cw M = .codeWith (gx_y M) (gx_b M) (gx_n M) (gx_r M) (gx_hh M) := by rw [gx_cw, if_neg hh]
    refine vx_ofWH (cc := gx_b M) (maxL := gx_n M) (ret := gx_r M) (hh := gx_hh M) (ws' := gx_tb) hy (by rw [hcw]) ?_
    intro p e s m args below meth c s₁ B hml hv
    refine body p e s m args below meth c s₁ B hml (vx_table (x := gx_y M) B (y := gx_y M) (bytes := gx_b M) (maxL' := gx_n M) (ret' := gx_r M) ?_) hv
    rw [← hcw]
    exact atoms_spec (ws := gx_cw M :: gx_tb) B.pre _ List.mem_cons_self
/-- no more cells are made from here on -/
theorem gx_weak {M : gx_M} {al af : Bool} {kc ks pc : Nat} {ls : List (Nat × Value)} {st : List Value} {h : gx_H} {o : gx_O} {h1 : gx_H} (k : gx_Z M false af kc ks pc ls st h o h1) : gx_Z M al af kc ks pc ls st h o h1 := fun p l e s m args below meth c H locs la D adr K sz0 C hl hR => k p l e s m args below meth c H locs la D adr K sz0 C hl ⟨hR.1, hR.2.1, hR.2.2.1, hR.2.2.2.1, (fun z => by cases z), hR.2.2.2.2.2⟩
