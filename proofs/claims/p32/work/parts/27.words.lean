/-! ===== words of the tables, rooms, what is known of callees (printed by gen2.py) ===== -/
theorem gs_0 : Cond.selects "Grammarsmith$Facts" (⟨"Grammarsmith$Facts", "findBeginnings", "()V"⟩ : MethodName) ⟨"Grammarsmith$Facts", "findBeginnings", "()V"⟩ ∈ gx_tb := gx_oks (by decide +kernel) (by decide +kernel)
theorem gs_1 : Cond.selects "Grammarsmith$Facts" (⟨"Grammarsmith$Facts", "beginnings", "(II)I"⟩ : MethodName) ⟨"Grammarsmith$Facts", "beginnings", "(II)I"⟩ ∈ gx_tb := gx_oks (by decide +kernel) (by decide +kernel)
theorem gs_10 : Cond.selects "Grammarsmith$Facts" (⟨"Grammarsmith$Facts", "findCircular", "()V"⟩ : MethodName) ⟨"Grammarsmith$Facts", "findCircular", "()V"⟩ ∈ gx_tb := gx_oks (by decide +kernel) (by decide +kernel)
theorem gs_11 : Cond.selects "Grammarsmith$Facts" (⟨"Grammarsmith$Facts", "findLeasts", "()V"⟩ : MethodName) ⟨"Grammarsmith$Facts", "findLeasts", "()V"⟩ ∈ gx_tb := gx_oks (by decide +kernel) (by decide +kernel)
theorem gs_12 : Cond.selects "Grammarsmith$Facts" (⟨"Grammarsmith$Facts", "leastOfRight", "(I)I"⟩ : MethodName) ⟨"Grammarsmith$Facts", "leastOfRight", "(I)I"⟩ ∈ gx_tb := gx_oks (by decide +kernel) (by decide +kernel)
theorem gs_13 : Cond.selects "Grammarsmith$Facts" (⟨"Grammarsmith$Facts", "leastOf", "(I)I"⟩ : MethodName) ⟨"Grammarsmith$Facts", "leastOf", "(I)I"⟩ ∈ gx_tb := gx_oks (by decide +kernel) (by decide +kernel)
theorem gs_14 : Cond.selects "Grammarsmith$Facts" (⟨"Grammarsmith$Facts", "findSpellings", "()V"⟩ : MethodName) ⟨"Grammarsmith$Facts", "findSpellings", "()V"⟩ ∈ gx_tb := gx_oks (by decide +kernel) (by decide +kernel)
theorem gs_15 : Cond.selects "Grammarsmith$Facts" (⟨"Grammarsmith$Facts", "improveSpelling", "(I)Z"⟩ : MethodName) ⟨"Grammarsmith$Facts", "improveSpelling", "(I)Z"⟩ ∈ gx_tb := gx_oks (by decide +kernel) (by decide +kernel)
theorem gs_16 : Cond.selects "Grammarsmith$Facts" (⟨"Grammarsmith$Facts", "spell", "(I)J"⟩ : MethodName) ⟨"Grammarsmith$Facts", "spell", "(I)J"⟩ ∈ gx_tb := gx_oks (by decide +kernel) (by decide +kernel)
theorem gs_17 : Cond.selects "Grammarsmith$Facts" (⟨"Grammarsmith$Facts", "findPredictions", "()V"⟩ : MethodName) ⟨"Grammarsmith$Facts", "findPredictions", "()V"⟩ ∈ gx_tb := gx_oks (by decide +kernel) (by decide +kernel)
theorem gs_18 : Cond.selects "Grammarsmith$Facts" (⟨"Grammarsmith$Facts", "findItems", "()V"⟩ : MethodName) ⟨"Grammarsmith$Facts", "findItems", "()V"⟩ ∈ gx_tb := gx_oks (by decide +kernel) (by decide +kernel)
theorem gs_2 : Cond.selects "Grammarsmith$Facts" (⟨"Grammarsmith$Facts", "beginOf", "(I)I"⟩ : MethodName) ⟨"Grammarsmith$Facts", "beginOf", "(I)I"⟩ ∈ gx_tb := gx_oks (by decide +kernel) (by decide +kernel)
theorem gs_20 : Cond.selects "Grammarsmith$RuleReader" (⟨"Grammarsmith$RuleReader", "wrap", "(LGrammarsmith$Grammar;CI)Z"⟩ : MethodName) ⟨"Grammarsmith$RuleReader", "wrap", "(LGrammarsmith$Grammar;CI)Z"⟩ ∈ gx_tb := gx_oks (by decide +kernel) (by decide +kernel)
theorem gs_21 : Cond.selects "Grammarsmith$RuleReader" (⟨"Grammarsmith$RuleReader", "push", "(I)Z"⟩ : MethodName) ⟨"Grammarsmith$RuleReader", "push", "(I)Z"⟩ ∈ gx_tb := gx_oks (by decide +kernel) (by decide +kernel)
theorem gs_22 : Cond.selects "Grammarsmith$RuleReader" (⟨"Grammarsmith$RuleReader", "closeBracket", "(LGrammarsmith$Grammar;)Z"⟩ : MethodName) ⟨"Grammarsmith$RuleReader", "closeBracket", "(LGrammarsmith$Grammar;)Z"⟩ ∈ gx_tb := gx_oks (by decide +kernel) (by decide +kernel)
theorem gs_23 : Cond.selects "Grammarsmith$RuleReader" (⟨"Grammarsmith$RuleReader", "release", "(LGrammarsmith$Grammar;II)Z"⟩ : MethodName) ⟨"Grammarsmith$RuleReader", "release", "(LGrammarsmith$Grammar;II)Z"⟩ ∈ gx_tb := gx_oks (by decide +kernel) (by decide +kernel)
theorem gs_24 : Cond.selects "Grammarsmith" (⟨"Grammarsmith", "forget", "()V"⟩ : MethodName) ⟨"Grammarsmith", "forget", "()V"⟩ ∈ gx_tb := gx_oks (by decide +kernel) (by decide +kernel)
theorem gs_25 : Cond.selects "Grammarsmith" (⟨"Grammarsmith", "table", "(I)LGrammarsmith$Table;"⟩ : MethodName) ⟨"Grammarsmith", "table", "(I)LGrammarsmith$Table;"⟩ ∈ gx_tb := gx_oks (by decide +kernel) (by decide +kernel)
theorem gs_26 : Cond.selects "Grammarsmith$Automaton" (⟨"Grammarsmith$Automaton", "addState", "(I)I"⟩ : MethodName) ⟨"Grammarsmith$Automaton", "addState", "(I)I"⟩ ∈ gx_tb := gx_oks (by decide +kernel) (by decide +kernel)
theorem gs_27 : Cond.selects "Grammarsmith$Automaton" (⟨"Grammarsmith$Automaton", "complete", "(I)V"⟩ : MethodName) ⟨"Grammarsmith$Automaton", "complete", "(I)V"⟩ ∈ gx_tb := gx_oks (by decide +kernel) (by decide +kernel)
theorem gs_28 : Cond.selects "Grammarsmith$Automaton" (⟨"Grammarsmith$Automaton", "addItems", "(II)Z"⟩ : MethodName) ⟨"Grammarsmith$Automaton", "addItems", "(II)Z"⟩ ∈ gx_tb := gx_oks (by decide +kernel) (by decide +kernel)
theorem gs_29 : Cond.selects "Grammarsmith$Automaton" (⟨"Grammarsmith$Automaton", "widen", "(III)Z"⟩ : MethodName) ⟨"Grammarsmith$Automaton", "widen", "(III)Z"⟩ ∈ gx_tb := gx_oks (by decide +kernel) (by decide +kernel)
theorem gs_3 : Cond.selects "Grammarsmith$Facts" (⟨"Grammarsmith$Facts", "findBehinds", "()V"⟩ : MethodName) ⟨"Grammarsmith$Facts", "findBehinds", "()V"⟩ ∈ gx_tb := gx_oks (by decide +kernel) (by decide +kernel)
theorem gs_30 : Cond.selects "Grammarsmith$Automaton" (⟨"Grammarsmith$Automaton", "leave", "(I)V"⟩ : MethodName) ⟨"Grammarsmith$Automaton", "leave", "(I)V"⟩ ∈ gx_tb := gx_oks (by decide +kernel) (by decide +kernel)
theorem gs_31 : Cond.selects "Grammarsmith$Automaton" (⟨"Grammarsmith$Automaton", "symbolsInFront", "(I)I"⟩ : MethodName) ⟨"Grammarsmith$Automaton", "symbolsInFront", "(I)I"⟩ ∈ gx_tb := gx_oks (by decide +kernel) (by decide +kernel)
theorem gs_32 : Cond.selects "Grammarsmith$Automaton" (⟨"Grammarsmith$Automaton", "advance", "(II)V"⟩ : MethodName) ⟨"Grammarsmith$Automaton", "advance", "(II)V"⟩ ∈ gx_tb := gx_oks (by decide +kernel) (by decide +kernel)
theorem gs_33 : Cond.selects "Grammarsmith$Automaton" (⟨"Grammarsmith$Automaton", "findState", "(I)I"⟩ : MethodName) ⟨"Grammarsmith$Automaton", "findState", "(I)I"⟩ ∈ gx_tb := gx_oks (by decide +kernel) (by decide +kernel)
theorem gs_34 : Cond.selects "Grammarsmith$Automaton" (⟨"Grammarsmith$Automaton", "beginsFresh", "(I)Z"⟩ : MethodName) ⟨"Grammarsmith$Automaton", "beginsFresh", "(I)Z"⟩ ∈ gx_tb := gx_oks (by decide +kernel) (by decide +kernel)
theorem gs_35 : Cond.selects "Grammarsmith$Automaton" (⟨"Grammarsmith$Automaton", "mergeInto", "(I)V"⟩ : MethodName) ⟨"Grammarsmith$Automaton", "mergeInto", "(I)V"⟩ ∈ gx_tb := gx_oks (by decide +kernel) (by decide +kernel)
theorem gs_36 : Cond.selects "Grammarsmith$PredictiveTable" (⟨"Grammarsmith$PredictiveTable", "cellsWith", "(I)I"⟩ : MethodName) ⟨"Grammarsmith$PredictiveTable", "cellsWith", "(I)I"⟩ ∈ gx_tb := gx_oks (by decide +kernel) (by decide +kernel)
theorem gs_37 : Cond.selects "Grammarsmith$PredictiveTable" (⟨"Grammarsmith$PredictiveTable", "countIn", "(II)I"⟩ : MethodName) ⟨"Grammarsmith$PredictiveTable", "countIn", "(II)I"⟩ ∈ gx_tb := gx_oks (by decide +kernel) (by decide +kernel)
theorem gs_38 : Cond.selects "Grammarsmith$PredictiveTable" (⟨"Grammarsmith$PredictiveTable", "isIn", "(III)Z"⟩ : MethodName) ⟨"Grammarsmith$PredictiveTable", "isIn", "(III)Z"⟩ ∈ gx_tb := gx_oks (by decide +kernel) (by decide +kernel)
theorem gs_39 : Cond.selects "Grammarsmith$StateTable" (⟨"Grammarsmith$StateTable", "cellsInConflict", "(Z)I"⟩ : MethodName) ⟨"Grammarsmith$StateTable", "cellsInConflict", "(Z)I"⟩ ∈ gx_tb := gx_oks (by decide +kernel) (by decide +kernel)
theorem gs_4 : Cond.selects "Grammarsmith$Facts" (⟨"Grammarsmith$Facts", "widenBehinds", "(I)Z"⟩ : MethodName) ⟨"Grammarsmith$Facts", "widenBehinds", "(I)Z"⟩ ∈ gx_tb := gx_oks (by decide +kernel) (by decide +kernel)
theorem gs_40 : Cond.selects "Grammarsmith$StateTable" (⟨"Grammarsmith$StateTable", "readCell", "(II)V"⟩ : MethodName) ⟨"Grammarsmith$StateTable", "readCell", "(II)V"⟩ ∈ gx_tb := gx_oks (by decide +kernel) (by decide +kernel)
theorem gs_41 : Cond.selects "Grammarsmith$StateTable" (⟨"Grammarsmith$StateTable", "reducedBy", "(II)I"⟩ : MethodName) ⟨"Grammarsmith$StateTable", "reducedBy", "(II)I"⟩ ∈ gx_tb := gx_oks (by decide +kernel) (by decide +kernel)
theorem gs_42 : Cond.selects "Grammarsmith$StateTable" (⟨"Grammarsmith$StateTable", "isConflict", "()Z"⟩ : MethodName) ⟨"Grammarsmith$StateTable", "isConflict", "()Z"⟩ ∈ gx_tb := gx_oks (by decide +kernel) (by decide +kernel)
theorem gs_43 : Cond.selects "Grammarsmith$StateTable" (⟨"Grammarsmith$StateTable", "isSettled", "(I)Z"⟩ : MethodName) ⟨"Grammarsmith$StateTable", "isSettled", "(I)Z"⟩ ∈ gx_tb := gx_oks (by decide +kernel) (by decide +kernel)
theorem gs_44 : Cond.selects "Grammarsmith$StateTable" (⟨"Grammarsmith$StateTable", "levelOf", "(I)I"⟩ : MethodName) ⟨"Grammarsmith$StateTable", "levelOf", "(I)I"⟩ ∈ gx_tb := gx_oks (by decide +kernel) (by decide +kernel)
theorem gs_45 : Cond.selects "Grammarsmith$StateTable" (⟨"Grammarsmith$StateTable", "levelOfLowest", "()I"⟩ : MethodName) ⟨"Grammarsmith$StateTable", "levelOfLowest", "()I"⟩ ∈ gx_tb := gx_oks (by decide +kernel) (by decide +kernel)
theorem gs_46 : Cond.selects "Grammarsmith$PredictiveTable" (⟨"Grammarsmith$PredictiveTable", "push", "(I)V"⟩ : MethodName) ⟨"Grammarsmith$PredictiveTable", "push", "(I)V"⟩ ∈ gx_tb := gx_oks (by decide +kernel) (by decide +kernel)
theorem gs_47 : Cond.selects "Grammarsmith$PredictiveTable" (⟨"Grammarsmith$PredictiveTable", "worthOfTree", "()I"⟩ : MethodName) ⟨"Grammarsmith$PredictiveTable", "worthOfTree", "()I"⟩ ∈ gx_tb := gx_oks (by decide +kernel) (by decide +kernel)
theorem gs_48 : Cond.selects "Grammarsmith$PredictiveTable" (⟨"Grammarsmith$PredictiveTable", "pop", "()I"⟩ : MethodName) ⟨"Grammarsmith$PredictiveTable", "pop", "()I"⟩ ∈ gx_tb := gx_oks (by decide +kernel) (by decide +kernel)
theorem gs_49 : Cond.selects "Grammarsmith$PredictiveTable" (⟨"Grammarsmith$PredictiveTable", "next", "()I"⟩ : MethodName) ⟨"Grammarsmith$PredictiveTable", "next", "()I"⟩ ∈ gx_tb := gx_oks (by decide +kernel) (by decide +kernel)
theorem gs_5 : Cond.selects "Grammarsmith$Facts" (⟨"Grammarsmith$Facts", "findReached", "()V"⟩ : MethodName) ⟨"Grammarsmith$Facts", "findReached", "()V"⟩ ∈ gx_tb := gx_oks (by decide +kernel) (by decide +kernel)
theorem gs_50 : Cond.selects "Grammarsmith$PredictiveTable" (⟨"Grammarsmith$PredictiveTable", "lowestIn", "(II)I"⟩ : MethodName) ⟨"Grammarsmith$PredictiveTable", "lowestIn", "(II)I"⟩ ∈ gx_tb := gx_oks (by decide +kernel) (by decide +kernel)
theorem gs_51 : Cond.selects "Grammarsmith$PredictiveTable" (⟨"Grammarsmith$PredictiveTable", "apply", "(I)V"⟩ : MethodName) ⟨"Grammarsmith$PredictiveTable", "apply", "(I)V"⟩ ∈ gx_tb := gx_oks (by decide +kernel) (by decide +kernel)
theorem gs_52 : Cond.selects "Grammarsmith$StateTable" (⟨"Grammarsmith$StateTable", "push", "(II)V"⟩ : MethodName) ⟨"Grammarsmith$StateTable", "push", "(II)V"⟩ ∈ gx_tb := gx_oks (by decide +kernel) (by decide +kernel)
theorem gs_53 : Cond.selects "Grammarsmith$StateTable" (⟨"Grammarsmith$StateTable", "state", "()I"⟩ : MethodName) ⟨"Grammarsmith$StateTable", "state", "()I"⟩ ∈ gx_tb := gx_oks (by decide +kernel) (by decide +kernel)
theorem gs_54 : Cond.selects "Grammarsmith$StateTable" (⟨"Grammarsmith$StateTable", "action", "(II)I"⟩ : MethodName) ⟨"Grammarsmith$StateTable", "action", "(II)I"⟩ ∈ gx_tb := gx_oks (by decide +kernel) (by decide +kernel)
theorem gs_55 : Cond.selects "Grammarsmith$StateTable" (⟨"Grammarsmith$StateTable", "settledAction", "(I)I"⟩ : MethodName) ⟨"Grammarsmith$StateTable", "settledAction", "(I)I"⟩ ∈ gx_tb := gx_oks (by decide +kernel) (by decide +kernel)
theorem gs_56 : Cond.selects "Grammarsmith$StateTable" (⟨"Grammarsmith$StateTable", "worthOfTop", "()I"⟩ : MethodName) ⟨"Grammarsmith$StateTable", "worthOfTop", "()I"⟩ ∈ gx_tb := gx_oks (by decide +kernel) (by decide +kernel)
theorem gs_57 : Cond.selects "Grammarsmith$StateTable" (⟨"Grammarsmith$StateTable", "reduce", "(I)V"⟩ : MethodName) ⟨"Grammarsmith$StateTable", "reduce", "(I)V"⟩ ∈ gx_tb := gx_oks (by decide +kernel) (by decide +kernel)
theorem gs_6 : Cond.selects "Grammarsmith$Facts" (⟨"Grammarsmith$Facts", "relate", "(II)V"⟩ : MethodName) ⟨"Grammarsmith$Facts", "relate", "(II)V"⟩ ∈ gx_tb := gx_oks (by decide +kernel) (by decide +kernel)
theorem gs_7 : Cond.selects "Grammarsmith$Facts" (⟨"Grammarsmith$Facts", "closeRelation", "()V"⟩ : MethodName) ⟨"Grammarsmith$Facts", "closeRelation", "()V"⟩ ∈ gx_tb := gx_oks (by decide +kernel) (by decide +kernel)
theorem gs_8 : Cond.selects "Grammarsmith$Facts" (⟨"Grammarsmith$Facts", "findLeftRecursive", "()V"⟩ : MethodName) ⟨"Grammarsmith$Facts", "findLeftRecursive", "()V"⟩ ∈ gx_tb := gx_oks (by decide +kernel) (by decide +kernel)
theorem gs_9 : Cond.selects "Grammarsmith$Facts" (⟨"Grammarsmith$Facts", "relatedToThemselves", "()I"⟩ : MethodName) ⟨"Grammarsmith$Facts", "relatedToThemselves", "()I"⟩ ∈ gx_tb := gx_oks (by decide +kernel) (by decide +kernel)
theorem gw_0 : (Jvm.Cond.initialized "GrammarsmithLaw") ∈ gx_tb := gx_ok (List.mem_of_getElem? (i := 0) (by decide +kernel)) (by decide +kernel)
theorem gw_1 : (Jvm.Cond.initialized "Grammarsmith") ∈ gx_tb := gx_ok (List.mem_of_getElem? (i := 1) (by decide +kernel)) (by decide +kernel)
theorem gw_10 : (Jvm.Cond.initialized "Grammarsmith$StateTable") ∈ gx_tb := gx_ok (List.mem_of_getElem? (i := 10) (by decide +kernel)) (by decide +kernel)
theorem gw_100 : (Jvm.Cond.classLink "Grammarsmith" (25 : Nat) "Grammarsmith$Facts") ∈ gx_tb := gx_ok (List.mem_of_getElem? (i := 100) (by decide +kernel)) (by decide +kernel)
theorem gw_1002 : (Jvm.Cond.methodLink "Grammarsmith$Automaton" (77 : Nat) ({ cls := "Grammarsmith$Automaton", name := "addItems", desc := "(II)Z" } : Jvm.MethodName)) ∈ gx_tb := gx_ok (List.mem_of_getElem? (i := 1002) (by decide +kernel)) (by decide +kernel)
theorem gw_1004 : (Jvm.Cond.instanceMethod ({ cls := "Grammarsmith$Automaton", name := "addItems", desc := "(II)Z" } : Jvm.MethodName)) ∈ gx_tb := gx_ok (List.mem_of_getElem? (i := 1004) (by decide +kernel)) (by decide +kernel)
theorem gw_1006 : (Jvm.Cond.methodLink "Grammarsmith$Automaton" (81 : Nat) ({ cls := "Grammarsmith$Facts", name := "rest", desc := "(I)I" } : Jvm.MethodName)) ∈ gx_tb := gx_ok (List.mem_of_getElem? (i := 1006) (by decide +kernel)) (by decide +kernel)
theorem gw_1007 : (Jvm.Cond.instanceMethod ({ cls := "Grammarsmith$Facts", name := "rest", desc := "(I)I" } : Jvm.MethodName)) ∈ gx_tb := gx_ok (List.mem_of_getElem? (i := 1007) (by decide +kernel)) (by decide +kernel)
theorem gw_1008 : (Jvm.Cond.selects "Grammarsmith$Facts" ({ cls := "Grammarsmith$Facts", name := "rest", desc := "(I)I" } : Jvm.MethodName) ({ cls := "Grammarsmith$Facts", name := "rest", desc := "(I)I" } : Jvm.MethodName)) ∈ gx_tb := gx_ok (List.mem_of_getElem? (i := 1008) (by decide +kernel)) (by decide +kernel)
theorem gw_101 : (Jvm.Cond.instantiable "Grammarsmith$Facts" (14 : Nat)) ∈ gx_tb := gx_ok (List.mem_of_getElem? (i := 101) (by decide +kernel)) (by decide +kernel)
theorem gw_1011 : (Jvm.Cond.methodLink "Grammarsmith$Automaton" (87 : Nat) ({ cls := "Grammarsmith$Facts", name := "grammar", desc := "()LGrammarsmith$Grammar;" } : Jvm.MethodName)) ∈ gx_tb := gx_ok (List.mem_of_getElem? (i := 1011) (by decide +kernel)) (by decide +kernel)
theorem gw_1012 : (Jvm.Cond.methodLink "Grammarsmith$Automaton" (91 : Nat) ({ cls := "Grammarsmith$Grammar", name := "count", desc := "()I" } : Jvm.MethodName)) ∈ gx_tb := gx_ok (List.mem_of_getElem? (i := 1012) (by decide +kernel)) (by decide +kernel)
theorem gw_1013 : (Jvm.Cond.methodLink "Grammarsmith$Automaton" (97 : Nat) ({ cls := "Grammarsmith$Grammar", name := "owner", desc := "(I)I" } : Jvm.MethodName)) ∈ gx_tb := gx_ok (List.mem_of_getElem? (i := 1013) (by decide +kernel)) (by decide +kernel)
theorem gw_1014 : (Jvm.Cond.methodLink "Grammarsmith$Automaton" (100 : Nat) ({ cls := "Grammarsmith$Automaton", name := "widen", desc := "(III)Z" } : Jvm.MethodName)) ∈ gx_tb := gx_ok (List.mem_of_getElem? (i := 1014) (by decide +kernel)) (by decide +kernel)
theorem gw_1016 : (Jvm.Cond.instanceMethod ({ cls := "Grammarsmith$Automaton", name := "widen", desc := "(III)Z" } : Jvm.MethodName)) ∈ gx_tb := gx_ok (List.mem_of_getElem? (i := 1016) (by decide +kernel)) (by decide +kernel)
theorem gw_1018 : (Jvm.Cond.methodLink "Grammarsmith$Automaton" (61 : Nat) ({ cls := "Grammarsmith$Automaton", name := "leave", desc := "(I)V" } : Jvm.MethodName)) ∈ gx_tb := gx_ok (List.mem_of_getElem? (i := 1018) (by decide +kernel)) (by decide +kernel)
theorem gw_102 : (Jvm.Cond.methodLink "Grammarsmith" (27 : Nat) ({ cls := "Grammarsmith$Facts", name := "<init>", desc := "(LGrammarsmith$Grammar;)V" } : Jvm.MethodName)) ∈ gx_tb := gx_ok (List.mem_of_getElem? (i := 102) (by decide +kernel)) (by decide +kernel)
theorem gw_1020 : (Jvm.Cond.instanceMethod ({ cls := "Grammarsmith$Automaton", name := "leave", desc := "(I)V" } : Jvm.MethodName)) ∈ gx_tb := gx_ok (List.mem_of_getElem? (i := 1020) (by decide +kernel)) (by decide +kernel)
theorem gw_1022 : (Jvm.Cond.methodLink "Grammarsmith$Automaton" (104 : Nat) ({ cls := "Grammarsmith$Automaton", name := "symbolsInFront", desc := "(I)I" } : Jvm.MethodName)) ∈ gx_tb := gx_ok (List.mem_of_getElem? (i := 1022) (by decide +kernel)) (by decide +kernel)
theorem gw_1024 : (Jvm.Cond.instanceMethod ({ cls := "Grammarsmith$Automaton", name := "symbolsInFront", desc := "(I)I" } : Jvm.MethodName)) ∈ gx_tb := gx_ok (List.mem_of_getElem? (i := 1024) (by decide +kernel)) (by decide +kernel)
theorem gw_1027 : (Jvm.Cond.methodLink "Grammarsmith$Automaton" (110 : Nat) ({ cls := "Grammarsmith$Automaton", name := "advance", desc := "(II)V" } : Jvm.MethodName)) ∈ gx_tb := gx_ok (List.mem_of_getElem? (i := 1027) (by decide +kernel)) (by decide +kernel)
theorem gw_1029 : (Jvm.Cond.instanceMethod ({ cls := "Grammarsmith$Automaton", name := "advance", desc := "(II)V" } : Jvm.MethodName)) ∈ gx_tb := gx_ok (List.mem_of_getElem? (i := 1029) (by decide +kernel)) (by decide +kernel)
theorem gw_103 : (Jvm.Cond.instanceMethod ({ cls := "Grammarsmith$Facts", name := "<init>", desc := "(LGrammarsmith$Grammar;)V" } : Jvm.MethodName)) ∈ gx_tb := gx_ok (List.mem_of_getElem? (i := 103) (by decide +kernel)) (by decide +kernel)
theorem gw_1031 : (Jvm.Cond.methodLink "Grammarsmith$Automaton" (114 : Nat) ({ cls := "Grammarsmith$Automaton", name := "findState", desc := "(I)I" } : Jvm.MethodName)) ∈ gx_tb := gx_ok (List.mem_of_getElem? (i := 1031) (by decide +kernel)) (by decide +kernel)
theorem gw_1033 : (Jvm.Cond.instanceMethod ({ cls := "Grammarsmith$Automaton", name := "findState", desc := "(I)I" } : Jvm.MethodName)) ∈ gx_tb := gx_ok (List.mem_of_getElem? (i := 1033) (by decide +kernel)) (by decide +kernel)
theorem gw_1035 : (Jvm.Cond.methodLink "Grammarsmith$Automaton" (120 : Nat) ({ cls := "Grammarsmith$Automaton", name := "beginsFresh", desc := "(I)Z" } : Jvm.MethodName)) ∈ gx_tb := gx_ok (List.mem_of_getElem? (i := 1035) (by decide +kernel)) (by decide +kernel)
theorem gw_1037 : (Jvm.Cond.instanceMethod ({ cls := "Grammarsmith$Automaton", name := "beginsFresh", desc := "(I)Z" } : Jvm.MethodName)) ∈ gx_tb := gx_ok (List.mem_of_getElem? (i := 1037) (by decide +kernel)) (by decide +kernel)
theorem gw_1039 : (Jvm.Cond.methodLink "Grammarsmith$Automaton" (117 : Nat) ({ cls := "Grammarsmith$Automaton", name := "mergeInto", desc := "(I)V" } : Jvm.MethodName)) ∈ gx_tb := gx_ok (List.mem_of_getElem? (i := 1039) (by decide +kernel)) (by decide +kernel)
theorem gw_1041 : (Jvm.Cond.instanceMethod ({ cls := "Grammarsmith$Automaton", name := "mergeInto", desc := "(I)V" } : Jvm.MethodName)) ∈ gx_tb := gx_ok (List.mem_of_getElem? (i := 1041) (by decide +kernel)) (by decide +kernel)
theorem gw_1043 : (Jvm.Cond.methodLink "Grammarsmith" (241 : Nat) ({ cls := "Grammarsmith$Table", name := "extent", desc := "()I" } : Jvm.MethodName)) ∈ gx_tb := gx_ok (List.mem_of_getElem? (i := 1043) (by decide +kernel)) (by decide +kernel)
theorem gw_1045 : (Jvm.Cond.sameMethod "Grammarsmith$Table" "Grammarsmith$Table" "extent" "()I") ∈ gx_tb := gx_ok (List.mem_of_getElem? (i := 1045) (by decide +kernel)) (by decide +kernel)
theorem gw_1046 : (Jvm.Cond.selects "Grammarsmith$PredictiveTable" ({ cls := "Grammarsmith$Table", name := "extent", desc := "()I" } : Jvm.MethodName) ({ cls := "Grammarsmith$PredictiveTable", name := "extent", desc := "()I" } : Jvm.MethodName)) ∈ gx_tb := gx_ok (List.mem_of_getElem? (i := 1046) (by decide +kernel)) (by decide +kernel)
theorem gw_1047 : (Jvm.Cond.instanceMethod ({ cls := "Grammarsmith$PredictiveTable", name := "extent", desc := "()I" } : Jvm.MethodName)) ∈ gx_tb := gx_ok (List.mem_of_getElem? (i := 1047) (by decide +kernel)) (by decide +kernel)
theorem gw_1049 : (Jvm.Cond.methodLink "Grammarsmith$PredictiveTable" (25 : Nat) ({ cls := "Grammarsmith$PredictiveTable", name := "cellsWith", desc := "(I)I" } : Jvm.MethodName)) ∈ gx_tb := gx_ok (List.mem_of_getElem? (i := 1049) (by decide +kernel)) (by decide +kernel)
theorem gw_105 : (Jvm.Cond.methodLink "Grammarsmith$Facts" (3 : Nat) ({ cls := "java/lang/Object", name := "<init>", desc := "()V" } : Jvm.MethodName)) ∈ gx_tb := gx_ok (List.mem_of_getElem? (i := 105) (by decide +kernel)) (by decide +kernel)
theorem gw_1051 : (Jvm.Cond.instanceMethod ({ cls := "Grammarsmith$PredictiveTable", name := "cellsWith", desc := "(I)I" } : Jvm.MethodName)) ∈ gx_tb := gx_ok (List.mem_of_getElem? (i := 1051) (by decide +kernel)) (by decide +kernel)
theorem gw_1053 : (Jvm.Cond.methodLink "Grammarsmith$PredictiveTable" (82 : Nat) ({ cls := "Grammarsmith$PredictiveTable", name := "countIn", desc := "(II)I" } : Jvm.MethodName)) ∈ gx_tb := gx_ok (List.mem_of_getElem? (i := 1053) (by decide +kernel)) (by decide +kernel)
theorem gw_1055 : (Jvm.Cond.instanceMethod ({ cls := "Grammarsmith$PredictiveTable", name := "countIn", desc := "(II)I" } : Jvm.MethodName)) ∈ gx_tb := gx_ok (List.mem_of_getElem? (i := 1055) (by decide +kernel)) (by decide +kernel)
theorem gw_1057 : (Jvm.Cond.methodLink "Grammarsmith$PredictiveTable" (36 : Nat) ({ cls := "Grammarsmith$Facts", name := "grammar", desc := "()LGrammarsmith$Grammar;" } : Jvm.MethodName)) ∈ gx_tb := gx_ok (List.mem_of_getElem? (i := 1057) (by decide +kernel)) (by decide +kernel)
theorem gw_1058 : (Jvm.Cond.methodLink "Grammarsmith$PredictiveTable" (85 : Nat) ({ cls := "Grammarsmith$Grammar", name := "count", desc := "()I" } : Jvm.MethodName)) ∈ gx_tb := gx_ok (List.mem_of_getElem? (i := 1058) (by decide +kernel)) (by decide +kernel)
theorem gw_1059 : (Jvm.Cond.methodLink "Grammarsmith$PredictiveTable" (88 : Nat) ({ cls := "Grammarsmith$PredictiveTable", name := "isIn", desc := "(III)Z" } : Jvm.MethodName)) ∈ gx_tb := gx_ok (List.mem_of_getElem? (i := 1059) (by decide +kernel)) (by decide +kernel)
theorem gw_106 : (Jvm.Cond.fieldLink "Grammarsmith$Facts" (37 : Nat) "Grammarsmith$Facts" "grammar" "LGrammarsmith$Grammar;") ∈ gx_tb := gx_ok (List.mem_of_getElem? (i := 106) (by decide +kernel)) (by decide +kernel)
theorem gw_1061 : (Jvm.Cond.instanceMethod ({ cls := "Grammarsmith$PredictiveTable", name := "isIn", desc := "(III)Z" } : Jvm.MethodName)) ∈ gx_tb := gx_ok (List.mem_of_getElem? (i := 1061) (by decide +kernel)) (by decide +kernel)
theorem gw_1063 : (Jvm.Cond.methodLink "Grammarsmith$PredictiveTable" (92 : Nat) ({ cls := "Grammarsmith$Grammar", name := "owner", desc := "(I)I" } : Jvm.MethodName)) ∈ gx_tb := gx_ok (List.mem_of_getElem? (i := 1063) (by decide +kernel)) (by decide +kernel)
theorem gw_1064 : (Jvm.Cond.methodLink "Grammarsmith$PredictiveTable" (95 : Nat) ({ cls := "Grammarsmith$Facts", name := "prediction", desc := "(I)I" } : Jvm.MethodName)) ∈ gx_tb := gx_ok (List.mem_of_getElem? (i := 1064) (by decide +kernel)) (by decide +kernel)
theorem gw_1065 : (Jvm.Cond.instanceMethod ({ cls := "Grammarsmith$Facts", name := "prediction", desc := "(I)I" } : Jvm.MethodName)) ∈ gx_tb := gx_ok (List.mem_of_getElem? (i := 1065) (by decide +kernel)) (by decide +kernel)
theorem gw_1066 : (Jvm.Cond.selects "Grammarsmith$Facts" ({ cls := "Grammarsmith$Facts", name := "prediction", desc := "(I)I" } : Jvm.MethodName) ({ cls := "Grammarsmith$Facts", name := "prediction", desc := "(I)I" } : Jvm.MethodName)) ∈ gx_tb := gx_ok (List.mem_of_getElem? (i := 1066) (by decide +kernel)) (by decide +kernel)
theorem gw_1069 : (Jvm.Cond.selects "Grammarsmith$StateTable" ({ cls := "Grammarsmith$Table", name := "extent", desc := "()I" } : Jvm.MethodName) ({ cls := "Grammarsmith$StateTable", name := "extent", desc := "()I" } : Jvm.MethodName)) ∈ gx_tb := gx_ok (List.mem_of_getElem? (i := 1069) (by decide +kernel)) (by decide +kernel)
theorem gw_107 : (Jvm.Cond.fieldLink "Grammarsmith$Facts" (41 : Nat) "Grammarsmith$Facts" "known" "Z") ∈ gx_tb := gx_ok (List.mem_of_getElem? (i := 107) (by decide +kernel)) (by decide +kernel)
theorem gw_1070 : (Jvm.Cond.instanceMethod ({ cls := "Grammarsmith$StateTable", name := "extent", desc := "()I" } : Jvm.MethodName)) ∈ gx_tb := gx_ok (List.mem_of_getElem? (i := 1070) (by decide +kernel)) (by decide +kernel)
theorem gw_1072 : (Jvm.Cond.methodLink "Grammarsmith$StateTable" (35 : Nat) ({ cls := "Grammarsmith$Automaton", name := "extent", desc := "()I" } : Jvm.MethodName)) ∈ gx_tb := gx_ok (List.mem_of_getElem? (i := 1072) (by decide +kernel)) (by decide +kernel)
theorem gw_1073 : (Jvm.Cond.instanceMethod ({ cls := "Grammarsmith$Automaton", name := "extent", desc := "()I" } : Jvm.MethodName)) ∈ gx_tb := gx_ok (List.mem_of_getElem? (i := 1073) (by decide +kernel)) (by decide +kernel)
theorem gw_1074 : (Jvm.Cond.selects "Grammarsmith$Automaton" ({ cls := "Grammarsmith$Automaton", name := "extent", desc := "()I" } : Jvm.MethodName) ({ cls := "Grammarsmith$Automaton", name := "extent", desc := "()I" } : Jvm.MethodName)) ∈ gx_tb := gx_ok (List.mem_of_getElem? (i := 1074) (by decide +kernel)) (by decide +kernel)
theorem gw_1076 : (Jvm.Cond.methodLink "GrammarsmithLaw" (109 : Nat) ({ cls := "GrammarsmithLaw", name := "conflicts", desc := "(LGrammarsmith;I)I" } : Jvm.MethodName)) ∈ gx_tb := gx_ok (List.mem_of_getElem? (i := 1076) (by decide +kernel)) (by decide +kernel)
theorem gw_1077 : (Jvm.Cond.static ({ cls := "GrammarsmithLaw", name := "conflicts", desc := "(LGrammarsmith;I)I" } : Jvm.MethodName)) ∈ gx_tb := gx_ok (List.mem_of_getElem? (i := 1077) (by decide +kernel)) (by decide +kernel)
theorem gw_1079 : (Jvm.Cond.methodLink "GrammarsmithLaw" (74 : Nat) ({ cls := "Grammarsmith", name := "conflicts", desc := "(I)I" } : Jvm.MethodName)) ∈ gx_tb := gx_ok (List.mem_of_getElem? (i := 1079) (by decide +kernel)) (by decide +kernel)
theorem gw_108 : (Jvm.Cond.fieldLink "Grammarsmith$Facts" (79 : Nat) "Grammarsmith$Facts" "reached" "I") ∈ gx_tb := gx_ok (List.mem_of_getElem? (i := 108) (by decide +kernel)) (by decide +kernel)
theorem gw_1080 : (Jvm.Cond.instanceMethod ({ cls := "Grammarsmith", name := "conflicts", desc := "(I)I" } : Jvm.MethodName)) ∈ gx_tb := gx_ok (List.mem_of_getElem? (i := 1080) (by decide +kernel)) (by decide +kernel)
theorem gw_1081 : (Jvm.Cond.selects "Grammarsmith" ({ cls := "Grammarsmith", name := "conflicts", desc := "(I)I" } : Jvm.MethodName) ({ cls := "Grammarsmith", name := "conflicts", desc := "(I)I" } : Jvm.MethodName)) ∈ gx_tb := gx_ok (List.mem_of_getElem? (i := 1081) (by decide +kernel)) (by decide +kernel)
theorem gw_1083 : (Jvm.Cond.methodLink "Grammarsmith" (246 : Nat) ({ cls := "Grammarsmith$Table", name := "clashes", desc := "()I" } : Jvm.MethodName)) ∈ gx_tb := gx_ok (List.mem_of_getElem? (i := 1083) (by decide +kernel)) (by decide +kernel)
theorem gw_1085 : (Jvm.Cond.sameMethod "Grammarsmith$Table" "Grammarsmith$Table" "clashes" "()I") ∈ gx_tb := gx_ok (List.mem_of_getElem? (i := 1085) (by decide +kernel)) (by decide +kernel)
theorem gw_1086 : (Jvm.Cond.selects "Grammarsmith$PredictiveTable" ({ cls := "Grammarsmith$Table", name := "clashes", desc := "()I" } : Jvm.MethodName) ({ cls := "Grammarsmith$PredictiveTable", name := "clashes", desc := "()I" } : Jvm.MethodName)) ∈ gx_tb := gx_ok (List.mem_of_getElem? (i := 1086) (by decide +kernel)) (by decide +kernel)
theorem gw_1087 : (Jvm.Cond.instanceMethod ({ cls := "Grammarsmith$PredictiveTable", name := "clashes", desc := "()I" } : Jvm.MethodName)) ∈ gx_tb := gx_ok (List.mem_of_getElem? (i := 1087) (by decide +kernel)) (by decide +kernel)
theorem gw_1089 : (Jvm.Cond.selects "Grammarsmith$StateTable" ({ cls := "Grammarsmith$Table", name := "clashes", desc := "()I" } : Jvm.MethodName) ({ cls := "Grammarsmith$StateTable", name := "clashes", desc := "()I" } : Jvm.MethodName)) ∈ gx_tb := gx_ok (List.mem_of_getElem? (i := 1089) (by decide +kernel)) (by decide +kernel)
theorem gw_109 : (Jvm.Cond.fieldLink "Grammarsmith$Facts" (87 : Nat) "Grammarsmith$Facts" "leftRecursive" "I") ∈ gx_tb := gx_ok (List.mem_of_getElem? (i := 109) (by decide +kernel)) (by decide +kernel)
theorem gw_1090 : (Jvm.Cond.instanceMethod ({ cls := "Grammarsmith$StateTable", name := "clashes", desc := "()I" } : Jvm.MethodName)) ∈ gx_tb := gx_ok (List.mem_of_getElem? (i := 1090) (by decide +kernel)) (by decide +kernel)
theorem gw_1092 : (Jvm.Cond.methodLink "Grammarsmith$StateTable" (41 : Nat) ({ cls := "Grammarsmith$StateTable", name := "cellsInConflict", desc := "(Z)I" } : Jvm.MethodName)) ∈ gx_tb := gx_ok (List.mem_of_getElem? (i := 1092) (by decide +kernel)) (by decide +kernel)
theorem gw_1094 : (Jvm.Cond.instanceMethod ({ cls := "Grammarsmith$StateTable", name := "cellsInConflict", desc := "(Z)I" } : Jvm.MethodName)) ∈ gx_tb := gx_ok (List.mem_of_getElem? (i := 1094) (by decide +kernel)) (by decide +kernel)
theorem gw_1096 : (Jvm.Cond.methodLink "Grammarsmith$StateTable" (77 : Nat) ({ cls := "Grammarsmith$StateTable", name := "readCell", desc := "(II)V" } : Jvm.MethodName)) ∈ gx_tb := gx_ok (List.mem_of_getElem? (i := 1096) (by decide +kernel)) (by decide +kernel)
theorem gw_1098 : (Jvm.Cond.instanceMethod ({ cls := "Grammarsmith$StateTable", name := "readCell", desc := "(II)V" } : Jvm.MethodName)) ∈ gx_tb := gx_ok (List.mem_of_getElem? (i := 1098) (by decide +kernel)) (by decide +kernel)
theorem gw_11 : (Jvm.Cond.initialized "Grammarsmith$Chart") ∈ gx_tb := gx_ok (List.mem_of_getElem? (i := 11) (by decide +kernel)) (by decide +kernel)
theorem gw_110 : (Jvm.Cond.fieldLink "Grammarsmith$Facts" (90 : Nat) "Grammarsmith$Facts" "circular" "I") ∈ gx_tb := gx_ok (List.mem_of_getElem? (i := 110) (by decide +kernel)) (by decide +kernel)
theorem gw_1100 : (Jvm.Cond.methodLink "Grammarsmith$StateTable" (88 : Nat) ({ cls := "Grammarsmith$Automaton", name := "facts", desc := "()LGrammarsmith$Facts;" } : Jvm.MethodName)) ∈ gx_tb := gx_ok (List.mem_of_getElem? (i := 1100) (by decide +kernel)) (by decide +kernel)
theorem gw_1101 : (Jvm.Cond.instanceMethod ({ cls := "Grammarsmith$Automaton", name := "facts", desc := "()LGrammarsmith$Facts;" } : Jvm.MethodName)) ∈ gx_tb := gx_ok (List.mem_of_getElem? (i := 1101) (by decide +kernel)) (by decide +kernel)
theorem gw_1102 : (Jvm.Cond.selects "Grammarsmith$Automaton" ({ cls := "Grammarsmith$Automaton", name := "facts", desc := "()LGrammarsmith$Facts;" } : Jvm.MethodName) ({ cls := "Grammarsmith$Automaton", name := "facts", desc := "()LGrammarsmith$Facts;" } : Jvm.MethodName)) ∈ gx_tb := gx_ok (List.mem_of_getElem? (i := 1102) (by decide +kernel)) (by decide +kernel)
theorem gw_1104 : (Jvm.Cond.methodLink "Grammarsmith$StateTable" (92 : Nat) ({ cls := "Grammarsmith$Facts", name := "grammar", desc := "()LGrammarsmith$Grammar;" } : Jvm.MethodName)) ∈ gx_tb := gx_ok (List.mem_of_getElem? (i := 1104) (by decide +kernel)) (by decide +kernel)
theorem gw_1106 : (Jvm.Cond.methodLink "Grammarsmith$StateTable" (71 : Nat) ({ cls := "Grammarsmith$Automaton", name := "move", desc := "(II)I" } : Jvm.MethodName)) ∈ gx_tb := gx_ok (List.mem_of_getElem? (i := 1106) (by decide +kernel)) (by decide +kernel)
theorem gw_1107 : (Jvm.Cond.instanceMethod ({ cls := "Grammarsmith$Automaton", name := "move", desc := "(II)I" } : Jvm.MethodName)) ∈ gx_tb := gx_ok (List.mem_of_getElem? (i := 1107) (by decide +kernel)) (by decide +kernel)
theorem gw_1108 : (Jvm.Cond.selects "Grammarsmith$Automaton" ({ cls := "Grammarsmith$Automaton", name := "move", desc := "(II)I" } : Jvm.MethodName) ({ cls := "Grammarsmith$Automaton", name := "move", desc := "(II)I" } : Jvm.MethodName)) ∈ gx_tb := gx_ok (List.mem_of_getElem? (i := 1108) (by decide +kernel)) (by decide +kernel)
theorem gw_111 : (Jvm.Cond.fieldLink "Grammarsmith$Facts" (9 : Nat) "Grammarsmith$Facts" "begins" "[I") ∈ gx_tb := gx_ok (List.mem_of_getElem? (i := 111) (by decide +kernel)) (by decide +kernel)
theorem gw_1110 : (Jvm.Cond.methodLink "Grammarsmith$StateTable" (104 : Nat) ({ cls := "Grammarsmith$Automaton", name := "row", desc := "(II)I" } : Jvm.MethodName)) ∈ gx_tb := gx_ok (List.mem_of_getElem? (i := 1110) (by decide +kernel)) (by decide +kernel)
theorem gw_1112 : (Jvm.Cond.methodLink "Grammarsmith$StateTable" (120 : Nat) ({ cls := "Grammarsmith$Grammar", name := "count", desc := "()I" } : Jvm.MethodName)) ∈ gx_tb := gx_ok (List.mem_of_getElem? (i := 1112) (by decide +kernel)) (by decide +kernel)
theorem gw_1113 : (Jvm.Cond.methodLink "Grammarsmith$StateTable" (125 : Nat) ({ cls := "Grammarsmith$StateTable", name := "reducedBy", desc := "(II)I" } : Jvm.MethodName)) ∈ gx_tb := gx_ok (List.mem_of_getElem? (i := 1113) (by decide +kernel)) (by decide +kernel)
theorem gw_1115 : (Jvm.Cond.instanceMethod ({ cls := "Grammarsmith$StateTable", name := "reducedBy", desc := "(II)I" } : Jvm.MethodName)) ∈ gx_tb := gx_ok (List.mem_of_getElem? (i := 1115) (by decide +kernel)) (by decide +kernel)
theorem gw_1117 : (Jvm.Cond.methodLink "Grammarsmith$StateTable" (128 : Nat) ({ cls := "Grammarsmith$Grammar", name := "length", desc := "(I)I" } : Jvm.MethodName)) ∈ gx_tb := gx_ok (List.mem_of_getElem? (i := 1117) (by decide +kernel)) (by decide +kernel)
theorem gw_1118 : (Jvm.Cond.methodLink "Grammarsmith$StateTable" (132 : Nat) ({ cls := "Grammarsmith$Grammar", name := "owner", desc := "(I)I" } : Jvm.MethodName)) ∈ gx_tb := gx_ok (List.mem_of_getElem? (i := 1118) (by decide +kernel)) (by decide +kernel)
theorem gw_1119 : (Jvm.Cond.methodLink "Grammarsmith$StateTable" (135 : Nat) ({ cls := "Grammarsmith$Facts", name := "behind", desc := "(I)I" } : Jvm.MethodName)) ∈ gx_tb := gx_ok (List.mem_of_getElem? (i := 1119) (by decide +kernel)) (by decide +kernel)
theorem gw_112 : (Jvm.Cond.fieldLink "Grammarsmith$Facts" (15 : Nat) "Grammarsmith$Facts" "behinds" "[I") ∈ gx_tb := gx_ok (List.mem_of_getElem? (i := 112) (by decide +kernel)) (by decide +kernel)
theorem gw_1120 : (Jvm.Cond.methodLink "Grammarsmith$StateTable" (80 : Nat) ({ cls := "Grammarsmith$StateTable", name := "isConflict", desc := "()Z" } : Jvm.MethodName)) ∈ gx_tb := gx_ok (List.mem_of_getElem? (i := 1120) (by decide +kernel)) (by decide +kernel)
theorem gw_1122 : (Jvm.Cond.instanceMethod ({ cls := "Grammarsmith$StateTable", name := "isConflict", desc := "()Z" } : Jvm.MethodName)) ∈ gx_tb := gx_ok (List.mem_of_getElem? (i := 1122) (by decide +kernel)) (by decide +kernel)
theorem gw_1124 : (Jvm.Cond.methodLink "Grammarsmith$StateTable" (84 : Nat) ({ cls := "Grammarsmith$StateTable", name := "isSettled", desc := "(I)Z" } : Jvm.MethodName)) ∈ gx_tb := gx_ok (List.mem_of_getElem? (i := 1124) (by decide +kernel)) (by decide +kernel)
theorem gw_1126 : (Jvm.Cond.instanceMethod ({ cls := "Grammarsmith$StateTable", name := "isSettled", desc := "(I)Z" } : Jvm.MethodName)) ∈ gx_tb := gx_ok (List.mem_of_getElem? (i := 1126) (by decide +kernel)) (by decide +kernel)
theorem gw_1128 : (Jvm.Cond.methodLink "Grammarsmith$StateTable" (138 : Nat) ({ cls := "Grammarsmith$StateTable", name := "levelOf", desc := "(I)I" } : Jvm.MethodName)) ∈ gx_tb := gx_ok (List.mem_of_getElem? (i := 1128) (by decide +kernel)) (by decide +kernel)
theorem gw_113 : (Jvm.Cond.fieldLink "Grammarsmith$Facts" (18 : Nat) "Grammarsmith$Facts" "predictions" "[I") ∈ gx_tb := gx_ok (List.mem_of_getElem? (i := 113) (by decide +kernel)) (by decide +kernel)
theorem gw_1130 : (Jvm.Cond.instanceMethod ({ cls := "Grammarsmith$StateTable", name := "levelOf", desc := "(I)I" } : Jvm.MethodName)) ∈ gx_tb := gx_ok (List.mem_of_getElem? (i := 1130) (by decide +kernel)) (by decide +kernel)
theorem gw_1132 : (Jvm.Cond.methodLink "Grammarsmith$StateTable" (141 : Nat) ({ cls := "Grammarsmith$StateTable", name := "levelOfLowest", desc := "()I" } : Jvm.MethodName)) ∈ gx_tb := gx_ok (List.mem_of_getElem? (i := 1132) (by decide +kernel)) (by decide +kernel)
theorem gw_1134 : (Jvm.Cond.instanceMethod ({ cls := "Grammarsmith$StateTable", name := "levelOfLowest", desc := "()I" } : Jvm.MethodName)) ∈ gx_tb := gx_ok (List.mem_of_getElem? (i := 1134) (by decide +kernel)) (by decide +kernel)
theorem gw_1136 : (Jvm.Cond.methodLink "Grammarsmith$StateTable" (144 : Nat) ({ cls := "Grammarsmith$Grammar", name := "lastTerminal", desc := "(I)I" } : Jvm.MethodName)) ∈ gx_tb := gx_ok (List.mem_of_getElem? (i := 1136) (by decide +kernel)) (by decide +kernel)
theorem gw_1137 : (Jvm.Cond.instanceMethod ({ cls := "Grammarsmith$Grammar", name := "lastTerminal", desc := "(I)I" } : Jvm.MethodName)) ∈ gx_tb := gx_ok (List.mem_of_getElem? (i := 1137) (by decide +kernel)) (by decide +kernel)
theorem gw_1138 : (Jvm.Cond.selects "Grammarsmith$Grammar" ({ cls := "Grammarsmith$Grammar", name := "lastTerminal", desc := "(I)I" } : Jvm.MethodName) ({ cls := "Grammarsmith$Grammar", name := "lastTerminal", desc := "(I)I" } : Jvm.MethodName)) ∈ gx_tb := gx_ok (List.mem_of_getElem? (i := 1138) (by decide +kernel)) (by decide +kernel)
theorem gw_114 : (Jvm.Cond.fieldLink "Grammarsmith$Facts" (21 : Nat) "Grammarsmith$Facts" "leasts" "[I") ∈ gx_tb := gx_ok (List.mem_of_getElem? (i := 114) (by decide +kernel)) (by decide +kernel)
theorem gw_1141 : (Jvm.Cond.methodLink "GrammarsmithLaw" (111 : Nat) ({ cls := "GrammarsmithLaw", name := "settled", desc := "(LGrammarsmith;I)I" } : Jvm.MethodName)) ∈ gx_tb := gx_ok (List.mem_of_getElem? (i := 1141) (by decide +kernel)) (by decide +kernel)
theorem gw_1142 : (Jvm.Cond.static ({ cls := "GrammarsmithLaw", name := "settled", desc := "(LGrammarsmith;I)I" } : Jvm.MethodName)) ∈ gx_tb := gx_ok (List.mem_of_getElem? (i := 1142) (by decide +kernel)) (by decide +kernel)
theorem gw_1144 : (Jvm.Cond.methodLink "GrammarsmithLaw" (77 : Nat) ({ cls := "Grammarsmith", name := "settled", desc := "(I)I" } : Jvm.MethodName)) ∈ gx_tb := gx_ok (List.mem_of_getElem? (i := 1144) (by decide +kernel)) (by decide +kernel)
theorem gw_1145 : (Jvm.Cond.instanceMethod ({ cls := "Grammarsmith", name := "settled", desc := "(I)I" } : Jvm.MethodName)) ∈ gx_tb := gx_ok (List.mem_of_getElem? (i := 1145) (by decide +kernel)) (by decide +kernel)
theorem gw_1146 : (Jvm.Cond.selects "Grammarsmith" ({ cls := "Grammarsmith", name := "settled", desc := "(I)I" } : Jvm.MethodName) ({ cls := "Grammarsmith", name := "settled", desc := "(I)I" } : Jvm.MethodName)) ∈ gx_tb := gx_ok (List.mem_of_getElem? (i := 1146) (by decide +kernel)) (by decide +kernel)
theorem gw_1148 : (Jvm.Cond.methodLink "Grammarsmith" (249 : Nat) ({ cls := "Grammarsmith$Table", name := "easedClashes", desc := "()I" } : Jvm.MethodName)) ∈ gx_tb := gx_ok (List.mem_of_getElem? (i := 1148) (by decide +kernel)) (by decide +kernel)
theorem gw_115 : (Jvm.Cond.fieldLink "Grammarsmith$Facts" (24 : Nat) "Grammarsmith$Facts" "spellings" "[J") ∈ gx_tb := gx_ok (List.mem_of_getElem? (i := 115) (by decide +kernel)) (by decide +kernel)
theorem gw_1150 : (Jvm.Cond.sameMethod "Grammarsmith$Table" "Grammarsmith$Table" "easedClashes" "()I") ∈ gx_tb := gx_ok (List.mem_of_getElem? (i := 1150) (by decide +kernel)) (by decide +kernel)
theorem gw_1151 : (Jvm.Cond.selects "Grammarsmith$PredictiveTable" ({ cls := "Grammarsmith$Table", name := "easedClashes", desc := "()I" } : Jvm.MethodName) ({ cls := "Grammarsmith$PredictiveTable", name := "easedClashes", desc := "()I" } : Jvm.MethodName)) ∈ gx_tb := gx_ok (List.mem_of_getElem? (i := 1151) (by decide +kernel)) (by decide +kernel)
theorem gw_1152 : (Jvm.Cond.instanceMethod ({ cls := "Grammarsmith$PredictiveTable", name := "easedClashes", desc := "()I" } : Jvm.MethodName)) ∈ gx_tb := gx_ok (List.mem_of_getElem? (i := 1152) (by decide +kernel)) (by decide +kernel)
theorem gw_1154 : (Jvm.Cond.selects "Grammarsmith$StateTable" ({ cls := "Grammarsmith$Table", name := "easedClashes", desc := "()I" } : Jvm.MethodName) ({ cls := "Grammarsmith$StateTable", name := "easedClashes", desc := "()I" } : Jvm.MethodName)) ∈ gx_tb := gx_ok (List.mem_of_getElem? (i := 1154) (by decide +kernel)) (by decide +kernel)
theorem gw_1155 : (Jvm.Cond.instanceMethod ({ cls := "Grammarsmith$StateTable", name := "easedClashes", desc := "()I" } : Jvm.MethodName)) ∈ gx_tb := gx_ok (List.mem_of_getElem? (i := 1155) (by decide +kernel)) (by decide +kernel)
theorem gw_1157 : (Jvm.Cond.methodLink "GrammarsmithLaw" (113 : Nat) ({ cls := "Grammarsmith", name := "chosen", desc := "()I" } : Jvm.MethodName)) ∈ gx_tb := gx_ok (List.mem_of_getElem? (i := 1157) (by decide +kernel)) (by decide +kernel)
theorem gw_1158 : (Jvm.Cond.instanceMethod ({ cls := "Grammarsmith", name := "chosen", desc := "()I" } : Jvm.MethodName)) ∈ gx_tb := gx_ok (List.mem_of_getElem? (i := 1158) (by decide +kernel)) (by decide +kernel)
theorem gw_1159 : (Jvm.Cond.selects "Grammarsmith" ({ cls := "Grammarsmith", name := "chosen", desc := "()I" } : Jvm.MethodName) ({ cls := "Grammarsmith", name := "chosen", desc := "()I" } : Jvm.MethodName)) ∈ gx_tb := gx_ok (List.mem_of_getElem? (i := 1159) (by decide +kernel)) (by decide +kernel)
theorem gw_116 : (Jvm.Cond.fieldLink "Grammarsmith$Facts" (160 : Nat) "Grammarsmith$Facts" "spelt" "I") ∈ gx_tb := gx_ok (List.mem_of_getElem? (i := 116) (by decide +kernel)) (by decide +kernel)
theorem gw_1161 : (Jvm.Cond.methodLink "GrammarsmithLaw" (179 : Nat) ({ cls := "GrammarsmithLaw", name := "parses", desc := "(LGrammarsmith;I)Z" } : Jvm.MethodName)) ∈ gx_tb := gx_ok (List.mem_of_getElem? (i := 1161) (by decide +kernel)) (by decide +kernel)
theorem gw_1162 : (Jvm.Cond.static ({ cls := "GrammarsmithLaw", name := "parses", desc := "(LGrammarsmith;I)Z" } : Jvm.MethodName)) ∈ gx_tb := gx_ok (List.mem_of_getElem? (i := 1162) (by decide +kernel)) (by decide +kernel)
theorem gw_1164 : (Jvm.Cond.methodLink "GrammarsmithLaw" (116 : Nat) ({ cls := "Grammarsmith", name := "readings", desc := "()I" } : Jvm.MethodName)) ∈ gx_tb := gx_ok (List.mem_of_getElem? (i := 1164) (by decide +kernel)) (by decide +kernel)
theorem gw_1165 : (Jvm.Cond.instanceMethod ({ cls := "Grammarsmith", name := "readings", desc := "()I" } : Jvm.MethodName)) ∈ gx_tb := gx_ok (List.mem_of_getElem? (i := 1165) (by decide +kernel)) (by decide +kernel)
theorem gw_1166 : (Jvm.Cond.selects "Grammarsmith" ({ cls := "Grammarsmith", name := "readings", desc := "()I" } : Jvm.MethodName) ({ cls := "Grammarsmith", name := "readings", desc := "()I" } : Jvm.MethodName)) ∈ gx_tb := gx_ok (List.mem_of_getElem? (i := 1166) (by decide +kernel)) (by decide +kernel)
theorem gw_1168 : (Jvm.Cond.methodLink "GrammarsmithLaw" (122 : Nat) ({ cls := "GrammarsmithLaw", name := "parse", desc := "(LGrammarsmith;I)I" } : Jvm.MethodName)) ∈ gx_tb := gx_ok (List.mem_of_getElem? (i := 1168) (by decide +kernel)) (by decide +kernel)
theorem gw_1169 : (Jvm.Cond.static ({ cls := "GrammarsmithLaw", name := "parse", desc := "(LGrammarsmith;I)I" } : Jvm.MethodName)) ∈ gx_tb := gx_ok (List.mem_of_getElem? (i := 1169) (by decide +kernel)) (by decide +kernel)
theorem gw_117 : (Jvm.Cond.fieldLink "Grammarsmith$Facts" (28 : Nat) "Grammarsmith$Facts" "relation" "[I") ∈ gx_tb := gx_ok (List.mem_of_getElem? (i := 117) (by decide +kernel)) (by decide +kernel)
theorem gw_1171 : (Jvm.Cond.methodLink "GrammarsmithLaw" (86 : Nat) ({ cls := "Grammarsmith", name := "parse", desc := "(I)I" } : Jvm.MethodName)) ∈ gx_tb := gx_ok (List.mem_of_getElem? (i := 1171) (by decide +kernel)) (by decide +kernel)
theorem gw_1172 : (Jvm.Cond.instanceMethod ({ cls := "Grammarsmith", name := "parse", desc := "(I)I" } : Jvm.MethodName)) ∈ gx_tb := gx_ok (List.mem_of_getElem? (i := 1172) (by decide +kernel)) (by decide +kernel)
theorem gw_1173 : (Jvm.Cond.selects "Grammarsmith" ({ cls := "Grammarsmith", name := "parse", desc := "(I)I" } : Jvm.MethodName) ({ cls := "Grammarsmith", name := "parse", desc := "(I)I" } : Jvm.MethodName)) ∈ gx_tb := gx_ok (List.mem_of_getElem? (i := 1173) (by decide +kernel)) (by decide +kernel)
theorem gw_1175 : (Jvm.Cond.methodLink "Grammarsmith" (259 : Nat) ({ cls := "Grammarsmith$Table", name := "run", desc := "()I" } : Jvm.MethodName)) ∈ gx_tb := gx_ok (List.mem_of_getElem? (i := 1175) (by decide +kernel)) (by decide +kernel)
theorem gw_1177 : (Jvm.Cond.sameMethod "Grammarsmith$Table" "Grammarsmith$Table" "run" "()I") ∈ gx_tb := gx_ok (List.mem_of_getElem? (i := 1177) (by decide +kernel)) (by decide +kernel)
theorem gw_1178 : (Jvm.Cond.selects "Grammarsmith$PredictiveTable" ({ cls := "Grammarsmith$Table", name := "run", desc := "()I" } : Jvm.MethodName) ({ cls := "Grammarsmith$PredictiveTable", name := "run", desc := "()I" } : Jvm.MethodName)) ∈ gx_tb := gx_ok (List.mem_of_getElem? (i := 1178) (by decide +kernel)) (by decide +kernel)
theorem gw_1179 : (Jvm.Cond.instanceMethod ({ cls := "Grammarsmith$PredictiveTable", name := "run", desc := "()I" } : Jvm.MethodName)) ∈ gx_tb := gx_ok (List.mem_of_getElem? (i := 1179) (by decide +kernel)) (by decide +kernel)
theorem gw_118 : (Jvm.Cond.fieldLink "Grammarsmith$Facts" (31 : Nat) "Grammarsmith$Facts" "fronts" "[I") ∈ gx_tb := gx_ok (List.mem_of_getElem? (i := 118) (by decide +kernel)) (by decide +kernel)
theorem gw_1181 : (Jvm.Cond.methodLink "Grammarsmith$PredictiveTable" (42 : Nat) ({ cls := "Grammarsmith$Grammar", name := "top", desc := "()I" } : Jvm.MethodName)) ∈ gx_tb := gx_ok (List.mem_of_getElem? (i := 1181) (by decide +kernel)) (by decide +kernel)
theorem gw_1182 : (Jvm.Cond.methodLink "Grammarsmith$PredictiveTable" (48 : Nat) ({ cls := "Grammarsmith$PredictiveTable", name := "push", desc := "(I)V" } : Jvm.MethodName)) ∈ gx_tb := gx_ok (List.mem_of_getElem? (i := 1182) (by decide +kernel)) (by decide +kernel)
theorem gw_1184 : (Jvm.Cond.instanceMethod ({ cls := "Grammarsmith$PredictiveTable", name := "push", desc := "(I)V" } : Jvm.MethodName)) ∈ gx_tb := gx_ok (List.mem_of_getElem? (i := 1184) (by decide +kernel)) (by decide +kernel)
theorem gw_1187 : (Jvm.Cond.static ({ cls := "Grammarsmith", name := "lookAt", desc := "([II)I" } : Jvm.MethodName)) ∈ gx_tb := gx_ok (List.mem_of_getElem? (i := 1187) (by decide +kernel)) (by decide +kernel)
theorem gw_1189 : (Jvm.Cond.methodLink "Grammarsmith$PredictiveTable" (56 : Nat) ({ cls := "Grammarsmith$PredictiveTable", name := "worthOfTree", desc := "()I" } : Jvm.MethodName)) ∈ gx_tb := gx_ok (List.mem_of_getElem? (i := 1189) (by decide +kernel)) (by decide +kernel)
theorem gw_119 : (Jvm.Cond.fieldLink "Grammarsmith$Facts" (34 : Nat) "Grammarsmith$Facts" "rests" "[I") ∈ gx_tb := gx_ok (List.mem_of_getElem? (i := 119) (by decide +kernel)) (by decide +kernel)
theorem gw_1191 : (Jvm.Cond.instanceMethod ({ cls := "Grammarsmith$PredictiveTable", name := "worthOfTree", desc := "()I" } : Jvm.MethodName)) ∈ gx_tb := gx_ok (List.mem_of_getElem? (i := 1191) (by decide +kernel)) (by decide +kernel)
theorem gw_1193 : (Jvm.Cond.methodLink "Grammarsmith$PredictiveTable" (108 : Nat) ({ cls := "java/lang/Math", name := "min", desc := "(II)I" } : Jvm.MethodName)) ∈ gx_tb := gx_ok (List.mem_of_getElem? (i := 1193) (by decide +kernel)) (by decide +kernel)
theorem gw_1194 : (Jvm.Cond.methodLink "Grammarsmith$PredictiveTable" (102 : Nat) ({ cls := "Grammarsmith$Grammar", name := "length", desc := "(I)I" } : Jvm.MethodName)) ∈ gx_tb := gx_ok (List.mem_of_getElem? (i := 1194) (by decide +kernel)) (by decide +kernel)
theorem gw_1195 : (Jvm.Cond.methodLink "Grammarsmith$PredictiveTable" (105 : Nat) ({ cls := "Grammarsmith$Grammar", name := "symbol", desc := "(II)I" } : Jvm.MethodName)) ∈ gx_tb := gx_ok (List.mem_of_getElem? (i := 1195) (by decide +kernel)) (by decide +kernel)
theorem gw_1197 : (Jvm.Cond.methodLink "Grammarsmith$PredictiveTable" (76 : Nat) ({ cls := "Grammarsmith$PredictiveTable", name := "pop", desc := "()I" } : Jvm.MethodName)) ∈ gx_tb := gx_ok (List.mem_of_getElem? (i := 1197) (by decide +kernel)) (by decide +kernel)
theorem gw_1199 : (Jvm.Cond.instanceMethod ({ cls := "Grammarsmith$PredictiveTable", name := "pop", desc := "()I" } : Jvm.MethodName)) ∈ gx_tb := gx_ok (List.mem_of_getElem? (i := 1199) (by decide +kernel)) (by decide +kernel)
theorem gw_12 : (Jvm.Cond.initialized "Grammarsmith$CountingChart") ∈ gx_tb := gx_ok (List.mem_of_getElem? (i := 12) (by decide +kernel)) (by decide +kernel)
theorem gw_1201 : (Jvm.Cond.methodLink "Grammarsmith$PredictiveTable" (62 : Nat) ({ cls := "Grammarsmith$PredictiveTable", name := "next", desc := "()I" } : Jvm.MethodName)) ∈ gx_tb := gx_ok (List.mem_of_getElem? (i := 1201) (by decide +kernel)) (by decide +kernel)
theorem gw_1203 : (Jvm.Cond.instanceMethod ({ cls := "Grammarsmith$PredictiveTable", name := "next", desc := "()I" } : Jvm.MethodName)) ∈ gx_tb := gx_ok (List.mem_of_getElem? (i := 1203) (by decide +kernel)) (by decide +kernel)
theorem gw_1205 : (Jvm.Cond.methodLink "Grammarsmith$PredictiveTable" (59 : Nat) ({ cls := "Grammarsmith$PredictiveTable", name := "keepWorth", desc := "(I)V" } : Jvm.MethodName)) ∈ gx_tb := gx_ok (List.mem_of_getElem? (i := 1205) (by decide +kernel)) (by decide +kernel)
theorem gw_1206 : (Jvm.Cond.sameMethod "Grammarsmith$PredictiveTable" "Grammarsmith$Table" "keepWorth" "(I)V") ∈ gx_tb := gx_ok (List.mem_of_getElem? (i := 1206) (by decide +kernel)) (by decide +kernel)
theorem gw_1208 : (Jvm.Cond.selects "Grammarsmith$PredictiveTable" ({ cls := "Grammarsmith$PredictiveTable", name := "keepWorth", desc := "(I)V" } : Jvm.MethodName) ({ cls := "Grammarsmith$Table", name := "keepWorth", desc := "(I)V" } : Jvm.MethodName)) ∈ gx_tb := gx_ok (List.mem_of_getElem? (i := 1208) (by decide +kernel)) (by decide +kernel)
theorem gw_1209 : (Jvm.Cond.instanceMethod ({ cls := "Grammarsmith$Table", name := "keepWorth", desc := "(I)V" } : Jvm.MethodName)) ∈ gx_tb := gx_ok (List.mem_of_getElem? (i := 1209) (by decide +kernel)) (by decide +kernel)
theorem gw_1212 : (Jvm.Cond.methodLink "Grammarsmith$PredictiveTable" (69 : Nat) ({ cls := "Grammarsmith$PredictiveTable", name := "lowestIn", desc := "(II)I" } : Jvm.MethodName)) ∈ gx_tb := gx_ok (List.mem_of_getElem? (i := 1212) (by decide +kernel)) (by decide +kernel)
theorem gw_1214 : (Jvm.Cond.instanceMethod ({ cls := "Grammarsmith$PredictiveTable", name := "lowestIn", desc := "(II)I" } : Jvm.MethodName)) ∈ gx_tb := gx_ok (List.mem_of_getElem? (i := 1214) (by decide +kernel)) (by decide +kernel)
theorem gw_1216 : (Jvm.Cond.methodLink "Grammarsmith$PredictiveTable" (79 : Nat) ({ cls := "Grammarsmith$PredictiveTable", name := "apply", desc := "(I)V" } : Jvm.MethodName)) ∈ gx_tb := gx_ok (List.mem_of_getElem? (i := 1216) (by decide +kernel)) (by decide +kernel)
theorem gw_1218 : (Jvm.Cond.instanceMethod ({ cls := "Grammarsmith$PredictiveTable", name := "apply", desc := "(I)V" } : Jvm.MethodName)) ∈ gx_tb := gx_ok (List.mem_of_getElem? (i := 1218) (by decide +kernel)) (by decide +kernel)
theorem gw_1220 : (Jvm.Cond.selects "Grammarsmith$StateTable" ({ cls := "Grammarsmith$Table", name := "run", desc := "()I" } : Jvm.MethodName) ({ cls := "Grammarsmith$StateTable", name := "run", desc := "()I" } : Jvm.MethodName)) ∈ gx_tb := gx_ok (List.mem_of_getElem? (i := 1220) (by decide +kernel)) (by decide +kernel)
theorem gw_1221 : (Jvm.Cond.instanceMethod ({ cls := "Grammarsmith$StateTable", name := "run", desc := "()I" } : Jvm.MethodName)) ∈ gx_tb := gx_ok (List.mem_of_getElem? (i := 1221) (by decide +kernel)) (by decide +kernel)
theorem gw_1223 : (Jvm.Cond.methodLink "Grammarsmith$StateTable" (49 : Nat) ({ cls := "Grammarsmith$StateTable", name := "push", desc := "(II)V" } : Jvm.MethodName)) ∈ gx_tb := gx_ok (List.mem_of_getElem? (i := 1223) (by decide +kernel)) (by decide +kernel)
theorem gw_1225 : (Jvm.Cond.instanceMethod ({ cls := "Grammarsmith$StateTable", name := "push", desc := "(II)V" } : Jvm.MethodName)) ∈ gx_tb := gx_ok (List.mem_of_getElem? (i := 1225) (by decide +kernel)) (by decide +kernel)
theorem gw_1228 : (Jvm.Cond.methodLink "Grammarsmith$StateTable" (57 : Nat) ({ cls := "Grammarsmith$StateTable", name := "state", desc := "()I" } : Jvm.MethodName)) ∈ gx_tb := gx_ok (List.mem_of_getElem? (i := 1228) (by decide +kernel)) (by decide +kernel)
theorem gw_1230 : (Jvm.Cond.instanceMethod ({ cls := "Grammarsmith$StateTable", name := "state", desc := "()I" } : Jvm.MethodName)) ∈ gx_tb := gx_ok (List.mem_of_getElem? (i := 1230) (by decide +kernel)) (by decide +kernel)
theorem gw_1232 : (Jvm.Cond.methodLink "Grammarsmith$StateTable" (60 : Nat) ({ cls := "Grammarsmith$StateTable", name := "action", desc := "(II)I" } : Jvm.MethodName)) ∈ gx_tb := gx_ok (List.mem_of_getElem? (i := 1232) (by decide +kernel)) (by decide +kernel)
theorem gw_1234 : (Jvm.Cond.instanceMethod ({ cls := "Grammarsmith$StateTable", name := "action", desc := "(II)I" } : Jvm.MethodName)) ∈ gx_tb := gx_ok (List.mem_of_getElem? (i := 1234) (by decide +kernel)) (by decide +kernel)
theorem gw_1236 : (Jvm.Cond.methodLink "Grammarsmith$StateTable" (147 : Nat) ({ cls := "Grammarsmith$StateTable", name := "settledAction", desc := "(I)I" } : Jvm.MethodName)) ∈ gx_tb := gx_ok (List.mem_of_getElem? (i := 1236) (by decide +kernel)) (by decide +kernel)
theorem gw_1238 : (Jvm.Cond.instanceMethod ({ cls := "Grammarsmith$StateTable", name := "settledAction", desc := "(I)I" } : Jvm.MethodName)) ∈ gx_tb := gx_ok (List.mem_of_getElem? (i := 1238) (by decide +kernel)) (by decide +kernel)
theorem gw_1240 : (Jvm.Cond.methodLink "Grammarsmith$StateTable" (64 : Nat) ({ cls := "Grammarsmith$StateTable", name := "worthOfTop", desc := "()I" } : Jvm.MethodName)) ∈ gx_tb := gx_ok (List.mem_of_getElem? (i := 1240) (by decide +kernel)) (by decide +kernel)
theorem gw_1242 : (Jvm.Cond.instanceMethod ({ cls := "Grammarsmith$StateTable", name := "worthOfTop", desc := "()I" } : Jvm.MethodName)) ∈ gx_tb := gx_ok (List.mem_of_getElem? (i := 1242) (by decide +kernel)) (by decide +kernel)
theorem gw_1244 : (Jvm.Cond.methodLink "Grammarsmith$StateTable" (67 : Nat) ({ cls := "Grammarsmith$StateTable", name := "keepWorth", desc := "(I)V" } : Jvm.MethodName)) ∈ gx_tb := gx_ok (List.mem_of_getElem? (i := 1244) (by decide +kernel)) (by decide +kernel)
theorem gw_1245 : (Jvm.Cond.sameMethod "Grammarsmith$StateTable" "Grammarsmith$Table" "keepWorth" "(I)V") ∈ gx_tb := gx_ok (List.mem_of_getElem? (i := 1245) (by decide +kernel)) (by decide +kernel)
theorem gw_1246 : (Jvm.Cond.selects "Grammarsmith$StateTable" ({ cls := "Grammarsmith$StateTable", name := "keepWorth", desc := "(I)V" } : Jvm.MethodName) ({ cls := "Grammarsmith$Table", name := "keepWorth", desc := "(I)V" } : Jvm.MethodName)) ∈ gx_tb := gx_ok (List.mem_of_getElem? (i := 1246) (by decide +kernel)) (by decide +kernel)
theorem gw_1247 : (Jvm.Cond.methodLink "Grammarsmith$StateTable" (74 : Nat) ({ cls := "Grammarsmith$StateTable", name := "reduce", desc := "(I)V" } : Jvm.MethodName)) ∈ gx_tb := gx_ok (List.mem_of_getElem? (i := 1247) (by decide +kernel)) (by decide +kernel)
theorem gw_1249 : (Jvm.Cond.instanceMethod ({ cls := "Grammarsmith$StateTable", name := "reduce", desc := "(I)V" } : Jvm.MethodName)) ∈ gx_tb := gx_ok (List.mem_of_getElem? (i := 1249) (by decide +kernel)) (by decide +kernel)
theorem gw_1251 : (Jvm.Cond.methodLink "GrammarsmithLaw" (124 : Nat) ({ cls := "GrammarsmithLaw", name := "value", desc := "(LGrammarsmith;I)I" } : Jvm.MethodName)) ∈ gx_tb := gx_ok (List.mem_of_getElem? (i := 1251) (by decide +kernel)) (by decide +kernel)
theorem gw_1252 : (Jvm.Cond.static ({ cls := "GrammarsmithLaw", name := "value", desc := "(LGrammarsmith;I)I" } : Jvm.MethodName)) ∈ gx_tb := gx_ok (List.mem_of_getElem? (i := 1252) (by decide +kernel)) (by decide +kernel)
theorem gw_1254 : (Jvm.Cond.methodLink "GrammarsmithLaw" (89 : Nat) ({ cls := "Grammarsmith", name := "value", desc := "(I)I" } : Jvm.MethodName)) ∈ gx_tb := gx_ok (List.mem_of_getElem? (i := 1254) (by decide +kernel)) (by decide +kernel)
theorem gw_1255 : (Jvm.Cond.instanceMethod ({ cls := "Grammarsmith", name := "value", desc := "(I)I" } : Jvm.MethodName)) ∈ gx_tb := gx_ok (List.mem_of_getElem? (i := 1255) (by decide +kernel)) (by decide +kernel)
theorem gw_1256 : (Jvm.Cond.selects "Grammarsmith" ({ cls := "Grammarsmith", name := "value", desc := "(I)I" } : Jvm.MethodName) ({ cls := "Grammarsmith", name := "value", desc := "(I)I" } : Jvm.MethodName)) ∈ gx_tb := gx_ok (List.mem_of_getElem? (i := 1256) (by decide +kernel)) (by decide +kernel)
theorem gw_1259 : (Jvm.Cond.methodLink "Grammarsmith" (264 : Nat) ({ cls := "Grammarsmith$Table", name := "worth", desc := "()I" } : Jvm.MethodName)) ∈ gx_tb := gx_ok (List.mem_of_getElem? (i := 1259) (by decide +kernel)) (by decide +kernel)
theorem gw_1260 : (Jvm.Cond.instanceMethod ({ cls := "Grammarsmith$Table", name := "worth", desc := "()I" } : Jvm.MethodName)) ∈ gx_tb := gx_ok (List.mem_of_getElem? (i := 1260) (by decide +kernel)) (by decide +kernel)
theorem gw_1261 : (Jvm.Cond.sameMethod "Grammarsmith$Table" "Grammarsmith$Table" "worth" "()I") ∈ gx_tb := gx_ok (List.mem_of_getElem? (i := 1261) (by decide +kernel)) (by decide +kernel)
theorem gw_1262 : (Jvm.Cond.selects "Grammarsmith$PredictiveTable" ({ cls := "Grammarsmith$Table", name := "worth", desc := "()I" } : Jvm.MethodName) ({ cls := "Grammarsmith$Table", name := "worth", desc := "()I" } : Jvm.MethodName)) ∈ gx_tb := gx_ok (List.mem_of_getElem? (i := 1262) (by decide +kernel)) (by decide +kernel)
theorem gw_1263 : (Jvm.Cond.selects "Grammarsmith$StateTable" ({ cls := "Grammarsmith$Table", name := "worth", desc := "()I" } : Jvm.MethodName) ({ cls := "Grammarsmith$Table", name := "worth", desc := "()I" } : Jvm.MethodName)) ∈ gx_tb := gx_ok (List.mem_of_getElem? (i := 1263) (by decide +kernel)) (by decide +kernel)
theorem gw_1265 : (Jvm.Cond.methodLink "GrammarsmithLaw" (183 : Nat) ({ cls := "GrammarsmithLaw", name := "names", desc := "(LGrammarsmith;)Z" } : Jvm.MethodName)) ∈ gx_tb := gx_ok (List.mem_of_getElem? (i := 1265) (by decide +kernel)) (by decide +kernel)
theorem gw_1266 : (Jvm.Cond.static ({ cls := "GrammarsmithLaw", name := "names", desc := "(LGrammarsmith;)Z" } : Jvm.MethodName)) ∈ gx_tb := gx_ok (List.mem_of_getElem? (i := 1266) (by decide +kernel)) (by decide +kernel)
theorem gw_1268 : (Jvm.Cond.methodLink "GrammarsmithLaw" (126 : Nat) ({ cls := "GrammarsmithLaw", name := "shortest", desc := "(LGrammarsmith;I)I" } : Jvm.MethodName)) ∈ gx_tb := gx_ok (List.mem_of_getElem? (i := 1268) (by decide +kernel)) (by decide +kernel)
theorem gw_1269 : (Jvm.Cond.static ({ cls := "GrammarsmithLaw", name := "shortest", desc := "(LGrammarsmith;I)I" } : Jvm.MethodName)) ∈ gx_tb := gx_ok (List.mem_of_getElem? (i := 1269) (by decide +kernel)) (by decide +kernel)
theorem gw_1271 : (Jvm.Cond.methodLink "GrammarsmithLaw" (65 : Nat) ({ cls := "Grammarsmith", name := "shortest", desc := "(I)I" } : Jvm.MethodName)) ∈ gx_tb := gx_ok (List.mem_of_getElem? (i := 1271) (by decide +kernel)) (by decide +kernel)
theorem gw_1272 : (Jvm.Cond.instanceMethod ({ cls := "Grammarsmith", name := "shortest", desc := "(I)I" } : Jvm.MethodName)) ∈ gx_tb := gx_ok (List.mem_of_getElem? (i := 1272) (by decide +kernel)) (by decide +kernel)
theorem gw_1273 : (Jvm.Cond.selects "Grammarsmith" ({ cls := "Grammarsmith", name := "shortest", desc := "(I)I" } : Jvm.MethodName) ({ cls := "Grammarsmith", name := "shortest", desc := "(I)I" } : Jvm.MethodName)) ∈ gx_tb := gx_ok (List.mem_of_getElem? (i := 1273) (by decide +kernel)) (by decide +kernel)
theorem gw_1275 : (Jvm.Cond.methodLink "Grammarsmith" (200 : Nat) ({ cls := "Grammarsmith", name := "requireNonterminal", desc := "(I)V" } : Jvm.MethodName)) ∈ gx_tb := gx_ok (List.mem_of_getElem? (i := 1275) (by decide +kernel)) (by decide +kernel)
theorem gw_1276 : (Jvm.Cond.static ({ cls := "Grammarsmith", name := "requireNonterminal", desc := "(I)V" } : Jvm.MethodName)) ∈ gx_tb := gx_ok (List.mem_of_getElem? (i := 1276) (by decide +kernel)) (by decide +kernel)
theorem gw_1278 : (Jvm.Cond.methodLink "Grammarsmith" (224 : Nat) ({ cls := "Grammarsmith$Facts", name := "least", desc := "(I)I" } : Jvm.MethodName)) ∈ gx_tb := gx_ok (List.mem_of_getElem? (i := 1278) (by decide +kernel)) (by decide +kernel)
theorem gw_1279 : (Jvm.Cond.methodLink "GrammarsmithLaw" (128 : Nat) ({ cls := "GrammarsmithLaw", name := "uses", desc := "(LGrammarsmith;I)I" } : Jvm.MethodName)) ∈ gx_tb := gx_ok (List.mem_of_getElem? (i := 1279) (by decide +kernel)) (by decide +kernel)
theorem gw_1280 : (Jvm.Cond.static ({ cls := "GrammarsmithLaw", name := "uses", desc := "(LGrammarsmith;I)I" } : Jvm.MethodName)) ∈ gx_tb := gx_ok (List.mem_of_getElem? (i := 1280) (by decide +kernel)) (by decide +kernel)
theorem gw_1282 : (Jvm.Cond.methodLink "GrammarsmithLaw" (59 : Nat) ({ cls := "Grammarsmith", name := "uses", desc := "(I)I" } : Jvm.MethodName)) ∈ gx_tb := gx_ok (List.mem_of_getElem? (i := 1282) (by decide +kernel)) (by decide +kernel)
theorem gw_1283 : (Jvm.Cond.instanceMethod ({ cls := "Grammarsmith", name := "uses", desc := "(I)I" } : Jvm.MethodName)) ∈ gx_tb := gx_ok (List.mem_of_getElem? (i := 1283) (by decide +kernel)) (by decide +kernel)
theorem gw_1284 : (Jvm.Cond.selects "Grammarsmith" ({ cls := "Grammarsmith", name := "uses", desc := "(I)I" } : Jvm.MethodName) ({ cls := "Grammarsmith", name := "uses", desc := "(I)I" } : Jvm.MethodName)) ∈ gx_tb := gx_ok (List.mem_of_getElem? (i := 1284) (by decide +kernel)) (by decide +kernel)
theorem gw_1286 : (Jvm.Cond.methodLink "Grammarsmith" (218 : Nat) ({ cls := "Grammarsmith$Facts", name := "isReached", desc := "(I)Z" } : Jvm.MethodName)) ∈ gx_tb := gx_ok (List.mem_of_getElem? (i := 1286) (by decide +kernel)) (by decide +kernel)
theorem gw_1287 : (Jvm.Cond.instanceMethod ({ cls := "Grammarsmith$Facts", name := "isReached", desc := "(I)Z" } : Jvm.MethodName)) ∈ gx_tb := gx_ok (List.mem_of_getElem? (i := 1287) (by decide +kernel)) (by decide +kernel)
theorem gw_1288 : (Jvm.Cond.selects "Grammarsmith$Facts" ({ cls := "Grammarsmith$Facts", name := "isReached", desc := "(I)Z" } : Jvm.MethodName) ({ cls := "Grammarsmith$Facts", name := "isReached", desc := "(I)Z" } : Jvm.MethodName)) ∈ gx_tb := gx_ok (List.mem_of_getElem? (i := 1288) (by decide +kernel)) (by decide +kernel)
theorem gw_1290 : (Jvm.Cond.methodLink "GrammarsmithLaw" (130 : Nat) ({ cls := "GrammarsmithLaw", name := "nullable", desc := "(LGrammarsmith;I)I" } : Jvm.MethodName)) ∈ gx_tb := gx_ok (List.mem_of_getElem? (i := 1290) (by decide +kernel)) (by decide +kernel)
theorem gw_1291 : (Jvm.Cond.static ({ cls := "GrammarsmithLaw", name := "nullable", desc := "(LGrammarsmith;I)I" } : Jvm.MethodName)) ∈ gx_tb := gx_ok (List.mem_of_getElem? (i := 1291) (by decide +kernel)) (by decide +kernel)
theorem gw_1293 : (Jvm.Cond.methodLink "GrammarsmithLaw" (49 : Nat) ({ cls := "Grammarsmith", name := "isNullable", desc := "(I)Z" } : Jvm.MethodName)) ∈ gx_tb := gx_ok (List.mem_of_getElem? (i := 1293) (by decide +kernel)) (by decide +kernel)
theorem gw_1294 : (Jvm.Cond.instanceMethod ({ cls := "Grammarsmith", name := "isNullable", desc := "(I)Z" } : Jvm.MethodName)) ∈ gx_tb := gx_ok (List.mem_of_getElem? (i := 1294) (by decide +kernel)) (by decide +kernel)
theorem gw_1295 : (Jvm.Cond.selects "Grammarsmith" ({ cls := "Grammarsmith", name := "isNullable", desc := "(I)Z" } : Jvm.MethodName) ({ cls := "Grammarsmith", name := "isNullable", desc := "(I)Z" } : Jvm.MethodName)) ∈ gx_tb := gx_ok (List.mem_of_getElem? (i := 1295) (by decide +kernel)) (by decide +kernel)
theorem gw_1297 : (Jvm.Cond.methodLink "Grammarsmith" (206 : Nat) ({ cls := "Grammarsmith$Facts", name := "vanishes", desc := "(I)Z" } : Jvm.MethodName)) ∈ gx_tb := gx_ok (List.mem_of_getElem? (i := 1297) (by decide +kernel)) (by decide +kernel)
theorem gw_1298 : (Jvm.Cond.instanceMethod ({ cls := "Grammarsmith$Facts", name := "vanishes", desc := "(I)Z" } : Jvm.MethodName)) ∈ gx_tb := gx_ok (List.mem_of_getElem? (i := 1298) (by decide +kernel)) (by decide +kernel)
theorem gw_1299 : (Jvm.Cond.selects "Grammarsmith$Facts" ({ cls := "Grammarsmith$Facts", name := "vanishes", desc := "(I)Z" } : Jvm.MethodName) ({ cls := "Grammarsmith$Facts", name := "vanishes", desc := "(I)Z" } : Jvm.MethodName)) ∈ gx_tb := gx_ok (List.mem_of_getElem? (i := 1299) (by decide +kernel)) (by decide +kernel)
theorem gw_13 : (Jvm.Cond.initialized "Grammarsmith$RepairingChart") ∈ gx_tb := gx_ok (List.mem_of_getElem? (i := 13) (by decide +kernel)) (by decide +kernel)
theorem gw_1301 : (Jvm.Cond.methodLink "GrammarsmithLaw" (133 : Nat) ({ cls := "GrammarsmithLaw", name := "first", desc := "(LGrammarsmith;I)I" } : Jvm.MethodName)) ∈ gx_tb := gx_ok (List.mem_of_getElem? (i := 1301) (by decide +kernel)) (by decide +kernel)
theorem gw_1302 : (Jvm.Cond.static ({ cls := "GrammarsmithLaw", name := "first", desc := "(LGrammarsmith;I)I" } : Jvm.MethodName)) ∈ gx_tb := gx_ok (List.mem_of_getElem? (i := 1302) (by decide +kernel)) (by decide +kernel)
theorem gw_1304 : (Jvm.Cond.methodLink "GrammarsmithLaw" (53 : Nat) ({ cls := "Grammarsmith", name := "first", desc := "(I)I" } : Jvm.MethodName)) ∈ gx_tb := gx_ok (List.mem_of_getElem? (i := 1304) (by decide +kernel)) (by decide +kernel)
theorem gw_1305 : (Jvm.Cond.instanceMethod ({ cls := "Grammarsmith", name := "first", desc := "(I)I" } : Jvm.MethodName)) ∈ gx_tb := gx_ok (List.mem_of_getElem? (i := 1305) (by decide +kernel)) (by decide +kernel)
theorem gw_1306 : (Jvm.Cond.selects "Grammarsmith" ({ cls := "Grammarsmith", name := "first", desc := "(I)I" } : Jvm.MethodName) ({ cls := "Grammarsmith", name := "first", desc := "(I)I" } : Jvm.MethodName)) ∈ gx_tb := gx_ok (List.mem_of_getElem? (i := 1306) (by decide +kernel)) (by decide +kernel)
theorem gw_1308 : (Jvm.Cond.methodLink "Grammarsmith" (209 : Nat) ({ cls := "Grammarsmith$Facts", name := "firsts", desc := "(I)I" } : Jvm.MethodName)) ∈ gx_tb := gx_ok (List.mem_of_getElem? (i := 1308) (by decide +kernel)) (by decide +kernel)
theorem gw_1309 : (Jvm.Cond.instanceMethod ({ cls := "Grammarsmith$Facts", name := "firsts", desc := "(I)I" } : Jvm.MethodName)) ∈ gx_tb := gx_ok (List.mem_of_getElem? (i := 1309) (by decide +kernel)) (by decide +kernel)
theorem gw_1310 : (Jvm.Cond.selects "Grammarsmith$Facts" ({ cls := "Grammarsmith$Facts", name := "firsts", desc := "(I)I" } : Jvm.MethodName) ({ cls := "Grammarsmith$Facts", name := "firsts", desc := "(I)I" } : Jvm.MethodName)) ∈ gx_tb := gx_ok (List.mem_of_getElem? (i := 1310) (by decide +kernel)) (by decide +kernel)
theorem gw_1312 : (Jvm.Cond.methodLink "GrammarsmithLaw" (135 : Nat) ({ cls := "GrammarsmithLaw", name := "sentence", desc := "(LGrammarsmith;II)I" } : Jvm.MethodName)) ∈ gx_tb := gx_ok (List.mem_of_getElem? (i := 1312) (by decide +kernel)) (by decide +kernel)
theorem gw_1313 : (Jvm.Cond.static ({ cls := "GrammarsmithLaw", name := "sentence", desc := "(LGrammarsmith;II)I" } : Jvm.MethodName)) ∈ gx_tb := gx_ok (List.mem_of_getElem? (i := 1313) (by decide +kernel)) (by decide +kernel)
theorem gw_1315 : (Jvm.Cond.methodLink "GrammarsmithLaw" (68 : Nat) ({ cls := "Grammarsmith", name := "sentence", desc := "(II)I" } : Jvm.MethodName)) ∈ gx_tb := gx_ok (List.mem_of_getElem? (i := 1315) (by decide +kernel)) (by decide +kernel)
theorem gw_1316 : (Jvm.Cond.instanceMethod ({ cls := "Grammarsmith", name := "sentence", desc := "(II)I" } : Jvm.MethodName)) ∈ gx_tb := gx_ok (List.mem_of_getElem? (i := 1316) (by decide +kernel)) (by decide +kernel)
theorem gw_1317 : (Jvm.Cond.selects "Grammarsmith" ({ cls := "Grammarsmith", name := "sentence", desc := "(II)I" } : Jvm.MethodName) ({ cls := "Grammarsmith", name := "sentence", desc := "(II)I" } : Jvm.MethodName)) ∈ gx_tb := gx_ok (List.mem_of_getElem? (i := 1317) (by decide +kernel)) (by decide +kernel)
theorem gw_1320 : (Jvm.Cond.methodLink "Grammarsmith" (231 : Nat) ({ cls := "Grammarsmith$Facts", name := "spelled", desc := "(II)I" } : Jvm.MethodName)) ∈ gx_tb := gx_ok (List.mem_of_getElem? (i := 1320) (by decide +kernel)) (by decide +kernel)
theorem gw_1321 : (Jvm.Cond.instanceMethod ({ cls := "Grammarsmith$Facts", name := "spelled", desc := "(II)I" } : Jvm.MethodName)) ∈ gx_tb := gx_ok (List.mem_of_getElem? (i := 1321) (by decide +kernel)) (by decide +kernel)
theorem gw_1322 : (Jvm.Cond.selects "Grammarsmith$Facts" ({ cls := "Grammarsmith$Facts", name := "spelled", desc := "(II)I" } : Jvm.MethodName) ({ cls := "Grammarsmith$Facts", name := "spelled", desc := "(II)I" } : Jvm.MethodName)) ∈ gx_tb := gx_ok (List.mem_of_getElem? (i := 1322) (by decide +kernel)) (by decide +kernel)
theorem gw_1324 : (Jvm.Cond.methodLink "GrammarsmithLaw" (138 : Nat) ({ cls := "GrammarsmithLaw", name := "follow", desc := "(LGrammarsmith;I)I" } : Jvm.MethodName)) ∈ gx_tb := gx_ok (List.mem_of_getElem? (i := 1324) (by decide +kernel)) (by decide +kernel)
theorem gw_1325 : (Jvm.Cond.static ({ cls := "GrammarsmithLaw", name := "follow", desc := "(LGrammarsmith;I)I" } : Jvm.MethodName)) ∈ gx_tb := gx_ok (List.mem_of_getElem? (i := 1325) (by decide +kernel)) (by decide +kernel)
theorem gw_1327 : (Jvm.Cond.methodLink "GrammarsmithLaw" (56 : Nat) ({ cls := "Grammarsmith", name := "follow", desc := "(I)I" } : Jvm.MethodName)) ∈ gx_tb := gx_ok (List.mem_of_getElem? (i := 1327) (by decide +kernel)) (by decide +kernel)
theorem gw_1328 : (Jvm.Cond.instanceMethod ({ cls := "Grammarsmith", name := "follow", desc := "(I)I" } : Jvm.MethodName)) ∈ gx_tb := gx_ok (List.mem_of_getElem? (i := 1328) (by decide +kernel)) (by decide +kernel)
theorem gw_1329 : (Jvm.Cond.selects "Grammarsmith" ({ cls := "Grammarsmith", name := "follow", desc := "(I)I" } : Jvm.MethodName) ({ cls := "Grammarsmith", name := "follow", desc := "(I)I" } : Jvm.MethodName)) ∈ gx_tb := gx_ok (List.mem_of_getElem? (i := 1329) (by decide +kernel)) (by decide +kernel)
theorem gw_1331 : (Jvm.Cond.methodLink "Grammarsmith" (212 : Nat) ({ cls := "Grammarsmith$Facts", name := "behind", desc := "(I)I" } : Jvm.MethodName)) ∈ gx_tb := gx_ok (List.mem_of_getElem? (i := 1331) (by decide +kernel)) (by decide +kernel)
theorem gw_1332 : (Jvm.Cond.sameMethod "Grammarsmith$Chart" "Grammarsmith$Chart" "fill" "(II)V") ∈ gx_tb := gx_ok (List.mem_of_getElem? (i := 1332) (by decide +kernel)) (by decide +kernel)
theorem gw_1333 : (Jvm.Cond.sameMethod "Grammarsmith$Chart" "Grammarsmith$Chart" "setWhole" "(IIII)V") ∈ gx_tb := gx_ok (List.mem_of_getElem? (i := 1333) (by decide +kernel)) (by decide +kernel)
theorem gw_1334 : (Jvm.Cond.sameMethod "Grammarsmith$Chart" "Grammarsmith$Chart" "refine" "(II)Z") ∈ gx_tb := gx_ok (List.mem_of_getElem? (i := 1334) (by decide +kernel)) (by decide +kernel)
theorem gw_1335 : (Jvm.Cond.sameMethod "Grammarsmith$Chart" "Grammarsmith$Chart" "ofProduction" "(III)I") ∈ gx_tb := gx_ok (List.mem_of_getElem? (i := 1335) (by decide +kernel)) (by decide +kernel)
theorem gw_1336 : (Jvm.Cond.sameMethod "Grammarsmith$Chart" "Grammarsmith$Chart" "setPart" "(IIII)V") ∈ gx_tb := gx_ok (List.mem_of_getElem? (i := 1336) (by decide +kernel)) (by decide +kernel)
theorem gw_1337 : (Jvm.Cond.sameMethod "Grammarsmith$Chart" "Grammarsmith$Chart" "part" "(III)I") ∈ gx_tb := gx_ok (List.mem_of_getElem? (i := 1337) (by decide +kernel)) (by decide +kernel)
theorem gw_1338 : (Jvm.Cond.sameMethod "Grammarsmith$Chart" "Grammarsmith$Chart" "whole" "(III)I") ∈ gx_tb := gx_ok (List.mem_of_getElem? (i := 1338) (by decide +kernel)) (by decide +kernel)
theorem gw_149 : (Jvm.Cond.arrayClass Jvm.ClassFile.FieldType.long) ∈ gx_tb := gx_ok (List.mem_of_getElem? (i := 149) (by decide +kernel)) (by decide +kernel)
theorem gw_150 : (Jvm.Cond.classLink "Grammarsmith" (30 : Nat) "Grammarsmith$Automaton") ∈ gx_tb := gx_ok (List.mem_of_getElem? (i := 150) (by decide +kernel)) (by decide +kernel)
theorem gw_151 : (Jvm.Cond.instantiable "Grammarsmith$Automaton" (10 : Nat)) ∈ gx_tb := gx_ok (List.mem_of_getElem? (i := 151) (by decide +kernel)) (by decide +kernel)
theorem gw_152 : (Jvm.Cond.methodLink "Grammarsmith" (32 : Nat) ({ cls := "Grammarsmith$Automaton", name := "<init>", desc := "(LGrammarsmith$Facts;Z)V" } : Jvm.MethodName)) ∈ gx_tb := gx_ok (List.mem_of_getElem? (i := 152) (by decide +kernel)) (by decide +kernel)
theorem gw_153 : (Jvm.Cond.instanceMethod ({ cls := "Grammarsmith$Automaton", name := "<init>", desc := "(LGrammarsmith$Facts;Z)V" } : Jvm.MethodName)) ∈ gx_tb := gx_ok (List.mem_of_getElem? (i := 153) (by decide +kernel)) (by decide +kernel)
theorem gw_155 : (Jvm.Cond.methodLink "Grammarsmith$Automaton" (3 : Nat) ({ cls := "java/lang/Object", name := "<init>", desc := "()V" } : Jvm.MethodName)) ∈ gx_tb := gx_ok (List.mem_of_getElem? (i := 155) (by decide +kernel)) (by decide +kernel)
theorem gw_156 : (Jvm.Cond.fieldLink "Grammarsmith$Automaton" (28 : Nat) "Grammarsmith$Automaton" "facts" "LGrammarsmith$Facts;") ∈ gx_tb := gx_ok (List.mem_of_getElem? (i := 156) (by decide +kernel)) (by decide +kernel)
theorem gw_157 : (Jvm.Cond.fieldLink "Grammarsmith$Automaton" (32 : Nat) "Grammarsmith$Automaton" "merges" "Z") ∈ gx_tb := gx_ok (List.mem_of_getElem? (i := 157) (by decide +kernel)) (by decide +kernel)
theorem gw_158 : (Jvm.Cond.fieldLink "Grammarsmith$Automaton" (36 : Nat) "Grammarsmith$Automaton" "built" "Z") ∈ gx_tb := gx_ok (List.mem_of_getElem? (i := 158) (by decide +kernel)) (by decide +kernel)
theorem gw_159 : (Jvm.Cond.fieldLink "Grammarsmith$Automaton" (39 : Nat) "Grammarsmith$Automaton" "tooLarge" "Z") ∈ gx_tb := gx_ok (List.mem_of_getElem? (i := 159) (by decide +kernel)) (by decide +kernel)
theorem gw_160 : (Jvm.Cond.fieldLink "Grammarsmith$Automaton" (42 : Nat) "Grammarsmith$Automaton" "states" "I") ∈ gx_tb := gx_ok (List.mem_of_getElem? (i := 160) (by decide +kernel)) (by decide +kernel)
theorem gw_161 : (Jvm.Cond.fieldLink "Grammarsmith$Automaton" (9 : Nat) "Grammarsmith$Automaton" "rows" "[I") ∈ gx_tb := gx_ok (List.mem_of_getElem? (i := 161) (by decide +kernel)) (by decide +kernel)
theorem gw_162 : (Jvm.Cond.fieldLink "Grammarsmith$Automaton" (15 : Nat) "Grammarsmith$Automaton" "moves" "[I") ∈ gx_tb := gx_ok (List.mem_of_getElem? (i := 162) (by decide +kernel)) (by decide +kernel)
theorem gw_163 : (Jvm.Cond.fieldLink "Grammarsmith$Automaton" (18 : Nat) "Grammarsmith$Automaton" "entries" "[I") ∈ gx_tb := gx_ok (List.mem_of_getElem? (i := 163) (by decide +kernel)) (by decide +kernel)
theorem gw_164 : (Jvm.Cond.fieldLink "Grammarsmith$Automaton" (21 : Nat) "Grammarsmith$Automaton" "waiting" "[Z") ∈ gx_tb := gx_ok (List.mem_of_getElem? (i := 164) (by decide +kernel)) (by decide +kernel)
theorem gw_165 : (Jvm.Cond.fieldLink "Grammarsmith$Automaton" (25 : Nat) "Grammarsmith$Automaton" "fresh" "[I") ∈ gx_tb := gx_ok (List.mem_of_getElem? (i := 165) (by decide +kernel)) (by decide +kernel)
theorem gw_187 : (Jvm.Cond.arrayClass Jvm.ClassFile.FieldType.boolean) ∈ gx_tb := gx_ok (List.mem_of_getElem? (i := 187) (by decide +kernel)) (by decide +kernel)
theorem gw_188 : (Jvm.Cond.classLink "Grammarsmith" (63 : Nat) "Grammarsmith$PredictiveTable") ∈ gx_tb := gx_ok (List.mem_of_getElem? (i := 188) (by decide +kernel)) (by decide +kernel)
theorem gw_189 : (Jvm.Cond.instantiable "Grammarsmith$PredictiveTable" (7 : Nat)) ∈ gx_tb := gx_ok (List.mem_of_getElem? (i := 189) (by decide +kernel)) (by decide +kernel)
theorem gw_190 : (Jvm.Cond.methodLink "Grammarsmith" (65 : Nat) ({ cls := "Grammarsmith$PredictiveTable", name := "<init>", desc := "(LGrammarsmith$Facts;[I)V" } : Jvm.MethodName)) ∈ gx_tb := gx_ok (List.mem_of_getElem? (i := 190) (by decide +kernel)) (by decide +kernel)
theorem gw_191 : (Jvm.Cond.instanceMethod ({ cls := "Grammarsmith$PredictiveTable", name := "<init>", desc := "(LGrammarsmith$Facts;[I)V" } : Jvm.MethodName)) ∈ gx_tb := gx_ok (List.mem_of_getElem? (i := 191) (by decide +kernel)) (by decide +kernel)
theorem gw_194 : (Jvm.Cond.instanceMethod ({ cls := "Grammarsmith$Table", name := "<init>", desc := "()V" } : Jvm.MethodName)) ∈ gx_tb := gx_ok (List.mem_of_getElem? (i := 194) (by decide +kernel)) (by decide +kernel)
theorem gw_196 : (Jvm.Cond.methodLink "Grammarsmith$Table" (1 : Nat) ({ cls := "java/lang/Object", name := "<init>", desc := "()V" } : Jvm.MethodName)) ∈ gx_tb := gx_ok (List.mem_of_getElem? (i := 196) (by decide +kernel)) (by decide +kernel)
theorem gw_197 : (Jvm.Cond.fieldLink "Grammarsmith$PredictiveTable" (18 : Nat) "Grammarsmith$PredictiveTable" "facts" "LGrammarsmith$Facts;") ∈ gx_tb := gx_ok (List.mem_of_getElem? (i := 197) (by decide +kernel)) (by decide +kernel)
theorem gw_198 : (Jvm.Cond.fieldLink "Grammarsmith$PredictiveTable" (22 : Nat) "Grammarsmith$PredictiveTable" "sentence" "[I") ∈ gx_tb := gx_ok (List.mem_of_getElem? (i := 198) (by decide +kernel)) (by decide +kernel)
theorem gw_199 : (Jvm.Cond.fieldLink "Grammarsmith$PredictiveTable" (9 : Nat) "Grammarsmith$PredictiveTable" "stack" "[I") ∈ gx_tb := gx_ok (List.mem_of_getElem? (i := 199) (by decide +kernel)) (by decide +kernel)
theorem gw_2 : (Jvm.Cond.initialized "Grammarsmith$RuleText") ∈ gx_tb := gx_ok (List.mem_of_getElem? (i := 2) (by decide +kernel)) (by decide +kernel)
theorem gw_200 : (Jvm.Cond.fieldLink "Grammarsmith$PredictiveTable" (29 : Nat) "Grammarsmith$PredictiveTable" "height" "I") ∈ gx_tb := gx_ok (List.mem_of_getElem? (i := 200) (by decide +kernel)) (by decide +kernel)
theorem gw_201 : (Jvm.Cond.fieldLink "Grammarsmith$PredictiveTable" (15 : Nat) "Grammarsmith$PredictiveTable" "applied" "[I") ∈ gx_tb := gx_ok (List.mem_of_getElem? (i := 201) (by decide +kernel)) (by decide +kernel)
theorem gw_202 : (Jvm.Cond.fieldLink "Grammarsmith$PredictiveTable" (33 : Nat) "Grammarsmith$PredictiveTable" "applications" "I") ∈ gx_tb := gx_ok (List.mem_of_getElem? (i := 202) (by decide +kernel)) (by decide +kernel)
theorem gw_203 : (Jvm.Cond.fieldLink "Grammarsmith$Table" (7 : Nat) "Grammarsmith$Table" "worth" "I") ∈ gx_tb := gx_ok (List.mem_of_getElem? (i := 203) (by decide +kernel)) (by decide +kernel)
theorem gw_21 : (Jvm.Cond.classLink "GrammarsmithLaw" (10 : Nat) "Grammarsmith") ∈ gx_tb := gx_ok (List.mem_of_getElem? (i := 21) (by decide +kernel)) (by decide +kernel)
theorem gw_219 : (Jvm.Cond.classLink "Grammarsmith" (72 : Nat) "Grammarsmith$StateTable") ∈ gx_tb := gx_ok (List.mem_of_getElem? (i := 219) (by decide +kernel)) (by decide +kernel)
theorem gw_22 : (Jvm.Cond.instantiable "Grammarsmith" (17 : Nat)) ∈ gx_tb := gx_ok (List.mem_of_getElem? (i := 22) (by decide +kernel)) (by decide +kernel)
theorem gw_220 : (Jvm.Cond.instantiable "Grammarsmith$StateTable" (13 : Nat)) ∈ gx_tb := gx_ok (List.mem_of_getElem? (i := 220) (by decide +kernel)) (by decide +kernel)
theorem gw_221 : (Jvm.Cond.methodLink "Grammarsmith" (74 : Nat) ({ cls := "Grammarsmith$StateTable", name := "<init>", desc := "(LGrammarsmith$Automaton;Z[I[I[I)V" } : Jvm.MethodName)) ∈ gx_tb := gx_ok (List.mem_of_getElem? (i := 221) (by decide +kernel)) (by decide +kernel)
theorem gw_222 : (Jvm.Cond.instanceMethod ({ cls := "Grammarsmith$StateTable", name := "<init>", desc := "(LGrammarsmith$Automaton;Z[I[I[I)V" } : Jvm.MethodName)) ∈ gx_tb := gx_ok (List.mem_of_getElem? (i := 222) (by decide +kernel)) (by decide +kernel)
theorem gw_225 : (Jvm.Cond.fieldLink "Grammarsmith$StateTable" (18 : Nat) "Grammarsmith$StateTable" "automaton" "LGrammarsmith$Automaton;") ∈ gx_tb := gx_ok (List.mem_of_getElem? (i := 225) (by decide +kernel)) (by decide +kernel)
theorem gw_226 : (Jvm.Cond.fieldLink "Grammarsmith$StateTable" (22 : Nat) "Grammarsmith$StateTable" "looksBehindLefts" "Z") ∈ gx_tb := gx_ok (List.mem_of_getElem? (i := 226) (by decide +kernel)) (by decide +kernel)
theorem gw_227 : (Jvm.Cond.fieldLink "Grammarsmith$StateTable" (26 : Nat) "Grammarsmith$StateTable" "levels" "[I") ∈ gx_tb := gx_ok (List.mem_of_getElem? (i := 227) (by decide +kernel)) (by decide +kernel)
theorem gw_228 : (Jvm.Cond.fieldLink "Grammarsmith$StateTable" (29 : Nat) "Grammarsmith$StateTable" "sides" "[I") ∈ gx_tb := gx_ok (List.mem_of_getElem? (i := 228) (by decide +kernel)) (by decide +kernel)
theorem gw_229 : (Jvm.Cond.fieldLink "Grammarsmith$StateTable" (32 : Nat) "Grammarsmith$StateTable" "sentence" "[I") ∈ gx_tb := gx_ok (List.mem_of_getElem? (i := 229) (by decide +kernel)) (by decide +kernel)
theorem gw_23 : (Jvm.Cond.methodLink "GrammarsmithLaw" (140 : Nat) ({ cls := "Grammarsmith", name := "<init>", desc := "()V" } : Jvm.MethodName)) ∈ gx_tb := gx_ok (List.mem_of_getElem? (i := 23) (by decide +kernel)) (by decide +kernel)
theorem gw_230 : (Jvm.Cond.fieldLink "Grammarsmith$StateTable" (101 : Nat) "Grammarsmith$StateTable" "shifts" "Z") ∈ gx_tb := gx_ok (List.mem_of_getElem? (i := 230) (by decide +kernel)) (by decide +kernel)
theorem gw_231 : (Jvm.Cond.fieldLink "Grammarsmith$StateTable" (111 : Nat) "Grammarsmith$StateTable" "accepts" "Z") ∈ gx_tb := gx_ok (List.mem_of_getElem? (i := 231) (by decide +kernel)) (by decide +kernel)
theorem gw_232 : (Jvm.Cond.fieldLink "Grammarsmith$StateTable" (114 : Nat) "Grammarsmith$StateTable" "reductions" "I") ∈ gx_tb := gx_ok (List.mem_of_getElem? (i := 232) (by decide +kernel)) (by decide +kernel)
theorem gw_233 : (Jvm.Cond.fieldLink "Grammarsmith$StateTable" (117 : Nat) "Grammarsmith$StateTable" "lowest" "I") ∈ gx_tb := gx_ok (List.mem_of_getElem? (i := 233) (by decide +kernel)) (by decide +kernel)
theorem gw_234 : (Jvm.Cond.fieldLink "Grammarsmith$StateTable" (9 : Nat) "Grammarsmith$StateTable" "stack" "[I") ∈ gx_tb := gx_ok (List.mem_of_getElem? (i := 234) (by decide +kernel)) (by decide +kernel)
theorem gw_235 : (Jvm.Cond.fieldLink "Grammarsmith$StateTable" (15 : Nat) "Grammarsmith$StateTable" "worths" "[I") ∈ gx_tb := gx_ok (List.mem_of_getElem? (i := 235) (by decide +kernel)) (by decide +kernel)
theorem gw_236 : (Jvm.Cond.fieldLink "Grammarsmith$StateTable" (45 : Nat) "Grammarsmith$StateTable" "height" "I") ∈ gx_tb := gx_ok (List.mem_of_getElem? (i := 236) (by decide +kernel)) (by decide +kernel)
theorem gw_24 : (Jvm.Cond.instanceMethod ({ cls := "Grammarsmith", name := "<init>", desc := "()V" } : Jvm.MethodName)) ∈ gx_tb := gx_ok (List.mem_of_getElem? (i := 24) (by decide +kernel)) (by decide +kernel)
theorem gw_26 : (Jvm.Cond.methodLink "Grammarsmith" (3 : Nat) ({ cls := "java/lang/Object", name := "<init>", desc := "()V" } : Jvm.MethodName)) ∈ gx_tb := gx_ok (List.mem_of_getElem? (i := 26) (by decide +kernel)) (by decide +kernel)
theorem gw_263 : (Jvm.Cond.classLink "Grammarsmith" (86 : Nat) "Grammarsmith$CountingChart") ∈ gx_tb := gx_ok (List.mem_of_getElem? (i := 263) (by decide +kernel)) (by decide +kernel)
theorem gw_264 : (Jvm.Cond.instantiable "Grammarsmith$CountingChart" (5 : Nat)) ∈ gx_tb := gx_ok (List.mem_of_getElem? (i := 264) (by decide +kernel)) (by decide +kernel)
theorem gw_265 : (Jvm.Cond.methodLink "Grammarsmith" (88 : Nat) ({ cls := "Grammarsmith$CountingChart", name := "<init>", desc := "(LGrammarsmith$Facts;[I[I[I)V" } : Jvm.MethodName)) ∈ gx_tb := gx_ok (List.mem_of_getElem? (i := 265) (by decide +kernel)) (by decide +kernel)
theorem gw_266 : (Jvm.Cond.instanceMethod ({ cls := "Grammarsmith$CountingChart", name := "<init>", desc := "(LGrammarsmith$Facts;[I[I[I)V" } : Jvm.MethodName)) ∈ gx_tb := gx_ok (List.mem_of_getElem? (i := 266) (by decide +kernel)) (by decide +kernel)
theorem gw_268 : (Jvm.Cond.methodLink "Grammarsmith$CountingChart" (3 : Nat) ({ cls := "Grammarsmith$Chart", name := "<init>", desc := "(LGrammarsmith$Facts;[I[I[I)V" } : Jvm.MethodName)) ∈ gx_tb := gx_ok (List.mem_of_getElem? (i := 268) (by decide +kernel)) (by decide +kernel)
theorem gw_269 : (Jvm.Cond.instanceMethod ({ cls := "Grammarsmith$Chart", name := "<init>", desc := "(LGrammarsmith$Facts;[I[I[I)V" } : Jvm.MethodName)) ∈ gx_tb := gx_ok (List.mem_of_getElem? (i := 269) (by decide +kernel)) (by decide +kernel)
theorem gw_27 : (Jvm.Cond.instanceMethod ({ cls := "java/lang/Object", name := "<init>", desc := "()V" } : Jvm.MethodName)) ∈ gx_tb := gx_ok (List.mem_of_getElem? (i := 27) (by decide +kernel)) (by decide +kernel)
theorem gw_271 : (Jvm.Cond.methodLink "Grammarsmith$Chart" (3 : Nat) ({ cls := "java/lang/Object", name := "<init>", desc := "()V" } : Jvm.MethodName)) ∈ gx_tb := gx_ok (List.mem_of_getElem? (i := 271) (by decide +kernel)) (by decide +kernel)
theorem gw_272 : (Jvm.Cond.fieldLink "Grammarsmith$Chart" (15 : Nat) "Grammarsmith$Chart" "facts" "LGrammarsmith$Facts;") ∈ gx_tb := gx_ok (List.mem_of_getElem? (i := 272) (by decide +kernel)) (by decide +kernel)
theorem gw_273 : (Jvm.Cond.fieldLink "Grammarsmith$Chart" (19 : Nat) "Grammarsmith$Chart" "sentence" "[I") ∈ gx_tb := gx_ok (List.mem_of_getElem? (i := 273) (by decide +kernel)) (by decide +kernel)
theorem gw_274 : (Jvm.Cond.fieldLink "Grammarsmith$Chart" (22 : Nat) "Grammarsmith$Chart" "wholes" "[I") ∈ gx_tb := gx_ok (List.mem_of_getElem? (i := 274) (by decide +kernel)) (by decide +kernel)
theorem gw_275 : (Jvm.Cond.fieldLink "Grammarsmith$Chart" (25 : Nat) "Grammarsmith$Chart" "parts" "[I") ∈ gx_tb := gx_ok (List.mem_of_getElem? (i := 275) (by decide +kernel)) (by decide +kernel)
theorem gw_276 : (Jvm.Cond.fieldLink "Grammarsmith$Chart" (9 : Nat) "Grammarsmith$Chart" "sums" "[I") ∈ gx_tb := gx_ok (List.mem_of_getElem? (i := 276) (by decide +kernel)) (by decide +kernel)
theorem gw_28 : (Jvm.Cond.code ({ cls := "java/lang/Object", name := "<init>", desc := "()V" } : Jvm.MethodName) object_method_1_code (1 : Nat) (Option.none : Option Jvm.ClassFile.FieldType)) ∈ gx_tb := gx_ok (List.mem_of_getElem? (i := 28) (by decide +kernel)) (by decide +kernel)
theorem gw_288 : (Jvm.Cond.classLink "Grammarsmith" (95 : Nat) "Grammarsmith$RepairingChart") ∈ gx_tb := gx_ok (List.mem_of_getElem? (i := 288) (by decide +kernel)) (by decide +kernel)
theorem gw_289 : (Jvm.Cond.instantiable "Grammarsmith$RepairingChart" (5 : Nat)) ∈ gx_tb := gx_ok (List.mem_of_getElem? (i := 289) (by decide +kernel)) (by decide +kernel)
theorem gw_29 : (Jvm.Cond.classLink "Grammarsmith" (9 : Nat) "Grammarsmith$RuleText") ∈ gx_tb := gx_ok (List.mem_of_getElem? (i := 29) (by decide +kernel)) (by decide +kernel)
theorem gw_290 : (Jvm.Cond.methodLink "Grammarsmith" (97 : Nat) ({ cls := "Grammarsmith$RepairingChart", name := "<init>", desc := "(LGrammarsmith$Facts;[I[I[I)V" } : Jvm.MethodName)) ∈ gx_tb := gx_ok (List.mem_of_getElem? (i := 290) (by decide +kernel)) (by decide +kernel)
theorem gw_291 : (Jvm.Cond.instanceMethod ({ cls := "Grammarsmith$RepairingChart", name := "<init>", desc := "(LGrammarsmith$Facts;[I[I[I)V" } : Jvm.MethodName)) ∈ gx_tb := gx_ok (List.mem_of_getElem? (i := 291) (by decide +kernel)) (by decide +kernel)
theorem gw_293 : (Jvm.Cond.methodLink "Grammarsmith$RepairingChart" (3 : Nat) ({ cls := "Grammarsmith$Chart", name := "<init>", desc := "(LGrammarsmith$Facts;[I[I[I)V" } : Jvm.MethodName)) ∈ gx_tb := gx_ok (List.mem_of_getElem? (i := 293) (by decide +kernel)) (by decide +kernel)
theorem gw_3 : (Jvm.Cond.initialized "Grammarsmith$Grammar") ∈ gx_tb := gx_ok (List.mem_of_getElem? (i := 3) (by decide +kernel)) (by decide +kernel)
theorem gw_30 : (Jvm.Cond.instantiable "Grammarsmith$RuleText" (2 : Nat)) ∈ gx_tb := gx_ok (List.mem_of_getElem? (i := 30) (by decide +kernel)) (by decide +kernel)
theorem gw_300 : (Jvm.Cond.fieldLink "Grammarsmith" (12 : Nat) "Grammarsmith" "text" "LGrammarsmith$RuleText;") ∈ gx_tb := gx_ok (List.mem_of_getElem? (i := 300) (by decide +kernel)) (by decide +kernel)
theorem gw_301 : (Jvm.Cond.fieldLink "Grammarsmith" (35 : Nat) "Grammarsmith" "inUse" "LGrammarsmith$Grammar;") ∈ gx_tb := gx_ok (List.mem_of_getElem? (i := 301) (by decide +kernel)) (by decide +kernel)
theorem gw_302 : (Jvm.Cond.fieldLink "Grammarsmith" (39 : Nat) "Grammarsmith" "other" "LGrammarsmith$Grammar;") ∈ gx_tb := gx_ok (List.mem_of_getElem? (i := 302) (by decide +kernel)) (by decide +kernel)
theorem gw_303 : (Jvm.Cond.fieldLink "Grammarsmith" (156 : Nat) "Grammarsmith" "numberInUse" "I") ∈ gx_tb := gx_ok (List.mem_of_getElem? (i := 303) (by decide +kernel)) (by decide +kernel)
theorem gw_304 : (Jvm.Cond.fieldLink "Grammarsmith" (42 : Nat) "Grammarsmith" "levels" "[I") ∈ gx_tb := gx_ok (List.mem_of_getElem? (i := 304) (by decide +kernel)) (by decide +kernel)
theorem gw_305 : (Jvm.Cond.fieldLink "Grammarsmith" (46 : Nat) "Grammarsmith" "sides" "[I") ∈ gx_tb := gx_ok (List.mem_of_getElem? (i := 305) (by decide +kernel)) (by decide +kernel)
theorem gw_306 : (Jvm.Cond.fieldLink "Grammarsmith" (49 : Nat) "Grammarsmith" "sentence" "[I") ∈ gx_tb := gx_ok (List.mem_of_getElem? (i := 306) (by decide +kernel)) (by decide +kernel)
theorem gw_307 : (Jvm.Cond.fieldLink "Grammarsmith" (252 : Nat) "Grammarsmith" "sentenceLength" "I") ∈ gx_tb := gx_ok (List.mem_of_getElem? (i := 307) (by decide +kernel)) (by decide +kernel)
theorem gw_308 : (Jvm.Cond.fieldLink "Grammarsmith" (52 : Nat) "Grammarsmith" "facts" "LGrammarsmith$Facts;") ∈ gx_tb := gx_ok (List.mem_of_getElem? (i := 308) (by decide +kernel)) (by decide +kernel)
theorem gw_309 : (Jvm.Cond.fieldLink "Grammarsmith" (56 : Nat) "Grammarsmith" "mergedStates" "LGrammarsmith$Automaton;") ∈ gx_tb := gx_ok (List.mem_of_getElem? (i := 309) (by decide +kernel)) (by decide +kernel)
theorem gw_310 : (Jvm.Cond.fieldLink "Grammarsmith" (60 : Nat) "Grammarsmith" "wholeStates" "LGrammarsmith$Automaton;") ∈ gx_tb := gx_ok (List.mem_of_getElem? (i := 310) (by decide +kernel)) (by decide +kernel)
theorem gw_311 : (Jvm.Cond.fieldLink "Grammarsmith" (68 : Nat) "Grammarsmith" "predictive" "LGrammarsmith$Table;") ∈ gx_tb := gx_ok (List.mem_of_getElem? (i := 311) (by decide +kernel)) (by decide +kernel)
theorem gw_312 : (Jvm.Cond.fieldLink "Grammarsmith" (77 : Nat) "Grammarsmith" "simple" "LGrammarsmith$Table;") ∈ gx_tb := gx_ok (List.mem_of_getElem? (i := 312) (by decide +kernel)) (by decide +kernel)
theorem gw_313 : (Jvm.Cond.fieldLink "Grammarsmith" (80 : Nat) "Grammarsmith" "merged" "LGrammarsmith$Table;") ∈ gx_tb := gx_ok (List.mem_of_getElem? (i := 313) (by decide +kernel)) (by decide +kernel)
theorem gw_314 : (Jvm.Cond.fieldLink "Grammarsmith" (83 : Nat) "Grammarsmith" "whole" "LGrammarsmith$Table;") ∈ gx_tb := gx_ok (List.mem_of_getElem? (i := 314) (by decide +kernel)) (by decide +kernel)
theorem gw_315 : (Jvm.Cond.fieldLink "Grammarsmith" (91 : Nat) "Grammarsmith" "counting" "LGrammarsmith$Chart;") ∈ gx_tb := gx_ok (List.mem_of_getElem? (i := 315) (by decide +kernel)) (by decide +kernel)
theorem gw_316 : (Jvm.Cond.fieldLink "Grammarsmith" (98 : Nat) "Grammarsmith" "repairing" "LGrammarsmith$Chart;") ∈ gx_tb := gx_ok (List.mem_of_getElem? (i := 316) (by decide +kernel)) (by decide +kernel)
theorem gw_32 : (Jvm.Cond.instanceMethod ({ cls := "Grammarsmith$RuleText", name := "<init>", desc := "()V" } : Jvm.MethodName)) ∈ gx_tb := gx_ok (List.mem_of_getElem? (i := 32) (by decide +kernel)) (by decide +kernel)
theorem gw_34 : (Jvm.Cond.methodLink "Grammarsmith$RuleText" (3 : Nat) ({ cls := "java/lang/Object", name := "<init>", desc := "()V" } : Jvm.MethodName)) ∈ gx_tb := gx_ok (List.mem_of_getElem? (i := 34) (by decide +kernel)) (by decide +kernel)
theorem gw_35 : (Jvm.Cond.fieldLink "Grammarsmith$RuleText" (9 : Nat) "Grammarsmith$RuleText" "letters" "[C") ∈ gx_tb := gx_ok (List.mem_of_getElem? (i := 35) (by decide +kernel)) (by decide +kernel)
theorem gw_352 : (Jvm.Cond.methodLink "GrammarsmithLaw" (149 : Nat) ({ cls := "Grammarsmith", name := "fault", desc := "()I" } : Jvm.MethodName)) ∈ gx_tb := gx_ok (List.mem_of_getElem? (i := 352) (by decide +kernel)) (by decide +kernel)
theorem gw_353 : (Jvm.Cond.instanceMethod ({ cls := "Grammarsmith", name := "fault", desc := "()I" } : Jvm.MethodName)) ∈ gx_tb := gx_ok (List.mem_of_getElem? (i := 353) (by decide +kernel)) (by decide +kernel)
theorem gw_354 : (Jvm.Cond.selects "Grammarsmith" ({ cls := "Grammarsmith", name := "fault", desc := "()I" } : Jvm.MethodName) ({ cls := "Grammarsmith", name := "fault", desc := "()I" } : Jvm.MethodName)) ∈ gx_tb := gx_ok (List.mem_of_getElem? (i := 354) (by decide +kernel)) (by decide +kernel)
theorem gw_356 : (Jvm.Cond.methodLink "Grammarsmith" (129 : Nat) ({ cls := "Grammarsmith$RuleText", name := "firstFault", desc := "()I" } : Jvm.MethodName)) ∈ gx_tb := gx_ok (List.mem_of_getElem? (i := 356) (by decide +kernel)) (by decide +kernel)
theorem gw_357 : (Jvm.Cond.instanceMethod ({ cls := "Grammarsmith$RuleText", name := "firstFault", desc := "()I" } : Jvm.MethodName)) ∈ gx_tb := gx_ok (List.mem_of_getElem? (i := 357) (by decide +kernel)) (by decide +kernel)
theorem gw_358 : (Jvm.Cond.selects "Grammarsmith$RuleText" ({ cls := "Grammarsmith$RuleText", name := "firstFault", desc := "()I" } : Jvm.MethodName) ({ cls := "Grammarsmith$RuleText", name := "firstFault", desc := "()I" } : Jvm.MethodName)) ∈ gx_tb := gx_ok (List.mem_of_getElem? (i := 358) (by decide +kernel)) (by decide +kernel)
theorem gw_36 : (Jvm.Cond.fieldLink "Grammarsmith$RuleText" (15 : Nat) "Grammarsmith$RuleText" "length" "I") ∈ gx_tb := gx_ok (List.mem_of_getElem? (i := 36) (by decide +kernel)) (by decide +kernel)
theorem gw_360 : (Jvm.Cond.methodLink "Grammarsmith$RuleText" (19 : Nat) ({ cls := "Grammarsmith$RuleText", name := "letter", desc := "(I)C" } : Jvm.MethodName)) ∈ gx_tb := gx_ok (List.mem_of_getElem? (i := 360) (by decide +kernel)) (by decide +kernel)
theorem gw_361 : (Jvm.Cond.instanceMethod ({ cls := "Grammarsmith$RuleText", name := "letter", desc := "(I)C" } : Jvm.MethodName)) ∈ gx_tb := gx_ok (List.mem_of_getElem? (i := 361) (by decide +kernel)) (by decide +kernel)
theorem gw_362 : (Jvm.Cond.selects "Grammarsmith$RuleText" ({ cls := "Grammarsmith$RuleText", name := "letter", desc := "(I)C" } : Jvm.MethodName) ({ cls := "Grammarsmith$RuleText", name := "letter", desc := "(I)C" } : Jvm.MethodName)) ∈ gx_tb := gx_ok (List.mem_of_getElem? (i := 362) (by decide +kernel)) (by decide +kernel)
theorem gw_364 : (Jvm.Cond.methodLink "Grammarsmith$RuleText" (31 : Nat) ({ cls := "Grammarsmith$RuleText", name := "stateBehind", desc := "(ICI)I" } : Jvm.MethodName)) ∈ gx_tb := gx_ok (List.mem_of_getElem? (i := 364) (by decide +kernel)) (by decide +kernel)
theorem gw_365 : (Jvm.Cond.static ({ cls := "Grammarsmith$RuleText", name := "stateBehind", desc := "(ICI)I" } : Jvm.MethodName)) ∈ gx_tb := gx_ok (List.mem_of_getElem? (i := 365) (by decide +kernel)) (by decide +kernel)
theorem gw_368 : (Jvm.Cond.static ({ cls := "Grammarsmith", name := "isNonterminalLetter", desc := "(C)Z" } : Jvm.MethodName)) ∈ gx_tb := gx_ok (List.mem_of_getElem? (i := 368) (by decide +kernel)) (by decide +kernel)
theorem gw_371 : (Jvm.Cond.static ({ cls := "Grammarsmith", name := "isTerminalLetter", desc := "(C)Z" } : Jvm.MethodName)) ∈ gx_tb := gx_ok (List.mem_of_getElem? (i := 371) (by decide +kernel)) (by decide +kernel)
theorem gw_373 : (Jvm.Cond.methodLink "Grammarsmith$RuleText" (38 : Nat) ({ cls := "Grammarsmith$RuleText", name := "stateInChoice", desc := "(ICI)I" } : Jvm.MethodName)) ∈ gx_tb := gx_ok (List.mem_of_getElem? (i := 373) (by decide +kernel)) (by decide +kernel)
theorem gw_374 : (Jvm.Cond.static ({ cls := "Grammarsmith$RuleText", name := "stateInChoice", desc := "(ICI)I" } : Jvm.MethodName)) ∈ gx_tb := gx_ok (List.mem_of_getElem? (i := 374) (by decide +kernel)) (by decide +kernel)
theorem gw_377 : (Jvm.Cond.static ({ cls := "Grammarsmith", name := "isRepeat", desc := "(C)Z" } : Jvm.MethodName)) ∈ gx_tb := gx_ok (List.mem_of_getElem? (i := 377) (by decide +kernel)) (by decide +kernel)
theorem gw_379 : (Jvm.Cond.methodLink "GrammarsmithLaw" (155 : Nat) ({ cls := "Grammarsmith", name := "productions", desc := "()I" } : Jvm.MethodName)) ∈ gx_tb := gx_ok (List.mem_of_getElem? (i := 379) (by decide +kernel)) (by decide +kernel)
theorem gw_380 : (Jvm.Cond.instanceMethod ({ cls := "Grammarsmith", name := "productions", desc := "()I" } : Jvm.MethodName)) ∈ gx_tb := gx_ok (List.mem_of_getElem? (i := 380) (by decide +kernel)) (by decide +kernel)
theorem gw_381 : (Jvm.Cond.selects "Grammarsmith" ({ cls := "Grammarsmith", name := "productions", desc := "()I" } : Jvm.MethodName) ({ cls := "Grammarsmith", name := "productions", desc := "()I" } : Jvm.MethodName)) ∈ gx_tb := gx_ok (List.mem_of_getElem? (i := 381) (by decide +kernel)) (by decide +kernel)
theorem gw_383 : (Jvm.Cond.methodLink "Grammarsmith" (143 : Nat) ({ cls := "Grammarsmith$Grammar", name := "count", desc := "()I" } : Jvm.MethodName)) ∈ gx_tb := gx_ok (List.mem_of_getElem? (i := 383) (by decide +kernel)) (by decide +kernel)
theorem gw_384 : (Jvm.Cond.instanceMethod ({ cls := "Grammarsmith$Grammar", name := "count", desc := "()I" } : Jvm.MethodName)) ∈ gx_tb := gx_ok (List.mem_of_getElem? (i := 384) (by decide +kernel)) (by decide +kernel)
theorem gw_385 : (Jvm.Cond.selects "Grammarsmith$Grammar" ({ cls := "Grammarsmith$Grammar", name := "count", desc := "()I" } : Jvm.MethodName) ({ cls := "Grammarsmith$Grammar", name := "count", desc := "()I" } : Jvm.MethodName)) ∈ gx_tb := gx_ok (List.mem_of_getElem? (i := 385) (by decide +kernel)) (by decide +kernel)
theorem gw_387 : (Jvm.Cond.methodLink "GrammarsmithLaw" (119 : Nat) ({ cls := "Grammarsmith", name := "repair", desc := "()I" } : Jvm.MethodName)) ∈ gx_tb := gx_ok (List.mem_of_getElem? (i := 387) (by decide +kernel)) (by decide +kernel)
theorem gw_388 : (Jvm.Cond.instanceMethod ({ cls := "Grammarsmith", name := "repair", desc := "()I" } : Jvm.MethodName)) ∈ gx_tb := gx_ok (List.mem_of_getElem? (i := 388) (by decide +kernel)) (by decide +kernel)
theorem gw_389 : (Jvm.Cond.selects "Grammarsmith" ({ cls := "Grammarsmith", name := "repair", desc := "()I" } : Jvm.MethodName) ({ cls := "Grammarsmith", name := "repair", desc := "()I" } : Jvm.MethodName)) ∈ gx_tb := gx_ok (List.mem_of_getElem? (i := 389) (by decide +kernel)) (by decide +kernel)
theorem gw_391 : (Jvm.Cond.methodLink "Grammarsmith" (203 : Nat) ({ cls := "Grammarsmith$Facts", name := "learn", desc := "()V" } : Jvm.MethodName)) ∈ gx_tb := gx_ok (List.mem_of_getElem? (i := 391) (by decide +kernel)) (by decide +kernel)
theorem gw_392 : (Jvm.Cond.instanceMethod ({ cls := "Grammarsmith$Facts", name := "learn", desc := "()V" } : Jvm.MethodName)) ∈ gx_tb := gx_ok (List.mem_of_getElem? (i := 392) (by decide +kernel)) (by decide +kernel)
theorem gw_393 : (Jvm.Cond.selects "Grammarsmith$Facts" ({ cls := "Grammarsmith$Facts", name := "learn", desc := "()V" } : Jvm.MethodName) ({ cls := "Grammarsmith$Facts", name := "learn", desc := "()V" } : Jvm.MethodName)) ∈ gx_tb := gx_ok (List.mem_of_getElem? (i := 393) (by decide +kernel)) (by decide +kernel)
theorem gw_395 : (Jvm.Cond.methodLink "Grammarsmith$Facts" (45 : Nat) ({ cls := "Grammarsmith$Facts", name := "findBeginnings", desc := "()V" } : Jvm.MethodName)) ∈ gx_tb := gx_ok (List.mem_of_getElem? (i := 395) (by decide +kernel)) (by decide +kernel)
theorem gw_397 : (Jvm.Cond.instanceMethod ({ cls := "Grammarsmith$Facts", name := "findBeginnings", desc := "()V" } : Jvm.MethodName)) ∈ gx_tb := gx_ok (List.mem_of_getElem? (i := 397) (by decide +kernel)) (by decide +kernel)
theorem gw_399 : (Jvm.Cond.methodLink "Grammarsmith$Facts" (105 : Nat) ({ cls := "java/util/Arrays", name := "fill", desc := "([II)V" } : Jvm.MethodName)) ∈ gx_tb := gx_ok (List.mem_of_getElem? (i := 399) (by decide +kernel)) (by decide +kernel)
theorem gw_4 : (Jvm.Cond.initialized "Grammarsmith$RuleReader") ∈ gx_tb := gx_ok (List.mem_of_getElem? (i := 4) (by decide +kernel)) (by decide +kernel)
theorem gw_400 : (Jvm.Cond.constant "Grammarsmith$Facts" (111 : Nat) (1000000 : Int32)) ∈ gx_tb := gx_ok (List.mem_of_getElem? (i := 400) (by decide +kernel)) (by decide +kernel)
theorem gw_401 : (Jvm.Cond.methodLink "Grammarsmith$Facts" (112 : Nat) ({ cls := "Grammarsmith$Grammar", name := "count", desc := "()I" } : Jvm.MethodName)) ∈ gx_tb := gx_ok (List.mem_of_getElem? (i := 401) (by decide +kernel)) (by decide +kernel)
theorem gw_402 : (Jvm.Cond.methodLink "Grammarsmith$Facts" (116 : Nat) ({ cls := "Grammarsmith$Grammar", name := "owner", desc := "(I)I" } : Jvm.MethodName)) ∈ gx_tb := gx_ok (List.mem_of_getElem? (i := 402) (by decide +kernel)) (by decide +kernel)
theorem gw_403 : (Jvm.Cond.instanceMethod ({ cls := "Grammarsmith$Grammar", name := "owner", desc := "(I)I" } : Jvm.MethodName)) ∈ gx_tb := gx_ok (List.mem_of_getElem? (i := 403) (by decide +kernel)) (by decide +kernel)
theorem gw_404 : (Jvm.Cond.selects "Grammarsmith$Grammar" ({ cls := "Grammarsmith$Grammar", name := "owner", desc := "(I)I" } : Jvm.MethodName) ({ cls := "Grammarsmith$Grammar", name := "owner", desc := "(I)I" } : Jvm.MethodName)) ∈ gx_tb := gx_ok (List.mem_of_getElem? (i := 404) (by decide +kernel)) (by decide +kernel)
theorem gw_406 : (Jvm.Cond.methodLink "Grammarsmith$Facts" (119 : Nat) ({ cls := "Grammarsmith$Facts", name := "beginnings", desc := "(II)I" } : Jvm.MethodName)) ∈ gx_tb := gx_ok (List.mem_of_getElem? (i := 406) (by decide +kernel)) (by decide +kernel)
theorem gw_408 : (Jvm.Cond.instanceMethod ({ cls := "Grammarsmith$Facts", name := "beginnings", desc := "(II)I" } : Jvm.MethodName)) ∈ gx_tb := gx_ok (List.mem_of_getElem? (i := 408) (by decide +kernel)) (by decide +kernel)
theorem gw_410 : (Jvm.Cond.methodLink "Grammarsmith$Facts" (96 : Nat) ({ cls := "Grammarsmith$Grammar", name := "length", desc := "(I)I" } : Jvm.MethodName)) ∈ gx_tb := gx_ok (List.mem_of_getElem? (i := 410) (by decide +kernel)) (by decide +kernel)
theorem gw_411 : (Jvm.Cond.instanceMethod ({ cls := "Grammarsmith$Grammar", name := "length", desc := "(I)I" } : Jvm.MethodName)) ∈ gx_tb := gx_ok (List.mem_of_getElem? (i := 411) (by decide +kernel)) (by decide +kernel)
theorem gw_412 : (Jvm.Cond.selects "Grammarsmith$Grammar" ({ cls := "Grammarsmith$Grammar", name := "length", desc := "(I)I" } : Jvm.MethodName) ({ cls := "Grammarsmith$Grammar", name := "length", desc := "(I)I" } : Jvm.MethodName)) ∈ gx_tb := gx_ok (List.mem_of_getElem? (i := 412) (by decide +kernel)) (by decide +kernel)
theorem gw_414 : (Jvm.Cond.methodLink "Grammarsmith$Facts" (101 : Nat) ({ cls := "Grammarsmith$Grammar", name := "symbol", desc := "(II)I" } : Jvm.MethodName)) ∈ gx_tb := gx_ok (List.mem_of_getElem? (i := 414) (by decide +kernel)) (by decide +kernel)
theorem gw_415 : (Jvm.Cond.instanceMethod ({ cls := "Grammarsmith$Grammar", name := "symbol", desc := "(II)I" } : Jvm.MethodName)) ∈ gx_tb := gx_ok (List.mem_of_getElem? (i := 415) (by decide +kernel)) (by decide +kernel)
theorem gw_416 : (Jvm.Cond.selects "Grammarsmith$Grammar" ({ cls := "Grammarsmith$Grammar", name := "symbol", desc := "(II)I" } : Jvm.MethodName) ({ cls := "Grammarsmith$Grammar", name := "symbol", desc := "(II)I" } : Jvm.MethodName)) ∈ gx_tb := gx_ok (List.mem_of_getElem? (i := 416) (by decide +kernel)) (by decide +kernel)
theorem gw_418 : (Jvm.Cond.methodLink "Grammarsmith$Facts" (72 : Nat) ({ cls := "Grammarsmith$Facts", name := "beginOf", desc := "(I)I" } : Jvm.MethodName)) ∈ gx_tb := gx_ok (List.mem_of_getElem? (i := 418) (by decide +kernel)) (by decide +kernel)
theorem gw_42 : (Jvm.Cond.arrayClass Jvm.ClassFile.FieldType.char) ∈ gx_tb := gx_ok (List.mem_of_getElem? (i := 42) (by decide +kernel)) (by decide +kernel)
theorem gw_420 : (Jvm.Cond.instanceMethod ({ cls := "Grammarsmith$Facts", name := "beginOf", desc := "(I)I" } : Jvm.MethodName)) ∈ gx_tb := gx_ok (List.mem_of_getElem? (i := 420) (by decide +kernel)) (by decide +kernel)
theorem gw_422 : (Jvm.Cond.methodLink "Grammarsmith$Facts" (122 : Nat) ({ cls := "Grammarsmith$Facts", name := "widen", desc := "([III)Z" } : Jvm.MethodName)) ∈ gx_tb := gx_ok (List.mem_of_getElem? (i := 422) (by decide +kernel)) (by decide +kernel)
theorem gw_423 : (Jvm.Cond.static ({ cls := "Grammarsmith$Facts", name := "widen", desc := "([III)Z" } : Jvm.MethodName)) ∈ gx_tb := gx_ok (List.mem_of_getElem? (i := 423) (by decide +kernel)) (by decide +kernel)
theorem gw_425 : (Jvm.Cond.methodLink "Grammarsmith$Facts" (48 : Nat) ({ cls := "Grammarsmith$Facts", name := "findBehinds", desc := "()V" } : Jvm.MethodName)) ∈ gx_tb := gx_ok (List.mem_of_getElem? (i := 425) (by decide +kernel)) (by decide +kernel)
theorem gw_427 : (Jvm.Cond.instanceMethod ({ cls := "Grammarsmith$Facts", name := "findBehinds", desc := "()V" } : Jvm.MethodName)) ∈ gx_tb := gx_ok (List.mem_of_getElem? (i := 427) (by decide +kernel)) (by decide +kernel)
theorem gw_429 : (Jvm.Cond.methodLink "Grammarsmith$Facts" (126 : Nat) ({ cls := "Grammarsmith$Grammar", name := "top", desc := "()I" } : Jvm.MethodName)) ∈ gx_tb := gx_ok (List.mem_of_getElem? (i := 429) (by decide +kernel)) (by decide +kernel)
theorem gw_43 : (Jvm.Cond.classLink "Grammarsmith" (16 : Nat) "Grammarsmith$Grammar") ∈ gx_tb := gx_ok (List.mem_of_getElem? (i := 43) (by decide +kernel)) (by decide +kernel)
theorem gw_430 : (Jvm.Cond.instanceMethod ({ cls := "Grammarsmith$Grammar", name := "top", desc := "()I" } : Jvm.MethodName)) ∈ gx_tb := gx_ok (List.mem_of_getElem? (i := 430) (by decide +kernel)) (by decide +kernel)
theorem gw_431 : (Jvm.Cond.selects "Grammarsmith$Grammar" ({ cls := "Grammarsmith$Grammar", name := "top", desc := "()I" } : Jvm.MethodName) ({ cls := "Grammarsmith$Grammar", name := "top", desc := "()I" } : Jvm.MethodName)) ∈ gx_tb := gx_ok (List.mem_of_getElem? (i := 431) (by decide +kernel)) (by decide +kernel)
theorem gw_433 : (Jvm.Cond.methodLink "Grammarsmith$Facts" (129 : Nat) ({ cls := "Grammarsmith$Facts", name := "widenBehinds", desc := "(I)Z" } : Jvm.MethodName)) ∈ gx_tb := gx_ok (List.mem_of_getElem? (i := 433) (by decide +kernel)) (by decide +kernel)
theorem gw_435 : (Jvm.Cond.instanceMethod ({ cls := "Grammarsmith$Facts", name := "widenBehinds", desc := "(I)Z" } : Jvm.MethodName)) ∈ gx_tb := gx_ok (List.mem_of_getElem? (i := 435) (by decide +kernel)) (by decide +kernel)
theorem gw_438 : (Jvm.Cond.static ({ cls := "Grammarsmith", name := "isNonterminal", desc := "(I)Z" } : Jvm.MethodName)) ∈ gx_tb := gx_ok (List.mem_of_getElem? (i := 438) (by decide +kernel)) (by decide +kernel)
theorem gw_44 : (Jvm.Cond.instantiable "Grammarsmith$Grammar" (10 : Nat)) ∈ gx_tb := gx_ok (List.mem_of_getElem? (i := 44) (by decide +kernel)) (by decide +kernel)
theorem gw_440 : (Jvm.Cond.methodLink "Grammarsmith$Facts" (136 : Nat) ({ cls := "Grammarsmith$Facts", name := "behind", desc := "(I)I" } : Jvm.MethodName)) ∈ gx_tb := gx_ok (List.mem_of_getElem? (i := 440) (by decide +kernel)) (by decide +kernel)
theorem gw_441 : (Jvm.Cond.instanceMethod ({ cls := "Grammarsmith$Facts", name := "behind", desc := "(I)I" } : Jvm.MethodName)) ∈ gx_tb := gx_ok (List.mem_of_getElem? (i := 441) (by decide +kernel)) (by decide +kernel)
theorem gw_442 : (Jvm.Cond.selects "Grammarsmith$Facts" ({ cls := "Grammarsmith$Facts", name := "behind", desc := "(I)I" } : Jvm.MethodName) ({ cls := "Grammarsmith$Facts", name := "behind", desc := "(I)I" } : Jvm.MethodName)) ∈ gx_tb := gx_ok (List.mem_of_getElem? (i := 442) (by decide +kernel)) (by decide +kernel)
theorem gw_445 : (Jvm.Cond.static ({ cls := "Grammarsmith", name := "behindOf", desc := "(II)I" } : Jvm.MethodName)) ∈ gx_tb := gx_ok (List.mem_of_getElem? (i := 445) (by decide +kernel)) (by decide +kernel)
theorem gw_447 : (Jvm.Cond.methodLink "Grammarsmith$Facts" (51 : Nat) ({ cls := "Grammarsmith$Facts", name := "findReached", desc := "()V" } : Jvm.MethodName)) ∈ gx_tb := gx_ok (List.mem_of_getElem? (i := 447) (by decide +kernel)) (by decide +kernel)
theorem gw_449 : (Jvm.Cond.instanceMethod ({ cls := "Grammarsmith$Facts", name := "findReached", desc := "()V" } : Jvm.MethodName)) ∈ gx_tb := gx_ok (List.mem_of_getElem? (i := 449) (by decide +kernel)) (by decide +kernel)
theorem gw_45 : (Jvm.Cond.methodLink "Grammarsmith" (18 : Nat) ({ cls := "Grammarsmith$Grammar", name := "<init>", desc := "()V" } : Jvm.MethodName)) ∈ gx_tb := gx_ok (List.mem_of_getElem? (i := 45) (by decide +kernel)) (by decide +kernel)
theorem gw_451 : (Jvm.Cond.methodLink "Grammarsmith$Facts" (142 : Nat) ({ cls := "Grammarsmith$Facts", name := "relate", desc := "(II)V" } : Jvm.MethodName)) ∈ gx_tb := gx_ok (List.mem_of_getElem? (i := 451) (by decide +kernel)) (by decide +kernel)
theorem gw_453 : (Jvm.Cond.instanceMethod ({ cls := "Grammarsmith$Facts", name := "relate", desc := "(II)V" } : Jvm.MethodName)) ∈ gx_tb := gx_ok (List.mem_of_getElem? (i := 453) (by decide +kernel)) (by decide +kernel)
theorem gw_455 : (Jvm.Cond.methodLink "Grammarsmith$Facts" (146 : Nat) ({ cls := "Grammarsmith$Facts", name := "closeRelation", desc := "()V" } : Jvm.MethodName)) ∈ gx_tb := gx_ok (List.mem_of_getElem? (i := 455) (by decide +kernel)) (by decide +kernel)
theorem gw_457 : (Jvm.Cond.instanceMethod ({ cls := "Grammarsmith$Facts", name := "closeRelation", desc := "()V" } : Jvm.MethodName)) ∈ gx_tb := gx_ok (List.mem_of_getElem? (i := 457) (by decide +kernel)) (by decide +kernel)
theorem gw_46 : (Jvm.Cond.instanceMethod ({ cls := "Grammarsmith$Grammar", name := "<init>", desc := "()V" } : Jvm.MethodName)) ∈ gx_tb := gx_ok (List.mem_of_getElem? (i := 46) (by decide +kernel)) (by decide +kernel)
theorem gw_460 : (Jvm.Cond.static ({ cls := "Grammarsmith", name := "has", desc := "(II)Z" } : Jvm.MethodName)) ∈ gx_tb := gx_ok (List.mem_of_getElem? (i := 460) (by decide +kernel)) (by decide +kernel)
theorem gw_462 : (Jvm.Cond.methodLink "Grammarsmith$Facts" (54 : Nat) ({ cls := "Grammarsmith$Facts", name := "findLeftRecursive", desc := "()V" } : Jvm.MethodName)) ∈ gx_tb := gx_ok (List.mem_of_getElem? (i := 462) (by decide +kernel)) (by decide +kernel)
theorem gw_464 : (Jvm.Cond.instanceMethod ({ cls := "Grammarsmith$Facts", name := "findLeftRecursive", desc := "()V" } : Jvm.MethodName)) ∈ gx_tb := gx_ok (List.mem_of_getElem? (i := 464) (by decide +kernel)) (by decide +kernel)
theorem gw_466 : (Jvm.Cond.methodLink "Grammarsmith$Facts" (149 : Nat) ({ cls := "Grammarsmith$Facts", name := "relatedToThemselves", desc := "()I" } : Jvm.MethodName)) ∈ gx_tb := gx_ok (List.mem_of_getElem? (i := 466) (by decide +kernel)) (by decide +kernel)
theorem gw_468 : (Jvm.Cond.instanceMethod ({ cls := "Grammarsmith$Facts", name := "relatedToThemselves", desc := "()I" } : Jvm.MethodName)) ∈ gx_tb := gx_ok (List.mem_of_getElem? (i := 468) (by decide +kernel)) (by decide +kernel)
theorem gw_470 : (Jvm.Cond.methodLink "Grammarsmith$Facts" (57 : Nat) ({ cls := "Grammarsmith$Facts", name := "findCircular", desc := "()V" } : Jvm.MethodName)) ∈ gx_tb := gx_ok (List.mem_of_getElem? (i := 470) (by decide +kernel)) (by decide +kernel)
theorem gw_472 : (Jvm.Cond.instanceMethod ({ cls := "Grammarsmith$Facts", name := "findCircular", desc := "()V" } : Jvm.MethodName)) ∈ gx_tb := gx_ok (List.mem_of_getElem? (i := 472) (by decide +kernel)) (by decide +kernel)
theorem gw_474 : (Jvm.Cond.methodLink "Grammarsmith$Facts" (60 : Nat) ({ cls := "Grammarsmith$Facts", name := "findLeasts", desc := "()V" } : Jvm.MethodName)) ∈ gx_tb := gx_ok (List.mem_of_getElem? (i := 474) (by decide +kernel)) (by decide +kernel)
theorem gw_476 : (Jvm.Cond.instanceMethod ({ cls := "Grammarsmith$Facts", name := "findLeasts", desc := "()V" } : Jvm.MethodName)) ∈ gx_tb := gx_ok (List.mem_of_getElem? (i := 476) (by decide +kernel)) (by decide +kernel)
theorem gw_478 : (Jvm.Cond.methodLink "Grammarsmith$Facts" (152 : Nat) ({ cls := "Grammarsmith$Facts", name := "leastOfRight", desc := "(I)I" } : Jvm.MethodName)) ∈ gx_tb := gx_ok (List.mem_of_getElem? (i := 478) (by decide +kernel)) (by decide +kernel)
theorem gw_48 : (Jvm.Cond.methodLink "Grammarsmith$Grammar" (3 : Nat) ({ cls := "java/lang/Object", name := "<init>", desc := "()V" } : Jvm.MethodName)) ∈ gx_tb := gx_ok (List.mem_of_getElem? (i := 48) (by decide +kernel)) (by decide +kernel)
theorem gw_480 : (Jvm.Cond.instanceMethod ({ cls := "Grammarsmith$Facts", name := "leastOfRight", desc := "(I)I" } : Jvm.MethodName)) ∈ gx_tb := gx_ok (List.mem_of_getElem? (i := 480) (by decide +kernel)) (by decide +kernel)
theorem gw_482 : (Jvm.Cond.methodLink "Grammarsmith$Facts" (93 : Nat) ({ cls := "Grammarsmith$Facts", name := "leastOf", desc := "(I)I" } : Jvm.MethodName)) ∈ gx_tb := gx_ok (List.mem_of_getElem? (i := 482) (by decide +kernel)) (by decide +kernel)
theorem gw_484 : (Jvm.Cond.instanceMethod ({ cls := "Grammarsmith$Facts", name := "leastOf", desc := "(I)I" } : Jvm.MethodName)) ∈ gx_tb := gx_ok (List.mem_of_getElem? (i := 484) (by decide +kernel)) (by decide +kernel)
theorem gw_486 : (Jvm.Cond.methodLink "Grammarsmith$Facts" (155 : Nat) ({ cls := "java/lang/Math", name := "min", desc := "(II)I" } : Jvm.MethodName)) ∈ gx_tb := gx_ok (List.mem_of_getElem? (i := 486) (by decide +kernel)) (by decide +kernel)
theorem gw_489 : (Jvm.Cond.methodLink "Grammarsmith$Facts" (63 : Nat) ({ cls := "Grammarsmith$Facts", name := "findSpellings", desc := "()V" } : Jvm.MethodName)) ∈ gx_tb := gx_ok (List.mem_of_getElem? (i := 489) (by decide +kernel)) (by decide +kernel)
theorem gw_49 : (Jvm.Cond.classLink "Grammarsmith$Grammar" (21 : Nat) "Grammarsmith$RuleText") ∈ gx_tb := gx_ok (List.mem_of_getElem? (i := 49) (by decide +kernel)) (by decide +kernel)
theorem gw_491 : (Jvm.Cond.instanceMethod ({ cls := "Grammarsmith$Facts", name := "findSpellings", desc := "()V" } : Jvm.MethodName)) ∈ gx_tb := gx_ok (List.mem_of_getElem? (i := 491) (by decide +kernel)) (by decide +kernel)
theorem gw_493 : (Jvm.Cond.methodLink "Grammarsmith$Facts" (163 : Nat) ({ cls := "Grammarsmith$Facts", name := "improveSpelling", desc := "(I)Z" } : Jvm.MethodName)) ∈ gx_tb := gx_ok (List.mem_of_getElem? (i := 493) (by decide +kernel)) (by decide +kernel)
theorem gw_495 : (Jvm.Cond.instanceMethod ({ cls := "Grammarsmith$Facts", name := "improveSpelling", desc := "(I)Z" } : Jvm.MethodName)) ∈ gx_tb := gx_ok (List.mem_of_getElem? (i := 495) (by decide +kernel)) (by decide +kernel)
theorem gw_497 : (Jvm.Cond.methodLink "Grammarsmith$Facts" (166 : Nat) ({ cls := "Grammarsmith$Facts", name := "spell", desc := "(I)J" } : Jvm.MethodName)) ∈ gx_tb := gx_ok (List.mem_of_getElem? (i := 497) (by decide +kernel)) (by decide +kernel)
theorem gw_499 : (Jvm.Cond.instanceMethod ({ cls := "Grammarsmith$Facts", name := "spell", desc := "(I)J" } : Jvm.MethodName)) ∈ gx_tb := gx_ok (List.mem_of_getElem? (i := 499) (by decide +kernel)) (by decide +kernel)
theorem gw_5 : (Jvm.Cond.initialized "java/util/Arrays") ∈ gx_tb := gx_ok (List.mem_of_getElem? (i := 5) (by decide +kernel)) (by decide +kernel)
theorem gw_501 : (Jvm.Cond.constantLong "Grammarsmith$Facts" (170 : Nat) (-1 : Int64)) ∈ gx_tb := gx_ok (List.mem_of_getElem? (i := 501) (by decide +kernel)) (by decide +kernel)
theorem gw_502 : (Jvm.Cond.methodLink "Grammarsmith$Facts" (66 : Nat) ({ cls := "Grammarsmith$Facts", name := "findPredictions", desc := "()V" } : Jvm.MethodName)) ∈ gx_tb := gx_ok (List.mem_of_getElem? (i := 502) (by decide +kernel)) (by decide +kernel)
theorem gw_504 : (Jvm.Cond.instanceMethod ({ cls := "Grammarsmith$Facts", name := "findPredictions", desc := "()V" } : Jvm.MethodName)) ∈ gx_tb := gx_ok (List.mem_of_getElem? (i := 504) (by decide +kernel)) (by decide +kernel)
theorem gw_506 : (Jvm.Cond.methodLink "Grammarsmith$Facts" (69 : Nat) ({ cls := "Grammarsmith$Facts", name := "findItems", desc := "()V" } : Jvm.MethodName)) ∈ gx_tb := gx_ok (List.mem_of_getElem? (i := 506) (by decide +kernel)) (by decide +kernel)
theorem gw_508 : (Jvm.Cond.instanceMethod ({ cls := "Grammarsmith$Facts", name := "findItems", desc := "()V" } : Jvm.MethodName)) ∈ gx_tb := gx_ok (List.mem_of_getElem? (i := 508) (by decide +kernel)) (by decide +kernel)
theorem gw_510 : (Jvm.Cond.methodLink "Grammarsmith" (173 : Nat) ({ cls := "Grammarsmith$Grammar", name := "top", desc := "()I" } : Jvm.MethodName)) ∈ gx_tb := gx_ok (List.mem_of_getElem? (i := 510) (by decide +kernel)) (by decide +kernel)
theorem gw_511 : (Jvm.Cond.methodLink "Grammarsmith" (215 : Nat) ({ cls := "Grammarsmith$Facts", name := "isProductive", desc := "(I)Z" } : Jvm.MethodName)) ∈ gx_tb := gx_ok (List.mem_of_getElem? (i := 511) (by decide +kernel)) (by decide +kernel)
theorem gw_512 : (Jvm.Cond.instanceMethod ({ cls := "Grammarsmith$Facts", name := "isProductive", desc := "(I)Z" } : Jvm.MethodName)) ∈ gx_tb := gx_ok (List.mem_of_getElem? (i := 512) (by decide +kernel)) (by decide +kernel)
theorem gw_513 : (Jvm.Cond.selects "Grammarsmith$Facts" ({ cls := "Grammarsmith$Facts", name := "isProductive", desc := "(I)Z" } : Jvm.MethodName) ({ cls := "Grammarsmith$Facts", name := "isProductive", desc := "(I)Z" } : Jvm.MethodName)) ∈ gx_tb := gx_ok (List.mem_of_getElem? (i := 513) (by decide +kernel)) (by decide +kernel)
theorem gw_515 : (Jvm.Cond.methodLink "Grammarsmith$Facts" (76 : Nat) ({ cls := "Grammarsmith$Facts", name := "least", desc := "(I)I" } : Jvm.MethodName)) ∈ gx_tb := gx_ok (List.mem_of_getElem? (i := 515) (by decide +kernel)) (by decide +kernel)
theorem gw_516 : (Jvm.Cond.instanceMethod ({ cls := "Grammarsmith$Facts", name := "least", desc := "(I)I" } : Jvm.MethodName)) ∈ gx_tb := gx_ok (List.mem_of_getElem? (i := 516) (by decide +kernel)) (by decide +kernel)
theorem gw_517 : (Jvm.Cond.selects "Grammarsmith$Facts" ({ cls := "Grammarsmith$Facts", name := "least", desc := "(I)I" } : Jvm.MethodName) ({ cls := "Grammarsmith$Facts", name := "least", desc := "(I)I" } : Jvm.MethodName)) ∈ gx_tb := gx_ok (List.mem_of_getElem? (i := 517) (by decide +kernel)) (by decide +kernel)
theorem gw_519 : (Jvm.Cond.methodLink "Grammarsmith" (267 : Nat) ({ cls := "Grammarsmith$Chart", name := "measure", desc := "(I)I" } : Jvm.MethodName)) ∈ gx_tb := gx_ok (List.mem_of_getElem? (i := 519) (by decide +kernel)) (by decide +kernel)
theorem gw_52 : (Jvm.Cond.classLink "Grammarsmith$Grammar" (35 : Nat) "Grammarsmith$RuleReader") ∈ gx_tb := gx_ok (List.mem_of_getElem? (i := 52) (by decide +kernel)) (by decide +kernel)
theorem gw_520 : (Jvm.Cond.instanceMethod ({ cls := "Grammarsmith$Chart", name := "measure", desc := "(I)I" } : Jvm.MethodName)) ∈ gx_tb := gx_ok (List.mem_of_getElem? (i := 520) (by decide +kernel)) (by decide +kernel)
theorem gw_521 : (Jvm.Cond.sameMethod "Grammarsmith$Chart" "Grammarsmith$Chart" "measure" "(I)I") ∈ gx_tb := gx_ok (List.mem_of_getElem? (i := 521) (by decide +kernel)) (by decide +kernel)
theorem gw_522 : (Jvm.Cond.selects "Grammarsmith$CountingChart" ({ cls := "Grammarsmith$Chart", name := "measure", desc := "(I)I" } : Jvm.MethodName) ({ cls := "Grammarsmith$Chart", name := "measure", desc := "(I)I" } : Jvm.MethodName)) ∈ gx_tb := gx_ok (List.mem_of_getElem? (i := 522) (by decide +kernel)) (by decide +kernel)
theorem gw_523 : (Jvm.Cond.selects "Grammarsmith$RepairingChart" ({ cls := "Grammarsmith$Chart", name := "measure", desc := "(I)I" } : Jvm.MethodName) ({ cls := "Grammarsmith$Chart", name := "measure", desc := "(I)I" } : Jvm.MethodName)) ∈ gx_tb := gx_ok (List.mem_of_getElem? (i := 523) (by decide +kernel)) (by decide +kernel)
theorem gw_525 : (Jvm.Cond.methodLink "Grammarsmith$Chart" (28 : Nat) ({ cls := "java/lang/Math", name := "min", desc := "(II)I" } : Jvm.MethodName)) ∈ gx_tb := gx_ok (List.mem_of_getElem? (i := 525) (by decide +kernel)) (by decide +kernel)
theorem gw_526 : (Jvm.Cond.methodLink "Grammarsmith$Chart" (34 : Nat) ({ cls := "Grammarsmith$Chart", name := "fill", desc := "(II)V" } : Jvm.MethodName)) ∈ gx_tb := gx_ok (List.mem_of_getElem? (i := 526) (by decide +kernel)) (by decide +kernel)
theorem gw_528 : (Jvm.Cond.instanceMethod ({ cls := "Grammarsmith$Chart", name := "fill", desc := "(II)V" } : Jvm.MethodName)) ∈ gx_tb := gx_ok (List.mem_of_getElem? (i := 528) (by decide +kernel)) (by decide +kernel)
theorem gw_53 : (Jvm.Cond.instantiable "Grammarsmith$RuleReader" (2 : Nat)) ∈ gx_tb := gx_ok (List.mem_of_getElem? (i := 53) (by decide +kernel)) (by decide +kernel)
theorem gw_530 : (Jvm.Cond.methodLink "Grammarsmith$Chart" (54 : Nat) ({ cls := "Grammarsmith$Chart", name := "none", desc := "()I" } : Jvm.MethodName)) ∈ gx_tb := gx_ok (List.mem_of_getElem? (i := 530) (by decide +kernel)) (by decide +kernel)
theorem gw_532 : (Jvm.Cond.sameMethod "Grammarsmith$Chart" "Grammarsmith$Chart" "none" "()I") ∈ gx_tb := gx_ok (List.mem_of_getElem? (i := 532) (by decide +kernel)) (by decide +kernel)
theorem gw_533 : (Jvm.Cond.selects "Grammarsmith$CountingChart" ({ cls := "Grammarsmith$Chart", name := "none", desc := "()I" } : Jvm.MethodName) ({ cls := "Grammarsmith$CountingChart", name := "none", desc := "()I" } : Jvm.MethodName)) ∈ gx_tb := gx_ok (List.mem_of_getElem? (i := 533) (by decide +kernel)) (by decide +kernel)
theorem gw_534 : (Jvm.Cond.instanceMethod ({ cls := "Grammarsmith$CountingChart", name := "none", desc := "()I" } : Jvm.MethodName)) ∈ gx_tb := gx_ok (List.mem_of_getElem? (i := 534) (by decide +kernel)) (by decide +kernel)
theorem gw_536 : (Jvm.Cond.selects "Grammarsmith$RepairingChart" ({ cls := "Grammarsmith$Chart", name := "none", desc := "()I" } : Jvm.MethodName) ({ cls := "Grammarsmith$RepairingChart", name := "none", desc := "()I" } : Jvm.MethodName)) ∈ gx_tb := gx_ok (List.mem_of_getElem? (i := 536) (by decide +kernel)) (by decide +kernel)
theorem gw_537 : (Jvm.Cond.instanceMethod ({ cls := "Grammarsmith$RepairingChart", name := "none", desc := "()I" } : Jvm.MethodName)) ∈ gx_tb := gx_ok (List.mem_of_getElem? (i := 537) (by decide +kernel)) (by decide +kernel)
theorem gw_539 : (Jvm.Cond.methodLink "Grammarsmith$Chart" (57 : Nat) ({ cls := "Grammarsmith$Chart", name := "setWhole", desc := "(IIII)V" } : Jvm.MethodName)) ∈ gx_tb := gx_ok (List.mem_of_getElem? (i := 539) (by decide +kernel)) (by decide +kernel)
theorem gw_541 : (Jvm.Cond.instanceMethod ({ cls := "Grammarsmith$Chart", name := "setWhole", desc := "(IIII)V" } : Jvm.MethodName)) ∈ gx_tb := gx_ok (List.mem_of_getElem? (i := 541) (by decide +kernel)) (by decide +kernel)
theorem gw_543 : (Jvm.Cond.methodLink "Grammarsmith$Chart" (112 : Nat) ({ cls := "Grammarsmith$Chart", name := "cell", desc := "(III)I" } : Jvm.MethodName)) ∈ gx_tb := gx_ok (List.mem_of_getElem? (i := 543) (by decide +kernel)) (by decide +kernel)
theorem gw_544 : (Jvm.Cond.static ({ cls := "Grammarsmith$Chart", name := "cell", desc := "(III)I" } : Jvm.MethodName)) ∈ gx_tb := gx_ok (List.mem_of_getElem? (i := 544) (by decide +kernel)) (by decide +kernel)
theorem gw_546 : (Jvm.Cond.constant "Grammarsmith$Chart" (61 : Nat) (1000000 : Int32)) ∈ gx_tb := gx_ok (List.mem_of_getElem? (i := 546) (by decide +kernel)) (by decide +kernel)
theorem gw_547 : (Jvm.Cond.methodLink "Grammarsmith$Chart" (62 : Nat) ({ cls := "Grammarsmith$Chart", name := "refine", desc := "(II)Z" } : Jvm.MethodName)) ∈ gx_tb := gx_ok (List.mem_of_getElem? (i := 547) (by decide +kernel)) (by decide +kernel)
theorem gw_549 : (Jvm.Cond.instanceMethod ({ cls := "Grammarsmith$Chart", name := "refine", desc := "(II)Z" } : Jvm.MethodName)) ∈ gx_tb := gx_ok (List.mem_of_getElem? (i := 549) (by decide +kernel)) (by decide +kernel)
theorem gw_55 : (Jvm.Cond.instanceMethod ({ cls := "Grammarsmith$RuleReader", name := "<init>", desc := "()V" } : Jvm.MethodName)) ∈ gx_tb := gx_ok (List.mem_of_getElem? (i := 55) (by decide +kernel)) (by decide +kernel)
theorem gw_551 : (Jvm.Cond.methodLink "Grammarsmith$Chart" (66 : Nat) ({ cls := "java/util/Arrays", name := "fill", desc := "([II)V" } : Jvm.MethodName)) ∈ gx_tb := gx_ok (List.mem_of_getElem? (i := 551) (by decide +kernel)) (by decide +kernel)
theorem gw_552 : (Jvm.Cond.methodLink "Grammarsmith$Chart" (38 : Nat) ({ cls := "Grammarsmith$Facts", name := "grammar", desc := "()LGrammarsmith$Grammar;" } : Jvm.MethodName)) ∈ gx_tb := gx_ok (List.mem_of_getElem? (i := 552) (by decide +kernel)) (by decide +kernel)
theorem gw_553 : (Jvm.Cond.instanceMethod ({ cls := "Grammarsmith$Facts", name := "grammar", desc := "()LGrammarsmith$Grammar;" } : Jvm.MethodName)) ∈ gx_tb := gx_ok (List.mem_of_getElem? (i := 553) (by decide +kernel)) (by decide +kernel)
theorem gw_554 : (Jvm.Cond.selects "Grammarsmith$Facts" ({ cls := "Grammarsmith$Facts", name := "grammar", desc := "()LGrammarsmith$Grammar;" } : Jvm.MethodName) ({ cls := "Grammarsmith$Facts", name := "grammar", desc := "()LGrammarsmith$Grammar;" } : Jvm.MethodName)) ∈ gx_tb := gx_ok (List.mem_of_getElem? (i := 554) (by decide +kernel)) (by decide +kernel)
theorem gw_556 : (Jvm.Cond.methodLink "Grammarsmith$Chart" (71 : Nat) ({ cls := "Grammarsmith$Grammar", name := "count", desc := "()I" } : Jvm.MethodName)) ∈ gx_tb := gx_ok (List.mem_of_getElem? (i := 556) (by decide +kernel)) (by decide +kernel)
theorem gw_557 : (Jvm.Cond.methodLink "Grammarsmith$Chart" (74 : Nat) ({ cls := "Grammarsmith$Grammar", name := "owner", desc := "(I)I" } : Jvm.MethodName)) ∈ gx_tb := gx_ok (List.mem_of_getElem? (i := 557) (by decide +kernel)) (by decide +kernel)
theorem gw_558 : (Jvm.Cond.methodLink "Grammarsmith$Chart" (78 : Nat) ({ cls := "Grammarsmith$Chart", name := "ofProduction", desc := "(III)I" } : Jvm.MethodName)) ∈ gx_tb := gx_ok (List.mem_of_getElem? (i := 558) (by decide +kernel)) (by decide +kernel)
theorem gw_560 : (Jvm.Cond.instanceMethod ({ cls := "Grammarsmith$Chart", name := "ofProduction", desc := "(III)I" } : Jvm.MethodName)) ∈ gx_tb := gx_ok (List.mem_of_getElem? (i := 560) (by decide +kernel)) (by decide +kernel)
theorem gw_562 : (Jvm.Cond.methodLink "Grammarsmith$Chart" (87 : Nat) ({ cls := "Grammarsmith$Chart", name := "blank", desc := "(II)I" } : Jvm.MethodName)) ∈ gx_tb := gx_ok (List.mem_of_getElem? (i := 562) (by decide +kernel)) (by decide +kernel)
theorem gw_564 : (Jvm.Cond.sameMethod "Grammarsmith$Chart" "Grammarsmith$Chart" "blank" "(II)I") ∈ gx_tb := gx_ok (List.mem_of_getElem? (i := 564) (by decide +kernel)) (by decide +kernel)
theorem gw_565 : (Jvm.Cond.selects "Grammarsmith$CountingChart" ({ cls := "Grammarsmith$Chart", name := "blank", desc := "(II)I" } : Jvm.MethodName) ({ cls := "Grammarsmith$CountingChart", name := "blank", desc := "(II)I" } : Jvm.MethodName)) ∈ gx_tb := gx_ok (List.mem_of_getElem? (i := 565) (by decide +kernel)) (by decide +kernel)
theorem gw_566 : (Jvm.Cond.instanceMethod ({ cls := "Grammarsmith$CountingChart", name := "blank", desc := "(II)I" } : Jvm.MethodName)) ∈ gx_tb := gx_ok (List.mem_of_getElem? (i := 566) (by decide +kernel)) (by decide +kernel)
theorem gw_568 : (Jvm.Cond.selects "Grammarsmith$RepairingChart" ({ cls := "Grammarsmith$Chart", name := "blank", desc := "(II)I" } : Jvm.MethodName) ({ cls := "Grammarsmith$RepairingChart", name := "blank", desc := "(II)I" } : Jvm.MethodName)) ∈ gx_tb := gx_ok (List.mem_of_getElem? (i := 568) (by decide +kernel)) (by decide +kernel)
theorem gw_569 : (Jvm.Cond.instanceMethod ({ cls := "Grammarsmith$RepairingChart", name := "blank", desc := "(II)I" } : Jvm.MethodName)) ∈ gx_tb := gx_ok (List.mem_of_getElem? (i := 569) (by decide +kernel)) (by decide +kernel)
theorem gw_57 : (Jvm.Cond.methodLink "Grammarsmith$RuleReader" (3 : Nat) ({ cls := "java/lang/Object", name := "<init>", desc := "()V" } : Jvm.MethodName)) ∈ gx_tb := gx_ok (List.mem_of_getElem? (i := 57) (by decide +kernel)) (by decide +kernel)
theorem gw_571 : (Jvm.Cond.methodLink "Grammarsmith$Chart" (90 : Nat) ({ cls := "Grammarsmith$Chart", name := "setPart", desc := "(IIII)V" } : Jvm.MethodName)) ∈ gx_tb := gx_ok (List.mem_of_getElem? (i := 571) (by decide +kernel)) (by decide +kernel)
theorem gw_573 : (Jvm.Cond.instanceMethod ({ cls := "Grammarsmith$Chart", name := "setPart", desc := "(IIII)V" } : Jvm.MethodName)) ∈ gx_tb := gx_ok (List.mem_of_getElem? (i := 573) (by decide +kernel)) (by decide +kernel)
theorem gw_575 : (Jvm.Cond.methodLink "Grammarsmith$Chart" (93 : Nat) ({ cls := "Grammarsmith$Grammar", name := "length", desc := "(I)I" } : Jvm.MethodName)) ∈ gx_tb := gx_ok (List.mem_of_getElem? (i := 575) (by decide +kernel)) (by decide +kernel)
theorem gw_576 : (Jvm.Cond.methodLink "Grammarsmith$Chart" (96 : Nat) ({ cls := "Grammarsmith$Grammar", name := "symbol", desc := "(II)I" } : Jvm.MethodName)) ∈ gx_tb := gx_ok (List.mem_of_getElem? (i := 576) (by decide +kernel)) (by decide +kernel)
theorem gw_577 : (Jvm.Cond.methodLink "Grammarsmith$Chart" (99 : Nat) ({ cls := "Grammarsmith$Chart", name := "part", desc := "(III)I" } : Jvm.MethodName)) ∈ gx_tb := gx_ok (List.mem_of_getElem? (i := 577) (by decide +kernel)) (by decide +kernel)
theorem gw_579 : (Jvm.Cond.instanceMethod ({ cls := "Grammarsmith$Chart", name := "part", desc := "(III)I" } : Jvm.MethodName)) ∈ gx_tb := gx_ok (List.mem_of_getElem? (i := 579) (by decide +kernel)) (by decide +kernel)
theorem gw_58 : (Jvm.Cond.fieldLink "Grammarsmith$RuleReader" (9 : Nat) "Grammarsmith$RuleReader" "open" "[I") ∈ gx_tb := gx_ok (List.mem_of_getElem? (i := 58) (by decide +kernel)) (by decide +kernel)
theorem gw_582 : (Jvm.Cond.static ({ cls := "Grammarsmith", name := "isTerminal", desc := "(I)Z" } : Jvm.MethodName)) ∈ gx_tb := gx_ok (List.mem_of_getElem? (i := 582) (by decide +kernel)) (by decide +kernel)
theorem gw_584 : (Jvm.Cond.methodLink "Grammarsmith$Chart" (106 : Nat) ({ cls := "Grammarsmith$Chart", name := "ofTerminal", desc := "(III)I" } : Jvm.MethodName)) ∈ gx_tb := gx_ok (List.mem_of_getElem? (i := 584) (by decide +kernel)) (by decide +kernel)
theorem gw_586 : (Jvm.Cond.sameMethod "Grammarsmith$Chart" "Grammarsmith$Chart" "ofTerminal" "(III)I") ∈ gx_tb := gx_ok (List.mem_of_getElem? (i := 586) (by decide +kernel)) (by decide +kernel)
theorem gw_587 : (Jvm.Cond.selects "Grammarsmith$CountingChart" ({ cls := "Grammarsmith$Chart", name := "ofTerminal", desc := "(III)I" } : Jvm.MethodName) ({ cls := "Grammarsmith$CountingChart", name := "ofTerminal", desc := "(III)I" } : Jvm.MethodName)) ∈ gx_tb := gx_ok (List.mem_of_getElem? (i := 587) (by decide +kernel)) (by decide +kernel)
theorem gw_588 : (Jvm.Cond.instanceMethod ({ cls := "Grammarsmith$CountingChart", name := "ofTerminal", desc := "(III)I" } : Jvm.MethodName)) ∈ gx_tb := gx_ok (List.mem_of_getElem? (i := 588) (by decide +kernel)) (by decide +kernel)
theorem gw_59 : (Jvm.Cond.fieldLink "Grammarsmith$RuleReader" (15 : Nat) "Grammarsmith$RuleReader" "height" "I") ∈ gx_tb := gx_ok (List.mem_of_getElem? (i := 59) (by decide +kernel)) (by decide +kernel)
theorem gw_590 : (Jvm.Cond.methodLink "Grammarsmith$CountingChart" (9 : Nat) ({ cls := "Grammarsmith$CountingChart", name := "look", desc := "(I)I" } : Jvm.MethodName)) ∈ gx_tb := gx_ok (List.mem_of_getElem? (i := 590) (by decide +kernel)) (by decide +kernel)
theorem gw_591 : (Jvm.Cond.sameMethod "Grammarsmith$CountingChart" "Grammarsmith$Chart" "look" "(I)I") ∈ gx_tb := gx_ok (List.mem_of_getElem? (i := 591) (by decide +kernel)) (by decide +kernel)
theorem gw_593 : (Jvm.Cond.selects "Grammarsmith$CountingChart" ({ cls := "Grammarsmith$CountingChart", name := "look", desc := "(I)I" } : Jvm.MethodName) ({ cls := "Grammarsmith$Chart", name := "look", desc := "(I)I" } : Jvm.MethodName)) ∈ gx_tb := gx_ok (List.mem_of_getElem? (i := 593) (by decide +kernel)) (by decide +kernel)
theorem gw_594 : (Jvm.Cond.instanceMethod ({ cls := "Grammarsmith$Chart", name := "look", desc := "(I)I" } : Jvm.MethodName)) ∈ gx_tb := gx_ok (List.mem_of_getElem? (i := 594) (by decide +kernel)) (by decide +kernel)
theorem gw_596 : (Jvm.Cond.selects "Grammarsmith$RepairingChart" ({ cls := "Grammarsmith$Chart", name := "ofTerminal", desc := "(III)I" } : Jvm.MethodName) ({ cls := "Grammarsmith$RepairingChart", name := "ofTerminal", desc := "(III)I" } : Jvm.MethodName)) ∈ gx_tb := gx_ok (List.mem_of_getElem? (i := 596) (by decide +kernel)) (by decide +kernel)
theorem gw_597 : (Jvm.Cond.instanceMethod ({ cls := "Grammarsmith$RepairingChart", name := "ofTerminal", desc := "(III)I" } : Jvm.MethodName)) ∈ gx_tb := gx_ok (List.mem_of_getElem? (i := 597) (by decide +kernel)) (by decide +kernel)
theorem gw_599 : (Jvm.Cond.methodLink "Grammarsmith$RepairingChart" (11 : Nat) ({ cls := "Grammarsmith$RepairingChart", name := "look", desc := "(I)I" } : Jvm.MethodName)) ∈ gx_tb := gx_ok (List.mem_of_getElem? (i := 599) (by decide +kernel)) (by decide +kernel)
theorem gw_6 : (Jvm.Cond.initialized "Grammarsmith$Facts") ∈ gx_tb := gx_ok (List.mem_of_getElem? (i := 6) (by decide +kernel)) (by decide +kernel)
theorem gw_600 : (Jvm.Cond.sameMethod "Grammarsmith$RepairingChart" "Grammarsmith$Chart" "look" "(I)I") ∈ gx_tb := gx_ok (List.mem_of_getElem? (i := 600) (by decide +kernel)) (by decide +kernel)
theorem gw_601 : (Jvm.Cond.selects "Grammarsmith$RepairingChart" ({ cls := "Grammarsmith$RepairingChart", name := "look", desc := "(I)I" } : Jvm.MethodName) ({ cls := "Grammarsmith$Chart", name := "look", desc := "(I)I" } : Jvm.MethodName)) ∈ gx_tb := gx_ok (List.mem_of_getElem? (i := 601) (by decide +kernel)) (by decide +kernel)
theorem gw_602 : (Jvm.Cond.methodLink "Grammarsmith$Chart" (50 : Nat) ({ cls := "Grammarsmith$Chart", name := "whole", desc := "(III)I" } : Jvm.MethodName)) ∈ gx_tb := gx_ok (List.mem_of_getElem? (i := 602) (by decide +kernel)) (by decide +kernel)
theorem gw_604 : (Jvm.Cond.instanceMethod ({ cls := "Grammarsmith$Chart", name := "whole", desc := "(III)I" } : Jvm.MethodName)) ∈ gx_tb := gx_ok (List.mem_of_getElem? (i := 604) (by decide +kernel)) (by decide +kernel)
theorem gw_606 : (Jvm.Cond.methodLink "Grammarsmith$Chart" (109 : Nat) ({ cls := "Grammarsmith$Chart", name := "both", desc := "(II)I" } : Jvm.MethodName)) ∈ gx_tb := gx_ok (List.mem_of_getElem? (i := 606) (by decide +kernel)) (by decide +kernel)
theorem gw_608 : (Jvm.Cond.sameMethod "Grammarsmith$Chart" "Grammarsmith$Chart" "both" "(II)I") ∈ gx_tb := gx_ok (List.mem_of_getElem? (i := 608) (by decide +kernel)) (by decide +kernel)
theorem gw_609 : (Jvm.Cond.selects "Grammarsmith$CountingChart" ({ cls := "Grammarsmith$Chart", name := "both", desc := "(II)I" } : Jvm.MethodName) ({ cls := "Grammarsmith$CountingChart", name := "both", desc := "(II)I" } : Jvm.MethodName)) ∈ gx_tb := gx_ok (List.mem_of_getElem? (i := 609) (by decide +kernel)) (by decide +kernel)
theorem gw_610 : (Jvm.Cond.instanceMethod ({ cls := "Grammarsmith$CountingChart", name := "both", desc := "(II)I" } : Jvm.MethodName)) ∈ gx_tb := gx_ok (List.mem_of_getElem? (i := 610) (by decide +kernel)) (by decide +kernel)
theorem gw_612 : (Jvm.Cond.methodLink "Grammarsmith$CountingChart" (15 : Nat) ({ cls := "java/lang/Math", name := "min", desc := "(II)I" } : Jvm.MethodName)) ∈ gx_tb := gx_ok (List.mem_of_getElem? (i := 612) (by decide +kernel)) (by decide +kernel)
theorem gw_613 : (Jvm.Cond.selects "Grammarsmith$RepairingChart" ({ cls := "Grammarsmith$Chart", name := "both", desc := "(II)I" } : Jvm.MethodName) ({ cls := "Grammarsmith$RepairingChart", name := "both", desc := "(II)I" } : Jvm.MethodName)) ∈ gx_tb := gx_ok (List.mem_of_getElem? (i := 613) (by decide +kernel)) (by decide +kernel)
theorem gw_614 : (Jvm.Cond.instanceMethod ({ cls := "Grammarsmith$RepairingChart", name := "both", desc := "(II)I" } : Jvm.MethodName)) ∈ gx_tb := gx_ok (List.mem_of_getElem? (i := 614) (by decide +kernel)) (by decide +kernel)
theorem gw_616 : (Jvm.Cond.methodLink "Grammarsmith$RepairingChart" (15 : Nat) ({ cls := "java/lang/Math", name := "min", desc := "(II)I" } : Jvm.MethodName)) ∈ gx_tb := gx_ok (List.mem_of_getElem? (i := 616) (by decide +kernel)) (by decide +kernel)
theorem gw_617 : (Jvm.Cond.methodLink "Grammarsmith$Chart" (81 : Nat) ({ cls := "Grammarsmith$Chart", name := "either", desc := "(II)I" } : Jvm.MethodName)) ∈ gx_tb := gx_ok (List.mem_of_getElem? (i := 617) (by decide +kernel)) (by decide +kernel)
theorem gw_619 : (Jvm.Cond.sameMethod "Grammarsmith$Chart" "Grammarsmith$Chart" "either" "(II)I") ∈ gx_tb := gx_ok (List.mem_of_getElem? (i := 619) (by decide +kernel)) (by decide +kernel)
theorem gw_620 : (Jvm.Cond.selects "Grammarsmith$CountingChart" ({ cls := "Grammarsmith$Chart", name := "either", desc := "(II)I" } : Jvm.MethodName) ({ cls := "Grammarsmith$CountingChart", name := "either", desc := "(II)I" } : Jvm.MethodName)) ∈ gx_tb := gx_ok (List.mem_of_getElem? (i := 620) (by decide +kernel)) (by decide +kernel)
theorem gw_621 : (Jvm.Cond.instanceMethod ({ cls := "Grammarsmith$CountingChart", name := "either", desc := "(II)I" } : Jvm.MethodName)) ∈ gx_tb := gx_ok (List.mem_of_getElem? (i := 621) (by decide +kernel)) (by decide +kernel)
theorem gw_623 : (Jvm.Cond.selects "Grammarsmith$RepairingChart" ({ cls := "Grammarsmith$Chart", name := "either", desc := "(II)I" } : Jvm.MethodName) ({ cls := "Grammarsmith$RepairingChart", name := "either", desc := "(II)I" } : Jvm.MethodName)) ∈ gx_tb := gx_ok (List.mem_of_getElem? (i := 623) (by decide +kernel)) (by decide +kernel)
theorem gw_624 : (Jvm.Cond.instanceMethod ({ cls := "Grammarsmith$RepairingChart", name := "either", desc := "(II)I" } : Jvm.MethodName)) ∈ gx_tb := gx_ok (List.mem_of_getElem? (i := 624) (by decide +kernel)) (by decide +kernel)
theorem gw_626 : (Jvm.Cond.methodLink "Grammarsmith$Chart" (84 : Nat) ({ cls := "Grammarsmith$Chart", name := "ofNonterminal", desc := "(II)I" } : Jvm.MethodName)) ∈ gx_tb := gx_ok (List.mem_of_getElem? (i := 626) (by decide +kernel)) (by decide +kernel)
theorem gw_628 : (Jvm.Cond.sameMethod "Grammarsmith$Chart" "Grammarsmith$Chart" "ofNonterminal" "(II)I") ∈ gx_tb := gx_ok (List.mem_of_getElem? (i := 628) (by decide +kernel)) (by decide +kernel)
theorem gw_629 : (Jvm.Cond.selects "Grammarsmith$CountingChart" ({ cls := "Grammarsmith$Chart", name := "ofNonterminal", desc := "(II)I" } : Jvm.MethodName) ({ cls := "Grammarsmith$CountingChart", name := "ofNonterminal", desc := "(II)I" } : Jvm.MethodName)) ∈ gx_tb := gx_ok (List.mem_of_getElem? (i := 629) (by decide +kernel)) (by decide +kernel)
theorem gw_630 : (Jvm.Cond.instanceMethod ({ cls := "Grammarsmith$CountingChart", name := "ofNonterminal", desc := "(II)I" } : Jvm.MethodName)) ∈ gx_tb := gx_ok (List.mem_of_getElem? (i := 630) (by decide +kernel)) (by decide +kernel)
theorem gw_632 : (Jvm.Cond.methodLink "Grammarsmith$CountingChart" (21 : Nat) ({ cls := "Grammarsmith$CountingChart", name := "facts", desc := "()LGrammarsmith$Facts;" } : Jvm.MethodName)) ∈ gx_tb := gx_ok (List.mem_of_getElem? (i := 632) (by decide +kernel)) (by decide +kernel)
theorem gw_633 : (Jvm.Cond.sameMethod "Grammarsmith$CountingChart" "Grammarsmith$Chart" "facts" "()LGrammarsmith$Facts;") ∈ gx_tb := gx_ok (List.mem_of_getElem? (i := 633) (by decide +kernel)) (by decide +kernel)
theorem gw_635 : (Jvm.Cond.selects "Grammarsmith$CountingChart" ({ cls := "Grammarsmith$CountingChart", name := "facts", desc := "()LGrammarsmith$Facts;" } : Jvm.MethodName) ({ cls := "Grammarsmith$Chart", name := "facts", desc := "()LGrammarsmith$Facts;" } : Jvm.MethodName)) ∈ gx_tb := gx_ok (List.mem_of_getElem? (i := 635) (by decide +kernel)) (by decide +kernel)
theorem gw_636 : (Jvm.Cond.instanceMethod ({ cls := "Grammarsmith$Chart", name := "facts", desc := "()LGrammarsmith$Facts;" } : Jvm.MethodName)) ∈ gx_tb := gx_ok (List.mem_of_getElem? (i := 636) (by decide +kernel)) (by decide +kernel)
theorem gw_638 : (Jvm.Cond.methodLink "Grammarsmith$CountingChart" (25 : Nat) ({ cls := "Grammarsmith$Facts", name := "isCircular", desc := "(I)Z" } : Jvm.MethodName)) ∈ gx_tb := gx_ok (List.mem_of_getElem? (i := 638) (by decide +kernel)) (by decide +kernel)
theorem gw_639 : (Jvm.Cond.instanceMethod ({ cls := "Grammarsmith$Facts", name := "isCircular", desc := "(I)Z" } : Jvm.MethodName)) ∈ gx_tb := gx_ok (List.mem_of_getElem? (i := 639) (by decide +kernel)) (by decide +kernel)
theorem gw_640 : (Jvm.Cond.selects "Grammarsmith$Facts" ({ cls := "Grammarsmith$Facts", name := "isCircular", desc := "(I)Z" } : Jvm.MethodName) ({ cls := "Grammarsmith$Facts", name := "isCircular", desc := "(I)Z" } : Jvm.MethodName)) ∈ gx_tb := gx_ok (List.mem_of_getElem? (i := 640) (by decide +kernel)) (by decide +kernel)
theorem gw_642 : (Jvm.Cond.selects "Grammarsmith$RepairingChart" ({ cls := "Grammarsmith$Chart", name := "ofNonterminal", desc := "(II)I" } : Jvm.MethodName) ({ cls := "Grammarsmith$RepairingChart", name := "ofNonterminal", desc := "(II)I" } : Jvm.MethodName)) ∈ gx_tb := gx_ok (List.mem_of_getElem? (i := 642) (by decide +kernel)) (by decide +kernel)
theorem gw_643 : (Jvm.Cond.instanceMethod ({ cls := "Grammarsmith$RepairingChart", name := "ofNonterminal", desc := "(II)I" } : Jvm.MethodName)) ∈ gx_tb := gx_ok (List.mem_of_getElem? (i := 643) (by decide +kernel)) (by decide +kernel)
theorem gw_645 : (Jvm.Cond.methodLink "Grammarsmith$Chart" (44 : Nat) ({ cls := "Grammarsmith$Grammar", name := "top", desc := "()I" } : Jvm.MethodName)) ∈ gx_tb := gx_ok (List.mem_of_getElem? (i := 645) (by decide +kernel)) (by decide +kernel)
theorem gw_646 : (Jvm.Cond.methodLink "GrammarsmithLaw" (100 : Nat) ({ cls := "GrammarsmithLaw", name := "cell", desc := "([II)I" } : Jvm.MethodName)) ∈ gx_tb := gx_ok (List.mem_of_getElem? (i := 646) (by decide +kernel)) (by decide +kernel)
theorem gw_647 : (Jvm.Cond.static ({ cls := "GrammarsmithLaw", name := "cell", desc := "([II)I" } : Jvm.MethodName)) ∈ gx_tb := gx_ok (List.mem_of_getElem? (i := 647) (by decide +kernel)) (by decide +kernel)
theorem gw_649 : (Jvm.Cond.constant "GrammarsmithLaw" (7 : Nat) (51001 : Int32)) ∈ gx_tb := gx_ok (List.mem_of_getElem? (i := 649) (by decide +kernel)) (by decide +kernel)
theorem gw_65 : (Jvm.Cond.arrayClass Jvm.ClassFile.FieldType.int) ∈ gx_tb := gx_ok (List.mem_of_getElem? (i := 65) (by decide +kernel)) (by decide +kernel)
theorem gw_650 : (Jvm.Cond.constant "GrammarsmithLaw" (8 : Nat) (2147483647 : Int32)) ∈ gx_tb := gx_ok (List.mem_of_getElem? (i := 650) (by decide +kernel)) (by decide +kernel)
theorem gw_651 : (Jvm.Cond.methodLink "GrammarsmithLaw" (95 : Nat) ({ cls := "GrammarsmithLaw", name := "type", desc := "(LGrammarsmith;I)I" } : Jvm.MethodName)) ∈ gx_tb := gx_ok (List.mem_of_getElem? (i := 651) (by decide +kernel)) (by decide +kernel)
theorem gw_652 : (Jvm.Cond.static ({ cls := "GrammarsmithLaw", name := "type", desc := "(LGrammarsmith;I)I" } : Jvm.MethodName)) ∈ gx_tb := gx_ok (List.mem_of_getElem? (i := 652) (by decide +kernel)) (by decide +kernel)
theorem gw_654 : (Jvm.Cond.classLink "GrammarsmithLaw" (15 : Nat) "java/lang/IllegalArgumentException") ∈ gx_tb := gx_ok (List.mem_of_getElem? (i := 654) (by decide +kernel)) (by decide +kernel)
theorem gw_655 : (Jvm.Cond.classLink "GrammarsmithLaw" (17 : Nat) "java/lang/IllegalStateException") ∈ gx_tb := gx_ok (List.mem_of_getElem? (i := 655) (by decide +kernel)) (by decide +kernel)
theorem gw_656 : (Jvm.Cond.methodLink "GrammarsmithLaw" (9 : Nat) ({ cls := "Grammarsmith", name := "type", desc := "(C)I" } : Jvm.MethodName)) ∈ gx_tb := gx_ok (List.mem_of_getElem? (i := 656) (by decide +kernel)) (by decide +kernel)
theorem gw_657 : (Jvm.Cond.instanceMethod ({ cls := "Grammarsmith", name := "type", desc := "(C)I" } : Jvm.MethodName)) ∈ gx_tb := gx_ok (List.mem_of_getElem? (i := 657) (by decide +kernel)) (by decide +kernel)
theorem gw_658 : (Jvm.Cond.selects "Grammarsmith" ({ cls := "Grammarsmith", name := "type", desc := "(C)I" } : Jvm.MethodName) ({ cls := "Grammarsmith", name := "type", desc := "(C)I" } : Jvm.MethodName)) ∈ gx_tb := gx_ok (List.mem_of_getElem? (i := 658) (by decide +kernel)) (by decide +kernel)
theorem gw_66 : (Jvm.Cond.fieldLink "Grammarsmith$Grammar" (9 : Nat) "Grammarsmith$Grammar" "owners" "[I") ∈ gx_tb := gx_ok (List.mem_of_getElem? (i := 66) (by decide +kernel)) (by decide +kernel)
theorem gw_660 : (Jvm.Cond.methodLink "Grammarsmith" (101 : Nat) ({ cls := "Grammarsmith", name := "isLetter", desc := "(C)Z" } : Jvm.MethodName)) ∈ gx_tb := gx_ok (List.mem_of_getElem? (i := 660) (by decide +kernel)) (by decide +kernel)
theorem gw_661 : (Jvm.Cond.static ({ cls := "Grammarsmith", name := "isLetter", desc := "(C)Z" } : Jvm.MethodName)) ∈ gx_tb := gx_ok (List.mem_of_getElem? (i := 661) (by decide +kernel)) (by decide +kernel)
theorem gw_663 : (Jvm.Cond.methodLink "Grammarsmith" (280 : Nat) ({ cls := "Grammarsmith", name := "isTerminalLetter", desc := "(C)Z" } : Jvm.MethodName)) ∈ gx_tb := gx_ok (List.mem_of_getElem? (i := 663) (by decide +kernel)) (by decide +kernel)
theorem gw_664 : (Jvm.Cond.methodLink "Grammarsmith" (283 : Nat) ({ cls := "Grammarsmith", name := "isNonterminalLetter", desc := "(C)Z" } : Jvm.MethodName)) ∈ gx_tb := gx_ok (List.mem_of_getElem? (i := 664) (by decide +kernel)) (by decide +kernel)
theorem gw_665 : (Jvm.Cond.methodLink "Grammarsmith" (286 : Nat) ({ cls := "Grammarsmith", name := "isRepeat", desc := "(C)Z" } : Jvm.MethodName)) ∈ gx_tb := gx_ok (List.mem_of_getElem? (i := 665) (by decide +kernel)) (by decide +kernel)
theorem gw_67 : (Jvm.Cond.fieldLink "Grammarsmith$Grammar" (15 : Nat) "Grammarsmith$Grammar" "symbols" "[I") ∈ gx_tb := gx_ok (List.mem_of_getElem? (i := 67) (by decide +kernel)) (by decide +kernel)
theorem gw_68 : (Jvm.Cond.fieldLink "Grammarsmith$Grammar" (18 : Nat) "Grammarsmith$Grammar" "lengths" "[I") ∈ gx_tb := gx_ok (List.mem_of_getElem? (i := 68) (by decide +kernel)) (by decide +kernel)
theorem gw_69 : (Jvm.Cond.fieldLink "Grammarsmith$Grammar" (42 : Nat) "Grammarsmith$Grammar" "count" "I") ∈ gx_tb := gx_ok (List.mem_of_getElem? (i := 69) (by decide +kernel)) (by decide +kernel)
theorem gw_7 : (Jvm.Cond.initialized "Grammarsmith$Automaton") ∈ gx_tb := gx_ok (List.mem_of_getElem? (i := 7) (by decide +kernel)) (by decide +kernel)
theorem gw_70 : (Jvm.Cond.fieldLink "Grammarsmith$Grammar" (23 : Nat) "Grammarsmith$Grammar" "texts" "[LGrammarsmith$RuleText;") ∈ gx_tb := gx_ok (List.mem_of_getElem? (i := 70) (by decide +kernel)) (by decide +kernel)
theorem gw_71 : (Jvm.Cond.fieldLink "Grammarsmith$Grammar" (27 : Nat) "Grammarsmith$Grammar" "countsBefore" "[I") ∈ gx_tb := gx_ok (List.mem_of_getElem? (i := 71) (by decide +kernel)) (by decide +kernel)
theorem gw_72 : (Jvm.Cond.fieldLink "Grammarsmith$Grammar" (46 : Nat) "Grammarsmith$Grammar" "rules" "I") ∈ gx_tb := gx_ok (List.mem_of_getElem? (i := 72) (by decide +kernel)) (by decide +kernel)
theorem gw_73 : (Jvm.Cond.fieldLink "Grammarsmith$Grammar" (49 : Nat) "Grammarsmith$Grammar" "top" "I") ∈ gx_tb := gx_ok (List.mem_of_getElem? (i := 73) (by decide +kernel)) (by decide +kernel)
theorem gw_734 : (Jvm.Cond.methodLink "Grammarsmith" (112 : Nat) ({ cls := "Grammarsmith$RuleText", name := "isFull", desc := "()Z" } : Jvm.MethodName)) ∈ gx_tb := gx_ok (List.mem_of_getElem? (i := 734) (by decide +kernel)) (by decide +kernel)
theorem gw_735 : (Jvm.Cond.instanceMethod ({ cls := "Grammarsmith$RuleText", name := "isFull", desc := "()Z" } : Jvm.MethodName)) ∈ gx_tb := gx_ok (List.mem_of_getElem? (i := 735) (by decide +kernel)) (by decide +kernel)
theorem gw_736 : (Jvm.Cond.selects "Grammarsmith$RuleText" ({ cls := "Grammarsmith$RuleText", name := "isFull", desc := "()Z" } : Jvm.MethodName) ({ cls := "Grammarsmith$RuleText", name := "isFull", desc := "()Z" } : Jvm.MethodName)) ∈ gx_tb := gx_ok (List.mem_of_getElem? (i := 736) (by decide +kernel)) (by decide +kernel)
theorem gw_74 : (Jvm.Cond.fieldLink "Grammarsmith$Grammar" (31 : Nat) "Grammarsmith$Grammar" "renamed" "LGrammarsmith$RuleText;") ∈ gx_tb := gx_ok (List.mem_of_getElem? (i := 74) (by decide +kernel)) (by decide +kernel)
theorem gw_75 : (Jvm.Cond.fieldLink "Grammarsmith$Grammar" (38 : Nat) "Grammarsmith$Grammar" "reader" "LGrammarsmith$RuleReader;") ∈ gx_tb := gx_ok (List.mem_of_getElem? (i := 75) (by decide +kernel)) (by decide +kernel)
theorem gw_754 : (Jvm.Cond.methodLink "Grammarsmith" (121 : Nat) ({ cls := "Grammarsmith$RuleText", name := "append", desc := "(C)I" } : Jvm.MethodName)) ∈ gx_tb := gx_ok (List.mem_of_getElem? (i := 754) (by decide +kernel)) (by decide +kernel)
theorem gw_755 : (Jvm.Cond.instanceMethod ({ cls := "Grammarsmith$RuleText", name := "append", desc := "(C)I" } : Jvm.MethodName)) ∈ gx_tb := gx_ok (List.mem_of_getElem? (i := 755) (by decide +kernel)) (by decide +kernel)
theorem gw_756 : (Jvm.Cond.selects "Grammarsmith$RuleText" ({ cls := "Grammarsmith$RuleText", name := "append", desc := "(C)I" } : Jvm.MethodName) ({ cls := "Grammarsmith$RuleText", name := "append", desc := "(C)I" } : Jvm.MethodName)) ∈ gx_tb := gx_ok (List.mem_of_getElem? (i := 756) (by decide +kernel)) (by decide +kernel)
theorem gw_758 : (Jvm.Cond.methodLink "GrammarsmithLaw" (152 : Nat) ({ cls := "GrammarsmithLaw", name := "enter", desc := "(LGrammarsmith;)I" } : Jvm.MethodName)) ∈ gx_tb := gx_ok (List.mem_of_getElem? (i := 758) (by decide +kernel)) (by decide +kernel)
theorem gw_759 : (Jvm.Cond.static ({ cls := "GrammarsmithLaw", name := "enter", desc := "(LGrammarsmith;)I" } : Jvm.MethodName)) ∈ gx_tb := gx_ok (List.mem_of_getElem? (i := 759) (by decide +kernel)) (by decide +kernel)
theorem gw_761 : (Jvm.Cond.methodLink "GrammarsmithLaw" (19 : Nat) ({ cls := "Grammarsmith", name := "enter", desc := "()I" } : Jvm.MethodName)) ∈ gx_tb := gx_ok (List.mem_of_getElem? (i := 761) (by decide +kernel)) (by decide +kernel)
theorem gw_762 : (Jvm.Cond.instanceMethod ({ cls := "Grammarsmith", name := "enter", desc := "()I" } : Jvm.MethodName)) ∈ gx_tb := gx_ok (List.mem_of_getElem? (i := 762) (by decide +kernel)) (by decide +kernel)
theorem gw_763 : (Jvm.Cond.selects "Grammarsmith" ({ cls := "Grammarsmith", name := "enter", desc := "()I" } : Jvm.MethodName) ({ cls := "Grammarsmith", name := "enter", desc := "()I" } : Jvm.MethodName)) ∈ gx_tb := gx_ok (List.mem_of_getElem? (i := 763) (by decide +kernel)) (by decide +kernel)
theorem gw_766 : (Jvm.Cond.methodLink "Grammarsmith" (134 : Nat) ({ cls := "Grammarsmith$Grammar", name := "\x61dmit", desc := "(LGrammarsmith$RuleText;)Z" } : Jvm.MethodName)) ∈ gx_tb := gx_ok (List.mem_of_getElem? (i := 766) (by decide +kernel)) (by decide +kernel)
theorem gw_767 : (Jvm.Cond.instanceMethod ({ cls := "Grammarsmith$Grammar", name := "\x61dmit", desc := "(LGrammarsmith$RuleText;)Z" } : Jvm.MethodName)) ∈ gx_tb := gx_ok (List.mem_of_getElem? (i := 767) (by decide +kernel)) (by decide +kernel)
theorem gw_768 : (Jvm.Cond.selects "Grammarsmith$Grammar" ({ cls := "Grammarsmith$Grammar", name := "\x61dmit", desc := "(LGrammarsmith$RuleText;)Z" } : Jvm.MethodName) ({ cls := "Grammarsmith$Grammar", name := "\x61dmit", desc := "(LGrammarsmith$RuleText;)Z" } : Jvm.MethodName)) ∈ gx_tb := gx_ok (List.mem_of_getElem? (i := 768) (by decide +kernel)) (by decide +kernel)
theorem gw_770 : (Jvm.Cond.methodLink "Grammarsmith$Grammar" (74 : Nat) ({ cls := "Grammarsmith$RuleReader", name := "read", desc := "(LGrammarsmith$RuleText;LGrammarsmith$Grammar;)Z" } : Jvm.MethodName)) ∈ gx_tb := gx_ok (List.mem_of_getElem? (i := 770) (by decide +kernel)) (by decide +kernel)
theorem gw_771 : (Jvm.Cond.instanceMethod ({ cls := "Grammarsmith$RuleReader", name := "read", desc := "(LGrammarsmith$RuleText;LGrammarsmith$Grammar;)Z" } : Jvm.MethodName)) ∈ gx_tb := gx_ok (List.mem_of_getElem? (i := 771) (by decide +kernel)) (by decide +kernel)
theorem gw_772 : (Jvm.Cond.selects "Grammarsmith$RuleReader" ({ cls := "Grammarsmith$RuleReader", name := "read", desc := "(LGrammarsmith$RuleText;LGrammarsmith$Grammar;)Z" } : Jvm.MethodName) ({ cls := "Grammarsmith$RuleReader", name := "read", desc := "(LGrammarsmith$RuleText;LGrammarsmith$Grammar;)Z" } : Jvm.MethodName)) ∈ gx_tb := gx_ok (List.mem_of_getElem? (i := 772) (by decide +kernel)) (by decide +kernel)
theorem gw_774 : (Jvm.Cond.methodLink "Grammarsmith$RuleReader" (19 : Nat) ({ cls := "Grammarsmith$RuleText", name := "length", desc := "()I" } : Jvm.MethodName)) ∈ gx_tb := gx_ok (List.mem_of_getElem? (i := 774) (by decide +kernel)) (by decide +kernel)
theorem gw_775 : (Jvm.Cond.instanceMethod ({ cls := "Grammarsmith$RuleText", name := "length", desc := "()I" } : Jvm.MethodName)) ∈ gx_tb := gx_ok (List.mem_of_getElem? (i := 775) (by decide +kernel)) (by decide +kernel)
theorem gw_776 : (Jvm.Cond.selects "Grammarsmith$RuleText" ({ cls := "Grammarsmith$RuleText", name := "length", desc := "()I" } : Jvm.MethodName) ({ cls := "Grammarsmith$RuleText", name := "length", desc := "()I" } : Jvm.MethodName)) ∈ gx_tb := gx_ok (List.mem_of_getElem? (i := 776) (by decide +kernel)) (by decide +kernel)
theorem gw_778 : (Jvm.Cond.methodLink "Grammarsmith$RuleReader" (25 : Nat) ({ cls := "Grammarsmith$RuleText", name := "letter", desc := "(I)C" } : Jvm.MethodName)) ∈ gx_tb := gx_ok (List.mem_of_getElem? (i := 778) (by decide +kernel)) (by decide +kernel)
theorem gw_779 : (Jvm.Cond.methodLink "Grammarsmith$RuleReader" (29 : Nat) ({ cls := "Grammarsmith$RuleReader", name := "wrap", desc := "(LGrammarsmith$Grammar;CI)Z" } : Jvm.MethodName)) ∈ gx_tb := gx_ok (List.mem_of_getElem? (i := 779) (by decide +kernel)) (by decide +kernel)
theorem gw_781 : (Jvm.Cond.instanceMethod ({ cls := "Grammarsmith$RuleReader", name := "wrap", desc := "(LGrammarsmith$Grammar;CI)Z" } : Jvm.MethodName)) ∈ gx_tb := gx_ok (List.mem_of_getElem? (i := 781) (by decide +kernel)) (by decide +kernel)
theorem gw_783 : (Jvm.Cond.methodLink "Grammarsmith$RuleReader" (55 : Nat) ({ cls := "Grammarsmith$Grammar", name := "freeHelper", desc := "()I" } : Jvm.MethodName)) ∈ gx_tb := gx_ok (List.mem_of_getElem? (i := 783) (by decide +kernel)) (by decide +kernel)
theorem gw_784 : (Jvm.Cond.instanceMethod ({ cls := "Grammarsmith$Grammar", name := "freeHelper", desc := "()I" } : Jvm.MethodName)) ∈ gx_tb := gx_ok (List.mem_of_getElem? (i := 784) (by decide +kernel)) (by decide +kernel)
theorem gw_785 : (Jvm.Cond.selects "Grammarsmith$Grammar" ({ cls := "Grammarsmith$Grammar", name := "freeHelper", desc := "()I" } : Jvm.MethodName) ({ cls := "Grammarsmith$Grammar", name := "freeHelper", desc := "()I" } : Jvm.MethodName)) ∈ gx_tb := gx_ok (List.mem_of_getElem? (i := 785) (by decide +kernel)) (by decide +kernel)
theorem gw_787 : (Jvm.Cond.methodLink "Grammarsmith$Grammar" (64 : Nat) ({ cls := "Grammarsmith$Grammar", name := "owner", desc := "(I)I" } : Jvm.MethodName)) ∈ gx_tb := gx_ok (List.mem_of_getElem? (i := 787) (by decide +kernel)) (by decide +kernel)
theorem gw_788 : (Jvm.Cond.methodLink "Grammarsmith$Grammar" (52 : Nat) ({ cls := "Grammarsmith$Grammar", name := "length", desc := "(I)I" } : Jvm.MethodName)) ∈ gx_tb := gx_ok (List.mem_of_getElem? (i := 788) (by decide +kernel)) (by decide +kernel)
theorem gw_789 : (Jvm.Cond.methodLink "Grammarsmith$Grammar" (56 : Nat) ({ cls := "Grammarsmith$Grammar", name := "symbol", desc := "(II)I" } : Jvm.MethodName)) ∈ gx_tb := gx_ok (List.mem_of_getElem? (i := 789) (by decide +kernel)) (by decide +kernel)
theorem gw_792 : (Jvm.Cond.methodLink "Grammarsmith$RuleReader" (60 : Nat) ({ cls := "Grammarsmith$Grammar", name := "open", desc := "(I)Z" } : Jvm.MethodName)) ∈ gx_tb := gx_ok (List.mem_of_getElem? (i := 792) (by decide +kernel)) (by decide +kernel)
theorem gw_793 : (Jvm.Cond.instanceMethod ({ cls := "Grammarsmith$Grammar", name := "open", desc := "(I)Z" } : Jvm.MethodName)) ∈ gx_tb := gx_ok (List.mem_of_getElem? (i := 793) (by decide +kernel)) (by decide +kernel)
theorem gw_794 : (Jvm.Cond.selects "Grammarsmith$Grammar" ({ cls := "Grammarsmith$Grammar", name := "open", desc := "(I)Z" } : Jvm.MethodName) ({ cls := "Grammarsmith$Grammar", name := "open", desc := "(I)Z" } : Jvm.MethodName)) ∈ gx_tb := gx_ok (List.mem_of_getElem? (i := 794) (by decide +kernel)) (by decide +kernel)
theorem gw_796 : (Jvm.Cond.methodLink "Grammarsmith$RuleReader" (62 : Nat) ({ cls := "Grammarsmith$Grammar", name := "extend", desc := "(I)Z" } : Jvm.MethodName)) ∈ gx_tb := gx_ok (List.mem_of_getElem? (i := 796) (by decide +kernel)) (by decide +kernel)
theorem gw_797 : (Jvm.Cond.instanceMethod ({ cls := "Grammarsmith$Grammar", name := "extend", desc := "(I)Z" } : Jvm.MethodName)) ∈ gx_tb := gx_ok (List.mem_of_getElem? (i := 797) (by decide +kernel)) (by decide +kernel)
theorem gw_798 : (Jvm.Cond.selects "Grammarsmith$Grammar" ({ cls := "Grammarsmith$Grammar", name := "extend", desc := "(I)Z" } : Jvm.MethodName) ({ cls := "Grammarsmith$Grammar", name := "extend", desc := "(I)Z" } : Jvm.MethodName)) ∈ gx_tb := gx_ok (List.mem_of_getElem? (i := 798) (by decide +kernel)) (by decide +kernel)
theorem gw_8 : (Jvm.Cond.initialized "Grammarsmith$Table") ∈ gx_tb := gx_ok (List.mem_of_getElem? (i := 8) (by decide +kernel)) (by decide +kernel)
theorem gw_801 : (Jvm.Cond.methodLink "Grammarsmith$RuleReader" (37 : Nat) ({ cls := "Grammarsmith$RuleReader", name := "push", desc := "(I)Z" } : Jvm.MethodName)) ∈ gx_tb := gx_ok (List.mem_of_getElem? (i := 801) (by decide +kernel)) (by decide +kernel)
theorem gw_803 : (Jvm.Cond.instanceMethod ({ cls := "Grammarsmith$RuleReader", name := "push", desc := "(I)Z" } : Jvm.MethodName)) ∈ gx_tb := gx_ok (List.mem_of_getElem? (i := 803) (by decide +kernel)) (by decide +kernel)
theorem gw_806 : (Jvm.Cond.methodLink "Grammarsmith$RuleReader" (44 : Nat) ({ cls := "Grammarsmith$RuleReader", name := "closeBracket", desc := "(LGrammarsmith$Grammar;)Z" } : Jvm.MethodName)) ∈ gx_tb := gx_ok (List.mem_of_getElem? (i := 806) (by decide +kernel)) (by decide +kernel)
theorem gw_808 : (Jvm.Cond.instanceMethod ({ cls := "Grammarsmith$RuleReader", name := "closeBracket", desc := "(LGrammarsmith$Grammar;)Z" } : Jvm.MethodName)) ∈ gx_tb := gx_ok (List.mem_of_getElem? (i := 808) (by decide +kernel)) (by decide +kernel)
theorem gw_810 : (Jvm.Cond.methodLink "Grammarsmith$RuleReader" (51 : Nat) ({ cls := "Grammarsmith$RuleReader", name := "release", desc := "(LGrammarsmith$Grammar;II)Z" } : Jvm.MethodName)) ∈ gx_tb := gx_ok (List.mem_of_getElem? (i := 810) (by decide +kernel)) (by decide +kernel)
theorem gw_812 : (Jvm.Cond.instanceMethod ({ cls := "Grammarsmith$RuleReader", name := "release", desc := "(LGrammarsmith$Grammar;II)Z" } : Jvm.MethodName)) ∈ gx_tb := gx_ok (List.mem_of_getElem? (i := 812) (by decide +kernel)) (by decide +kernel)
theorem gw_815 : (Jvm.Cond.methodLink "Grammarsmith$Grammar" (78 : Nat) ({ cls := "Grammarsmith$RuleText", name := "copyRenamed", desc := "(LGrammarsmith$RuleText;I)V" } : Jvm.MethodName)) ∈ gx_tb := gx_ok (List.mem_of_getElem? (i := 815) (by decide +kernel)) (by decide +kernel)
theorem gw_816 : (Jvm.Cond.instanceMethod ({ cls := "Grammarsmith$RuleText", name := "copyRenamed", desc := "(LGrammarsmith$RuleText;I)V" } : Jvm.MethodName)) ∈ gx_tb := gx_ok (List.mem_of_getElem? (i := 816) (by decide +kernel)) (by decide +kernel)
theorem gw_817 : (Jvm.Cond.selects "Grammarsmith$RuleText" ({ cls := "Grammarsmith$RuleText", name := "copyRenamed", desc := "(LGrammarsmith$RuleText;I)V" } : Jvm.MethodName) ({ cls := "Grammarsmith$RuleText", name := "copyRenamed", desc := "(LGrammarsmith$RuleText;I)V" } : Jvm.MethodName)) ∈ gx_tb := gx_ok (List.mem_of_getElem? (i := 817) (by decide +kernel)) (by decide +kernel)
theorem gw_819 : (Jvm.Cond.methodLink "Grammarsmith$RuleText" (27 : Nat) ({ cls := "Grammarsmith$RuleText", name := "append", desc := "(C)I" } : Jvm.MethodName)) ∈ gx_tb := gx_ok (List.mem_of_getElem? (i := 819) (by decide +kernel)) (by decide +kernel)
theorem gw_821 : (Jvm.Cond.methodLink "Grammarsmith" (140 : Nat) ({ cls := "Grammarsmith", name := "forget", desc := "()V" } : Jvm.MethodName)) ∈ gx_tb := gx_ok (List.mem_of_getElem? (i := 821) (by decide +kernel)) (by decide +kernel)
theorem gw_823 : (Jvm.Cond.instanceMethod ({ cls := "Grammarsmith", name := "forget", desc := "()V" } : Jvm.MethodName)) ∈ gx_tb := gx_ok (List.mem_of_getElem? (i := 823) (by decide +kernel)) (by decide +kernel)
theorem gw_825 : (Jvm.Cond.methodLink "Grammarsmith" (272 : Nat) ({ cls := "Grammarsmith$Facts", name := "forget", desc := "(LGrammarsmith$Grammar;)V" } : Jvm.MethodName)) ∈ gx_tb := gx_ok (List.mem_of_getElem? (i := 825) (by decide +kernel)) (by decide +kernel)
theorem gw_826 : (Jvm.Cond.instanceMethod ({ cls := "Grammarsmith$Facts", name := "forget", desc := "(LGrammarsmith$Grammar;)V" } : Jvm.MethodName)) ∈ gx_tb := gx_ok (List.mem_of_getElem? (i := 826) (by decide +kernel)) (by decide +kernel)
theorem gw_827 : (Jvm.Cond.selects "Grammarsmith$Facts" ({ cls := "Grammarsmith$Facts", name := "forget", desc := "(LGrammarsmith$Grammar;)V" } : Jvm.MethodName) ({ cls := "Grammarsmith$Facts", name := "forget", desc := "(LGrammarsmith$Grammar;)V" } : Jvm.MethodName)) ∈ gx_tb := gx_ok (List.mem_of_getElem? (i := 827) (by decide +kernel)) (by decide +kernel)
theorem gw_829 : (Jvm.Cond.methodLink "Grammarsmith" (274 : Nat) ({ cls := "Grammarsmith$Automaton", name := "forget", desc := "()V" } : Jvm.MethodName)) ∈ gx_tb := gx_ok (List.mem_of_getElem? (i := 829) (by decide +kernel)) (by decide +kernel)
theorem gw_830 : (Jvm.Cond.instanceMethod ({ cls := "Grammarsmith$Automaton", name := "forget", desc := "()V" } : Jvm.MethodName)) ∈ gx_tb := gx_ok (List.mem_of_getElem? (i := 830) (by decide +kernel)) (by decide +kernel)
theorem gw_831 : (Jvm.Cond.selects "Grammarsmith$Automaton" ({ cls := "Grammarsmith$Automaton", name := "forget", desc := "()V" } : Jvm.MethodName) ({ cls := "Grammarsmith$Automaton", name := "forget", desc := "()V" } : Jvm.MethodName)) ∈ gx_tb := gx_ok (List.mem_of_getElem? (i := 831) (by decide +kernel)) (by decide +kernel)
theorem gw_833 : (Jvm.Cond.methodLink "GrammarsmithLaw" (160 : Nat) ({ cls := "GrammarsmithLaw", name := "undo", desc := "(LGrammarsmith;)I" } : Jvm.MethodName)) ∈ gx_tb := gx_ok (List.mem_of_getElem? (i := 833) (by decide +kernel)) (by decide +kernel)
theorem gw_834 : (Jvm.Cond.static ({ cls := "GrammarsmithLaw", name := "undo", desc := "(LGrammarsmith;)I" } : Jvm.MethodName)) ∈ gx_tb := gx_ok (List.mem_of_getElem? (i := 834) (by decide +kernel)) (by decide +kernel)
theorem gw_836 : (Jvm.Cond.methodLink "GrammarsmithLaw" (23 : Nat) ({ cls := "Grammarsmith", name := "undo", desc := "()I" } : Jvm.MethodName)) ∈ gx_tb := gx_ok (List.mem_of_getElem? (i := 836) (by decide +kernel)) (by decide +kernel)
theorem gw_837 : (Jvm.Cond.instanceMethod ({ cls := "Grammarsmith", name := "undo", desc := "()I" } : Jvm.MethodName)) ∈ gx_tb := gx_ok (List.mem_of_getElem? (i := 837) (by decide +kernel)) (by decide +kernel)
theorem gw_838 : (Jvm.Cond.selects "Grammarsmith" ({ cls := "Grammarsmith", name := "undo", desc := "()I" } : Jvm.MethodName) ({ cls := "Grammarsmith", name := "undo", desc := "()I" } : Jvm.MethodName)) ∈ gx_tb := gx_ok (List.mem_of_getElem? (i := 838) (by decide +kernel)) (by decide +kernel)
theorem gw_840 : (Jvm.Cond.methodLink "Grammarsmith" (146 : Nat) ({ cls := "Grammarsmith$Grammar", name := "dropLastRule", desc := "()Z" } : Jvm.MethodName)) ∈ gx_tb := gx_ok (List.mem_of_getElem? (i := 840) (by decide +kernel)) (by decide +kernel)
theorem gw_841 : (Jvm.Cond.instanceMethod ({ cls := "Grammarsmith$Grammar", name := "dropLastRule", desc := "()Z" } : Jvm.MethodName)) ∈ gx_tb := gx_ok (List.mem_of_getElem? (i := 841) (by decide +kernel)) (by decide +kernel)
theorem gw_842 : (Jvm.Cond.selects "Grammarsmith$Grammar" ({ cls := "Grammarsmith$Grammar", name := "dropLastRule", desc := "()Z" } : Jvm.MethodName) ({ cls := "Grammarsmith$Grammar", name := "dropLastRule", desc := "()Z" } : Jvm.MethodName)) ∈ gx_tb := gx_ok (List.mem_of_getElem? (i := 842) (by decide +kernel)) (by decide +kernel)
theorem gw_845 : (Jvm.Cond.methodLink "GrammarsmithLaw" (164 : Nat) ({ cls := "GrammarsmithLaw", name := "bring", desc := "(LGrammarsmith;I)I" } : Jvm.MethodName)) ∈ gx_tb := gx_ok (List.mem_of_getElem? (i := 845) (by decide +kernel)) (by decide +kernel)
theorem gw_846 : (Jvm.Cond.static ({ cls := "GrammarsmithLaw", name := "bring", desc := "(LGrammarsmith;I)I" } : Jvm.MethodName)) ∈ gx_tb := gx_ok (List.mem_of_getElem? (i := 846) (by decide +kernel)) (by decide +kernel)
theorem gw_848 : (Jvm.Cond.methodLink "GrammarsmithLaw" (26 : Nat) ({ cls := "Grammarsmith", name := "bring", desc := "(I)I" } : Jvm.MethodName)) ∈ gx_tb := gx_ok (List.mem_of_getElem? (i := 848) (by decide +kernel)) (by decide +kernel)
theorem gw_849 : (Jvm.Cond.instanceMethod ({ cls := "Grammarsmith", name := "bring", desc := "(I)I" } : Jvm.MethodName)) ∈ gx_tb := gx_ok (List.mem_of_getElem? (i := 849) (by decide +kernel)) (by decide +kernel)
theorem gw_850 : (Jvm.Cond.selects "Grammarsmith" ({ cls := "Grammarsmith", name := "bring", desc := "(I)I" } : Jvm.MethodName) ({ cls := "Grammarsmith", name := "bring", desc := "(I)I" } : Jvm.MethodName)) ∈ gx_tb := gx_ok (List.mem_of_getElem? (i := 850) (by decide +kernel)) (by decide +kernel)
theorem gw_853 : (Jvm.Cond.methodLink "Grammarsmith" (162 : Nat) ({ cls := "Grammarsmith$Grammar", name := "admitAll", desc := "(LGrammarsmith$Grammar;I)Z" } : Jvm.MethodName)) ∈ gx_tb := gx_ok (List.mem_of_getElem? (i := 853) (by decide +kernel)) (by decide +kernel)
theorem gw_854 : (Jvm.Cond.instanceMethod ({ cls := "Grammarsmith$Grammar", name := "admitAll", desc := "(LGrammarsmith$Grammar;I)Z" } : Jvm.MethodName)) ∈ gx_tb := gx_ok (List.mem_of_getElem? (i := 854) (by decide +kernel)) (by decide +kernel)
theorem gw_855 : (Jvm.Cond.selects "Grammarsmith$Grammar" ({ cls := "Grammarsmith$Grammar", name := "admitAll", desc := "(LGrammarsmith$Grammar;I)Z" } : Jvm.MethodName) ({ cls := "Grammarsmith$Grammar", name := "admitAll", desc := "(LGrammarsmith$Grammar;I)Z" } : Jvm.MethodName)) ∈ gx_tb := gx_ok (List.mem_of_getElem? (i := 855) (by decide +kernel)) (by decide +kernel)
theorem gw_857 : (Jvm.Cond.methodLink "Grammarsmith$Grammar" (82 : Nat) ({ cls := "Grammarsmith$Grammar", name := "\x61dmit", desc := "(LGrammarsmith$RuleText;)Z" } : Jvm.MethodName)) ∈ gx_tb := gx_ok (List.mem_of_getElem? (i := 857) (by decide +kernel)) (by decide +kernel)
theorem gw_859 : (Jvm.Cond.methodLink "Grammarsmith" (168 : Nat) ({ cls := "Grammarsmith$Grammar", name := "rules", desc := "()I" } : Jvm.MethodName)) ∈ gx_tb := gx_ok (List.mem_of_getElem? (i := 859) (by decide +kernel)) (by decide +kernel)
theorem gw_860 : (Jvm.Cond.instanceMethod ({ cls := "Grammarsmith$Grammar", name := "rules", desc := "()I" } : Jvm.MethodName)) ∈ gx_tb := gx_ok (List.mem_of_getElem? (i := 860) (by decide +kernel)) (by decide +kernel)
theorem gw_861 : (Jvm.Cond.selects "Grammarsmith$Grammar" ({ cls := "Grammarsmith$Grammar", name := "rules", desc := "()I" } : Jvm.MethodName) ({ cls := "Grammarsmith$Grammar", name := "rules", desc := "()I" } : Jvm.MethodName)) ∈ gx_tb := gx_ok (List.mem_of_getElem? (i := 861) (by decide +kernel)) (by decide +kernel)
theorem gw_863 : (Jvm.Cond.methodLink "GrammarsmithLaw" (162 : Nat) ({ cls := "GrammarsmithLaw", name := "use", desc := "(LGrammarsmith;I)I" } : Jvm.MethodName)) ∈ gx_tb := gx_ok (List.mem_of_getElem? (i := 863) (by decide +kernel)) (by decide +kernel)
theorem gw_864 : (Jvm.Cond.static ({ cls := "GrammarsmithLaw", name := "use", desc := "(LGrammarsmith;I)I" } : Jvm.MethodName)) ∈ gx_tb := gx_ok (List.mem_of_getElem? (i := 864) (by decide +kernel)) (by decide +kernel)
theorem gw_866 : (Jvm.Cond.classLink "GrammarsmithLaw" (33 : Nat) "java/lang/IndexOutOfBoundsException") ∈ gx_tb := gx_ok (List.mem_of_getElem? (i := 866) (by decide +kernel)) (by decide +kernel)
theorem gw_867 : (Jvm.Cond.methodLink "GrammarsmithLaw" (30 : Nat) ({ cls := "Grammarsmith", name := "use", desc := "(I)I" } : Jvm.MethodName)) ∈ gx_tb := gx_ok (List.mem_of_getElem? (i := 867) (by decide +kernel)) (by decide +kernel)
theorem gw_868 : (Jvm.Cond.instanceMethod ({ cls := "Grammarsmith", name := "use", desc := "(I)I" } : Jvm.MethodName)) ∈ gx_tb := gx_ok (List.mem_of_getElem? (i := 868) (by decide +kernel)) (by decide +kernel)
theorem gw_869 : (Jvm.Cond.selects "Grammarsmith" ({ cls := "Grammarsmith", name := "use", desc := "(I)I" } : Jvm.MethodName) ({ cls := "Grammarsmith", name := "use", desc := "(I)I" } : Jvm.MethodName)) ∈ gx_tb := gx_ok (List.mem_of_getElem? (i := 869) (by decide +kernel)) (by decide +kernel)
theorem gw_887 : (Jvm.Cond.methodLink "GrammarsmithLaw" (166 : Nat) ({ cls := "GrammarsmithLaw", name := "start", desc := "(LGrammarsmith;I)I" } : Jvm.MethodName)) ∈ gx_tb := gx_ok (List.mem_of_getElem? (i := 887) (by decide +kernel)) (by decide +kernel)
theorem gw_888 : (Jvm.Cond.static ({ cls := "GrammarsmithLaw", name := "start", desc := "(LGrammarsmith;I)I" } : Jvm.MethodName)) ∈ gx_tb := gx_ok (List.mem_of_getElem? (i := 888) (by decide +kernel)) (by decide +kernel)
theorem gw_890 : (Jvm.Cond.methodLink "GrammarsmithLaw" (35 : Nat) ({ cls := "Grammarsmith", name := "start", desc := "(I)I" } : Jvm.MethodName)) ∈ gx_tb := gx_ok (List.mem_of_getElem? (i := 890) (by decide +kernel)) (by decide +kernel)
theorem gw_891 : (Jvm.Cond.instanceMethod ({ cls := "Grammarsmith", name := "start", desc := "(I)I" } : Jvm.MethodName)) ∈ gx_tb := gx_ok (List.mem_of_getElem? (i := 891) (by decide +kernel)) (by decide +kernel)
theorem gw_892 : (Jvm.Cond.selects "Grammarsmith" ({ cls := "Grammarsmith", name := "start", desc := "(I)I" } : Jvm.MethodName) ({ cls := "Grammarsmith", name := "start", desc := "(I)I" } : Jvm.MethodName)) ∈ gx_tb := gx_ok (List.mem_of_getElem? (i := 892) (by decide +kernel)) (by decide +kernel)
theorem gw_895 : (Jvm.Cond.methodLink "Grammarsmith" (176 : Nat) ({ cls := "Grammarsmith$Grammar", name := "setTop", desc := "(I)V" } : Jvm.MethodName)) ∈ gx_tb := gx_ok (List.mem_of_getElem? (i := 895) (by decide +kernel)) (by decide +kernel)
theorem gw_896 : (Jvm.Cond.instanceMethod ({ cls := "Grammarsmith$Grammar", name := "setTop", desc := "(I)V" } : Jvm.MethodName)) ∈ gx_tb := gx_ok (List.mem_of_getElem? (i := 896) (by decide +kernel)) (by decide +kernel)
theorem gw_897 : (Jvm.Cond.selects "Grammarsmith$Grammar" ({ cls := "Grammarsmith$Grammar", name := "setTop", desc := "(I)V" } : Jvm.MethodName) ({ cls := "Grammarsmith$Grammar", name := "setTop", desc := "(I)V" } : Jvm.MethodName)) ∈ gx_tb := gx_ok (List.mem_of_getElem? (i := 897) (by decide +kernel)) (by decide +kernel)
theorem gw_899 : (Jvm.Cond.methodLink "GrammarsmithLaw" (168 : Nat) ({ cls := "GrammarsmithLaw", name := "level", desc := "(LGrammarsmith;III)I" } : Jvm.MethodName)) ∈ gx_tb := gx_ok (List.mem_of_getElem? (i := 899) (by decide +kernel)) (by decide +kernel)
theorem gw_9 : (Jvm.Cond.initialized "Grammarsmith$PredictiveTable") ∈ gx_tb := gx_ok (List.mem_of_getElem? (i := 9) (by decide +kernel)) (by decide +kernel)
theorem gw_900 : (Jvm.Cond.static ({ cls := "GrammarsmithLaw", name := "level", desc := "(LGrammarsmith;III)I" } : Jvm.MethodName)) ∈ gx_tb := gx_ok (List.mem_of_getElem? (i := 900) (by decide +kernel)) (by decide +kernel)
theorem gw_902 : (Jvm.Cond.methodLink "GrammarsmithLaw" (38 : Nat) ({ cls := "Grammarsmith", name := "level", desc := "(III)I" } : Jvm.MethodName)) ∈ gx_tb := gx_ok (List.mem_of_getElem? (i := 902) (by decide +kernel)) (by decide +kernel)
theorem gw_903 : (Jvm.Cond.instanceMethod ({ cls := "Grammarsmith", name := "level", desc := "(III)I" } : Jvm.MethodName)) ∈ gx_tb := gx_ok (List.mem_of_getElem? (i := 903) (by decide +kernel)) (by decide +kernel)
theorem gw_904 : (Jvm.Cond.selects "Grammarsmith" ({ cls := "Grammarsmith", name := "level", desc := "(III)I" } : Jvm.MethodName) ({ cls := "Grammarsmith", name := "level", desc := "(III)I" } : Jvm.MethodName)) ∈ gx_tb := gx_ok (List.mem_of_getElem? (i := 904) (by decide +kernel)) (by decide +kernel)
theorem gw_906 : (Jvm.Cond.methodLink "Grammarsmith" (180 : Nat) ({ cls := "Grammarsmith", name := "isTerminal", desc := "(I)Z" } : Jvm.MethodName)) ∈ gx_tb := gx_ok (List.mem_of_getElem? (i := 906) (by decide +kernel)) (by decide +kernel)
theorem gw_909 : (Jvm.Cond.methodLink "GrammarsmithLaw" (158 : Nat) ({ cls := "GrammarsmithLaw", name := "left", desc := "(LGrammarsmith;I)I" } : Jvm.MethodName)) ∈ gx_tb := gx_ok (List.mem_of_getElem? (i := 909) (by decide +kernel)) (by decide +kernel)
theorem gw_910 : (Jvm.Cond.static ({ cls := "GrammarsmithLaw", name := "left", desc := "(LGrammarsmith;I)I" } : Jvm.MethodName)) ∈ gx_tb := gx_ok (List.mem_of_getElem? (i := 910) (by decide +kernel)) (by decide +kernel)
theorem gw_912 : (Jvm.Cond.methodLink "GrammarsmithLaw" (42 : Nat) ({ cls := "Grammarsmith", name := "left", desc := "(I)I" } : Jvm.MethodName)) ∈ gx_tb := gx_ok (List.mem_of_getElem? (i := 912) (by decide +kernel)) (by decide +kernel)
theorem gw_913 : (Jvm.Cond.instanceMethod ({ cls := "Grammarsmith", name := "left", desc := "(I)I" } : Jvm.MethodName)) ∈ gx_tb := gx_ok (List.mem_of_getElem? (i := 913) (by decide +kernel)) (by decide +kernel)
theorem gw_914 : (Jvm.Cond.selects "Grammarsmith" ({ cls := "Grammarsmith", name := "left", desc := "(I)I" } : Jvm.MethodName) ({ cls := "Grammarsmith", name := "left", desc := "(I)I" } : Jvm.MethodName)) ∈ gx_tb := gx_ok (List.mem_of_getElem? (i := 914) (by decide +kernel)) (by decide +kernel)
theorem gw_917 : (Jvm.Cond.methodLink "Grammarsmith" (190 : Nat) ({ cls := "Grammarsmith$Grammar", name := "owner", desc := "(I)I" } : Jvm.MethodName)) ∈ gx_tb := gx_ok (List.mem_of_getElem? (i := 917) (by decide +kernel)) (by decide +kernel)
theorem gw_918 : (Jvm.Cond.methodLink "GrammarsmithLaw" (186 : Nat) ({ cls := "GrammarsmithLaw", name := "right", desc := "(LGrammarsmith;II)I" } : Jvm.MethodName)) ∈ gx_tb := gx_ok (List.mem_of_getElem? (i := 918) (by decide +kernel)) (by decide +kernel)
theorem gw_919 : (Jvm.Cond.static ({ cls := "GrammarsmithLaw", name := "right", desc := "(LGrammarsmith;II)I" } : Jvm.MethodName)) ∈ gx_tb := gx_ok (List.mem_of_getElem? (i := 919) (by decide +kernel)) (by decide +kernel)
theorem gw_921 : (Jvm.Cond.methodLink "GrammarsmithLaw" (45 : Nat) ({ cls := "Grammarsmith", name := "right", desc := "(II)I" } : Jvm.MethodName)) ∈ gx_tb := gx_ok (List.mem_of_getElem? (i := 921) (by decide +kernel)) (by decide +kernel)
theorem gw_922 : (Jvm.Cond.instanceMethod ({ cls := "Grammarsmith", name := "right", desc := "(II)I" } : Jvm.MethodName)) ∈ gx_tb := gx_ok (List.mem_of_getElem? (i := 922) (by decide +kernel)) (by decide +kernel)
theorem gw_923 : (Jvm.Cond.selects "Grammarsmith" ({ cls := "Grammarsmith", name := "right", desc := "(II)I" } : Jvm.MethodName) ({ cls := "Grammarsmith", name := "right", desc := "(II)I" } : Jvm.MethodName)) ∈ gx_tb := gx_ok (List.mem_of_getElem? (i := 923) (by decide +kernel)) (by decide +kernel)
theorem gw_926 : (Jvm.Cond.methodLink "Grammarsmith" (196 : Nat) ({ cls := "Grammarsmith$Grammar", name := "symbol", desc := "(II)I" } : Jvm.MethodName)) ∈ gx_tb := gx_ok (List.mem_of_getElem? (i := 926) (by decide +kernel)) (by decide +kernel)
theorem gw_927 : (Jvm.Cond.methodLink "GrammarsmithLaw" (171 : Nat) ({ cls := "GrammarsmithLaw", name := "put", desc := "(LGrammarsmith;II)I" } : Jvm.MethodName)) ∈ gx_tb := gx_ok (List.mem_of_getElem? (i := 927) (by decide +kernel)) (by decide +kernel)
theorem gw_928 : (Jvm.Cond.static ({ cls := "GrammarsmithLaw", name := "put", desc := "(LGrammarsmith;II)I" } : Jvm.MethodName)) ∈ gx_tb := gx_ok (List.mem_of_getElem? (i := 928) (by decide +kernel)) (by decide +kernel)
theorem gw_930 : (Jvm.Cond.methodLink "GrammarsmithLaw" (80 : Nat) ({ cls := "Grammarsmith", name := "put", desc := "(II)I" } : Jvm.MethodName)) ∈ gx_tb := gx_ok (List.mem_of_getElem? (i := 930) (by decide +kernel)) (by decide +kernel)
theorem gw_931 : (Jvm.Cond.instanceMethod ({ cls := "Grammarsmith", name := "put", desc := "(II)I" } : Jvm.MethodName)) ∈ gx_tb := gx_ok (List.mem_of_getElem? (i := 931) (by decide +kernel)) (by decide +kernel)
theorem gw_932 : (Jvm.Cond.selects "Grammarsmith" ({ cls := "Grammarsmith", name := "put", desc := "(II)I" } : Jvm.MethodName) ({ cls := "Grammarsmith", name := "put", desc := "(II)I" } : Jvm.MethodName)) ∈ gx_tb := gx_ok (List.mem_of_getElem? (i := 932) (by decide +kernel)) (by decide +kernel)
theorem gw_936 : (Jvm.Cond.methodLink "GrammarsmithLaw" (173 : Nat) ({ cls := "GrammarsmithLaw", name := "cut", desc := "(LGrammarsmith;I)I" } : Jvm.MethodName)) ∈ gx_tb := gx_ok (List.mem_of_getElem? (i := 936) (by decide +kernel)) (by decide +kernel)
theorem gw_937 : (Jvm.Cond.static ({ cls := "GrammarsmithLaw", name := "cut", desc := "(LGrammarsmith;I)I" } : Jvm.MethodName)) ∈ gx_tb := gx_ok (List.mem_of_getElem? (i := 937) (by decide +kernel)) (by decide +kernel)
theorem gw_939 : (Jvm.Cond.methodLink "GrammarsmithLaw" (83 : Nat) ({ cls := "Grammarsmith", name := "cut", desc := "(I)I" } : Jvm.MethodName)) ∈ gx_tb := gx_ok (List.mem_of_getElem? (i := 939) (by decide +kernel)) (by decide +kernel)
theorem gw_940 : (Jvm.Cond.instanceMethod ({ cls := "Grammarsmith", name := "cut", desc := "(I)I" } : Jvm.MethodName)) ∈ gx_tb := gx_ok (List.mem_of_getElem? (i := 940) (by decide +kernel)) (by decide +kernel)
theorem gw_941 : (Jvm.Cond.selects "Grammarsmith" ({ cls := "Grammarsmith", name := "cut", desc := "(I)I" } : Jvm.MethodName) ({ cls := "Grammarsmith", name := "cut", desc := "(I)I" } : Jvm.MethodName)) ∈ gx_tb := gx_ok (List.mem_of_getElem? (i := 941) (by decide +kernel)) (by decide +kernel)
theorem gw_944 : (Jvm.Cond.methodLink "GrammarsmithLaw" (145 : Nat) ({ cls := "GrammarsmithLaw", name := "types", desc := "(LGrammarsmith;[II)Z" } : Jvm.MethodName)) ∈ gx_tb := gx_ok (List.mem_of_getElem? (i := 944) (by decide +kernel)) (by decide +kernel)
theorem gw_945 : (Jvm.Cond.static ({ cls := "GrammarsmithLaw", name := "types", desc := "(LGrammarsmith;[II)Z" } : Jvm.MethodName)) ∈ gx_tb := gx_ok (List.mem_of_getElem? (i := 945) (by decide +kernel)) (by decide +kernel)
theorem gw_947 : (Jvm.Cond.methodLink "GrammarsmithLaw" (92 : Nat) ({ cls := "Grammarsmith", name := "wipe", desc := "()I" } : Jvm.MethodName)) ∈ gx_tb := gx_ok (List.mem_of_getElem? (i := 947) (by decide +kernel)) (by decide +kernel)
theorem gw_948 : (Jvm.Cond.instanceMethod ({ cls := "Grammarsmith", name := "wipe", desc := "()I" } : Jvm.MethodName)) ∈ gx_tb := gx_ok (List.mem_of_getElem? (i := 948) (by decide +kernel)) (by decide +kernel)
theorem gw_949 : (Jvm.Cond.selects "Grammarsmith" ({ cls := "Grammarsmith", name := "wipe", desc := "()I" } : Jvm.MethodName) ({ cls := "Grammarsmith", name := "wipe", desc := "()I" } : Jvm.MethodName)) ∈ gx_tb := gx_ok (List.mem_of_getElem? (i := 949) (by decide +kernel)) (by decide +kernel)
theorem gw_951 : (Jvm.Cond.methodLink "Grammarsmith" (125 : Nat) ({ cls := "Grammarsmith$RuleText", name := "clear", desc := "()I" } : Jvm.MethodName)) ∈ gx_tb := gx_ok (List.mem_of_getElem? (i := 951) (by decide +kernel)) (by decide +kernel)
theorem gw_952 : (Jvm.Cond.instanceMethod ({ cls := "Grammarsmith$RuleText", name := "clear", desc := "()I" } : Jvm.MethodName)) ∈ gx_tb := gx_ok (List.mem_of_getElem? (i := 952) (by decide +kernel)) (by decide +kernel)
theorem gw_953 : (Jvm.Cond.selects "Grammarsmith$RuleText" ({ cls := "Grammarsmith$RuleText", name := "clear", desc := "()I" } : Jvm.MethodName) ({ cls := "Grammarsmith$RuleText", name := "clear", desc := "()I" } : Jvm.MethodName)) ∈ gx_tb := gx_ok (List.mem_of_getElem? (i := 953) (by decide +kernel)) (by decide +kernel)
theorem gw_955 : (Jvm.Cond.methodLink "GrammarsmithLaw" (141 : Nat) ({ cls := "GrammarsmithLaw", name := "draws", desc := "([I[III)I" } : Jvm.MethodName)) ∈ gx_tb := gx_ok (List.mem_of_getElem? (i := 955) (by decide +kernel)) (by decide +kernel)
theorem gw_956 : (Jvm.Cond.static ({ cls := "GrammarsmithLaw", name := "draws", desc := "([I[III)I" } : Jvm.MethodName)) ∈ gx_tb := gx_ok (List.mem_of_getElem? (i := 956) (by decide +kernel)) (by decide +kernel)
theorem gw_958 : (Jvm.Cond.methodLink "GrammarsmithLaw" (104 : Nat) ({ cls := "GrammarsmithLaw", name := "letter", desc := "(I)I" } : Jvm.MethodName)) ∈ gx_tb := gx_ok (List.mem_of_getElem? (i := 958) (by decide +kernel)) (by decide +kernel)
theorem gw_959 : (Jvm.Cond.static ({ cls := "GrammarsmithLaw", name := "letter", desc := "(I)I" } : Jvm.MethodName)) ∈ gx_tb := gx_ok (List.mem_of_getElem? (i := 959) (by decide +kernel)) (by decide +kernel)
theorem gw_961 : (Jvm.Cond.methodLink "GrammarsmithLaw" (175 : Nat) ({ cls := "GrammarsmithLaw", name := "tables", desc := "(LGrammarsmith;)Z" } : Jvm.MethodName)) ∈ gx_tb := gx_ok (List.mem_of_getElem? (i := 961) (by decide +kernel)) (by decide +kernel)
theorem gw_962 : (Jvm.Cond.static ({ cls := "GrammarsmithLaw", name := "tables", desc := "(LGrammarsmith;)Z" } : Jvm.MethodName)) ∈ gx_tb := gx_ok (List.mem_of_getElem? (i := 962) (by decide +kernel)) (by decide +kernel)
theorem gw_964 : (Jvm.Cond.methodLink "GrammarsmithLaw" (107 : Nat) ({ cls := "GrammarsmithLaw", name := "size", desc := "(LGrammarsmith;I)I" } : Jvm.MethodName)) ∈ gx_tb := gx_ok (List.mem_of_getElem? (i := 964) (by decide +kernel)) (by decide +kernel)
theorem gw_965 : (Jvm.Cond.static ({ cls := "GrammarsmithLaw", name := "size", desc := "(LGrammarsmith;I)I" } : Jvm.MethodName)) ∈ gx_tb := gx_ok (List.mem_of_getElem? (i := 965) (by decide +kernel)) (by decide +kernel)
theorem gw_967 : (Jvm.Cond.methodLink "GrammarsmithLaw" (71 : Nat) ({ cls := "Grammarsmith", name := "size", desc := "(I)I" } : Jvm.MethodName)) ∈ gx_tb := gx_ok (List.mem_of_getElem? (i := 967) (by decide +kernel)) (by decide +kernel)
theorem gw_968 : (Jvm.Cond.instanceMethod ({ cls := "Grammarsmith", name := "size", desc := "(I)I" } : Jvm.MethodName)) ∈ gx_tb := gx_ok (List.mem_of_getElem? (i := 968) (by decide +kernel)) (by decide +kernel)
theorem gw_969 : (Jvm.Cond.selects "Grammarsmith" ({ cls := "Grammarsmith", name := "size", desc := "(I)I" } : Jvm.MethodName) ({ cls := "Grammarsmith", name := "size", desc := "(I)I" } : Jvm.MethodName)) ∈ gx_tb := gx_ok (List.mem_of_getElem? (i := 969) (by decide +kernel)) (by decide +kernel)
theorem gw_97 : (Jvm.Cond.methodLink "Grammarsmith" (19 : Nat) ({ cls := "java/util/Arrays", name := "fill", desc := "([II)V" } : Jvm.MethodName)) ∈ gx_tb := gx_ok (List.mem_of_getElem? (i := 97) (by decide +kernel)) (by decide +kernel)
theorem gw_971 : (Jvm.Cond.methodLink "Grammarsmith" (234 : Nat) ({ cls := "Grammarsmith", name := "requireKind", desc := "(I)V" } : Jvm.MethodName)) ∈ gx_tb := gx_ok (List.mem_of_getElem? (i := 971) (by decide +kernel)) (by decide +kernel)
theorem gw_972 : (Jvm.Cond.static ({ cls := "Grammarsmith", name := "requireKind", desc := "(I)V" } : Jvm.MethodName)) ∈ gx_tb := gx_ok (List.mem_of_getElem? (i := 972) (by decide +kernel)) (by decide +kernel)
theorem gw_975 : (Jvm.Cond.methodLink "Grammarsmith" (237 : Nat) ({ cls := "Grammarsmith", name := "table", desc := "(I)LGrammarsmith$Table;" } : Jvm.MethodName)) ∈ gx_tb := gx_ok (List.mem_of_getElem? (i := 975) (by decide +kernel)) (by decide +kernel)
theorem gw_977 : (Jvm.Cond.instanceMethod ({ cls := "Grammarsmith", name := "table", desc := "(I)LGrammarsmith$Table;" } : Jvm.MethodName)) ∈ gx_tb := gx_ok (List.mem_of_getElem? (i := 977) (by decide +kernel)) (by decide +kernel)
theorem gw_979 : (Jvm.Cond.methodLink "Grammarsmith" (275 : Nat) ({ cls := "Grammarsmith$Automaton", name := "build", desc := "()V" } : Jvm.MethodName)) ∈ gx_tb := gx_ok (List.mem_of_getElem? (i := 979) (by decide +kernel)) (by decide +kernel)
theorem gw_98 : (Jvm.Cond.static ({ cls := "java/util/Arrays", name := "fill", desc := "([II)V" } : Jvm.MethodName)) ∈ gx_tb := gx_ok (List.mem_of_getElem? (i := 98) (by decide +kernel)) (by decide +kernel)
theorem gw_980 : (Jvm.Cond.instanceMethod ({ cls := "Grammarsmith$Automaton", name := "build", desc := "()V" } : Jvm.MethodName)) ∈ gx_tb := gx_ok (List.mem_of_getElem? (i := 980) (by decide +kernel)) (by decide +kernel)
theorem gw_981 : (Jvm.Cond.selects "Grammarsmith$Automaton" ({ cls := "Grammarsmith$Automaton", name := "build", desc := "()V" } : Jvm.MethodName) ({ cls := "Grammarsmith$Automaton", name := "build", desc := "()V" } : Jvm.MethodName)) ∈ gx_tb := gx_ok (List.mem_of_getElem? (i := 981) (by decide +kernel)) (by decide +kernel)
theorem gw_983 : (Jvm.Cond.methodLink "Grammarsmith$Automaton" (46 : Nat) ({ cls := "java/util/Arrays", name := "fill", desc := "([II)V" } : Jvm.MethodName)) ∈ gx_tb := gx_ok (List.mem_of_getElem? (i := 983) (by decide +kernel)) (by decide +kernel)
theorem gw_984 : (Jvm.Cond.methodLink "Grammarsmith$Automaton" (52 : Nat) ({ cls := "Grammarsmith$Automaton", name := "addState", desc := "(I)I" } : Jvm.MethodName)) ∈ gx_tb := gx_ok (List.mem_of_getElem? (i := 984) (by decide +kernel)) (by decide +kernel)
theorem gw_986 : (Jvm.Cond.instanceMethod ({ cls := "Grammarsmith$Automaton", name := "addState", desc := "(I)I" } : Jvm.MethodName)) ∈ gx_tb := gx_ok (List.mem_of_getElem? (i := 986) (by decide +kernel)) (by decide +kernel)
theorem gw_988 : (Jvm.Cond.constant "Grammarsmith$Automaton" (56 : Nat) (1000000 : Int32)) ∈ gx_tb := gx_ok (List.mem_of_getElem? (i := 988) (by decide +kernel)) (by decide +kernel)
theorem gw_989 : (Jvm.Cond.methodLink "Grammarsmith$Automaton" (57 : Nat) ({ cls := "Grammarsmith$Automaton", name := "complete", desc := "(I)V" } : Jvm.MethodName)) ∈ gx_tb := gx_ok (List.mem_of_getElem? (i := 989) (by decide +kernel)) (by decide +kernel)
theorem gw_991 : (Jvm.Cond.instanceMethod ({ cls := "Grammarsmith$Automaton", name := "complete", desc := "(I)V" } : Jvm.MethodName)) ∈ gx_tb := gx_ok (List.mem_of_getElem? (i := 991) (by decide +kernel)) (by decide +kernel)
theorem gw_993 : (Jvm.Cond.methodLink "Grammarsmith$Automaton" (64 : Nat) ({ cls := "Grammarsmith$Automaton", name := "row", desc := "(II)I" } : Jvm.MethodName)) ∈ gx_tb := gx_ok (List.mem_of_getElem? (i := 993) (by decide +kernel)) (by decide +kernel)
theorem gw_994 : (Jvm.Cond.instanceMethod ({ cls := "Grammarsmith$Automaton", name := "row", desc := "(II)I" } : Jvm.MethodName)) ∈ gx_tb := gx_ok (List.mem_of_getElem? (i := 994) (by decide +kernel)) (by decide +kernel)
theorem gw_995 : (Jvm.Cond.selects "Grammarsmith$Automaton" ({ cls := "Grammarsmith$Automaton", name := "row", desc := "(II)I" } : Jvm.MethodName) ({ cls := "Grammarsmith$Automaton", name := "row", desc := "(II)I" } : Jvm.MethodName)) ∈ gx_tb := gx_ok (List.mem_of_getElem? (i := 995) (by decide +kernel)) (by decide +kernel)
theorem gw_997 : (Jvm.Cond.methodLink "Grammarsmith$Automaton" (68 : Nat) ({ cls := "Grammarsmith$Facts", name := "front", desc := "(I)I" } : Jvm.MethodName)) ∈ gx_tb := gx_ok (List.mem_of_getElem? (i := 997) (by decide +kernel)) (by decide +kernel)
theorem gw_998 : (Jvm.Cond.instanceMethod ({ cls := "Grammarsmith$Facts", name := "front", desc := "(I)I" } : Jvm.MethodName)) ∈ gx_tb := gx_ok (List.mem_of_getElem? (i := 998) (by decide +kernel)) (by decide +kernel)
theorem gw_999 : (Jvm.Cond.selects "Grammarsmith$Facts" ({ cls := "Grammarsmith$Facts", name := "front", desc := "(I)I" } : Jvm.MethodName) ({ cls := "Grammarsmith$Facts", name := "front", desc := "(I)I" } : Jvm.MethodName)) ∈ gx_tb := gx_ok (List.mem_of_getElem? (i := 999) (by decide +kernel)) (by decide +kernel)
theorem gz_0_fill : Cond.selects "Grammarsmith$CountingChart" (⟨"Grammarsmith$Chart", "fill", "(II)V"⟩ : MethodName) ⟨"Grammarsmith$Chart", "fill", "(II)V"⟩ ∈ gx_tb := gx_okx (by decide +kernel) (by decide +kernel)
theorem gz_0_ofProduction : Cond.selects "Grammarsmith$CountingChart" (⟨"Grammarsmith$Chart", "ofProduction", "(III)I"⟩ : MethodName) ⟨"Grammarsmith$Chart", "ofProduction", "(III)I"⟩ ∈ gx_tb := gx_okx (by decide +kernel) (by decide +kernel)
theorem gz_0_part : Cond.selects "Grammarsmith$CountingChart" (⟨"Grammarsmith$Chart", "part", "(III)I"⟩ : MethodName) ⟨"Grammarsmith$Chart", "part", "(III)I"⟩ ∈ gx_tb := gx_okx (by decide +kernel) (by decide +kernel)
theorem gz_0_refine : Cond.selects "Grammarsmith$CountingChart" (⟨"Grammarsmith$Chart", "refine", "(II)Z"⟩ : MethodName) ⟨"Grammarsmith$Chart", "refine", "(II)Z"⟩ ∈ gx_tb := gx_okx (by decide +kernel) (by decide +kernel)
theorem gz_0_setPart : Cond.selects "Grammarsmith$CountingChart" (⟨"Grammarsmith$Chart", "setPart", "(IIII)V"⟩ : MethodName) ⟨"Grammarsmith$Chart", "setPart", "(IIII)V"⟩ ∈ gx_tb := gx_okx (by decide +kernel) (by decide +kernel)
theorem gz_0_setWhole : Cond.selects "Grammarsmith$CountingChart" (⟨"Grammarsmith$Chart", "setWhole", "(IIII)V"⟩ : MethodName) ⟨"Grammarsmith$Chart", "setWhole", "(IIII)V"⟩ ∈ gx_tb := gx_okx (by decide +kernel) (by decide +kernel)
theorem gz_0_whole : Cond.selects "Grammarsmith$CountingChart" (⟨"Grammarsmith$Chart", "whole", "(III)I"⟩ : MethodName) ⟨"Grammarsmith$Chart", "whole", "(III)I"⟩ ∈ gx_tb := gx_okx (by decide +kernel) (by decide +kernel)
theorem gz_1_fill : Cond.selects "Grammarsmith$RepairingChart" (⟨"Grammarsmith$Chart", "fill", "(II)V"⟩ : MethodName) ⟨"Grammarsmith$Chart", "fill", "(II)V"⟩ ∈ gx_tb := gx_okx (by decide +kernel) (by decide +kernel)
theorem gz_1_ofProduction : Cond.selects "Grammarsmith$RepairingChart" (⟨"Grammarsmith$Chart", "ofProduction", "(III)I"⟩ : MethodName) ⟨"Grammarsmith$Chart", "ofProduction", "(III)I"⟩ ∈ gx_tb := gx_okx (by decide +kernel) (by decide +kernel)
theorem gz_1_part : Cond.selects "Grammarsmith$RepairingChart" (⟨"Grammarsmith$Chart", "part", "(III)I"⟩ : MethodName) ⟨"Grammarsmith$Chart", "part", "(III)I"⟩ ∈ gx_tb := gx_okx (by decide +kernel) (by decide +kernel)
theorem gz_1_refine : Cond.selects "Grammarsmith$RepairingChart" (⟨"Grammarsmith$Chart", "refine", "(II)Z"⟩ : MethodName) ⟨"Grammarsmith$Chart", "refine", "(II)Z"⟩ ∈ gx_tb := gx_okx (by decide +kernel) (by decide +kernel)
theorem gz_1_setPart : Cond.selects "Grammarsmith$RepairingChart" (⟨"Grammarsmith$Chart", "setPart", "(IIII)V"⟩ : MethodName) ⟨"Grammarsmith$Chart", "setPart", "(IIII)V"⟩ ∈ gx_tb := gx_okx (by decide +kernel) (by decide +kernel)
theorem gz_1_setWhole : Cond.selects "Grammarsmith$RepairingChart" (⟨"Grammarsmith$Chart", "setWhole", "(IIII)V"⟩ : MethodName) ⟨"Grammarsmith$Chart", "setWhole", "(IIII)V"⟩ ∈ gx_tb := gx_okx (by decide +kernel) (by decide +kernel)
theorem gz_1_whole : Cond.selects "Grammarsmith$RepairingChart" (⟨"Grammarsmith$Chart", "whole", "(III)I"⟩ : MethodName) ⟨"Grammarsmith$Chart", "whole", "(III)I"⟩ ∈ gx_tb := gx_okx (by decide +kernel) (by decide +kernel)
theorem gf_RX11_12_9_0 : gx_fl0 RX11 12 9 0 ∈ gx_tb := gx_ok (List.mem_of_getElem? (i := 300) (by decide +kernel)) (by decide +kernel)
theorem gf_RX11_35_9_1 : gx_fl0 RX11 35 9 1 ∈ gx_tb := gx_ok (List.mem_of_getElem? (i := 301) (by decide +kernel)) (by decide +kernel)
theorem gf_RX11_39_9_2 : gx_fl0 RX11 39 9 2 ∈ gx_tb := gx_ok (List.mem_of_getElem? (i := 302) (by decide +kernel)) (by decide +kernel)
theorem gf_RX11_42_9_4 : gx_fl0 RX11 42 9 4 ∈ gx_tb := gx_ok (List.mem_of_getElem? (i := 304) (by decide +kernel)) (by decide +kernel)
theorem gf_RX11_46_9_5 : gx_fl0 RX11 46 9 5 ∈ gx_tb := gx_ok (List.mem_of_getElem? (i := 305) (by decide +kernel)) (by decide +kernel)
theorem gf_RX11_49_9_6 : gx_fl0 RX11 49 9 6 ∈ gx_tb := gx_ok (List.mem_of_getElem? (i := 306) (by decide +kernel)) (by decide +kernel)
theorem gf_RX11_52_9_8 : gx_fl0 RX11 52 9 8 ∈ gx_tb := gx_ok (List.mem_of_getElem? (i := 308) (by decide +kernel)) (by decide +kernel)
theorem gf_RX11_56_9_9 : gx_fl0 RX11 56 9 9 ∈ gx_tb := gx_ok (List.mem_of_getElem? (i := 309) (by decide +kernel)) (by decide +kernel)
theorem gf_RX11_60_9_10 : gx_fl0 RX11 60 9 10 ∈ gx_tb := gx_ok (List.mem_of_getElem? (i := 310) (by decide +kernel)) (by decide +kernel)
theorem gf_RX11_68_9_11 : gx_fl0 RX11 68 9 11 ∈ gx_tb := gx_ok (List.mem_of_getElem? (i := 311) (by decide +kernel)) (by decide +kernel)
theorem gf_RX11_77_9_12 : gx_fl0 RX11 77 9 12 ∈ gx_tb := gx_ok (List.mem_of_getElem? (i := 312) (by decide +kernel)) (by decide +kernel)
theorem gf_RX11_80_9_13 : gx_fl0 RX11 80 9 13 ∈ gx_tb := gx_ok (List.mem_of_getElem? (i := 313) (by decide +kernel)) (by decide +kernel)
theorem gf_RX11_83_9_14 : gx_fl0 RX11 83 9 14 ∈ gx_tb := gx_ok (List.mem_of_getElem? (i := 314) (by decide +kernel)) (by decide +kernel)
theorem gf_RX11_91_9_15 : gx_fl0 RX11 91 9 15 ∈ gx_tb := gx_ok (List.mem_of_getElem? (i := 315) (by decide +kernel)) (by decide +kernel)
theorem gf_RX11_98_9_16 : gx_fl0 RX11 98 9 16 ∈ gx_tb := gx_ok (List.mem_of_getElem? (i := 316) (by decide +kernel)) (by decide +kernel)
theorem gf_RX11_156_9_3 : gx_fl0 RX11 156 9 3 ∈ gx_tb := gx_ok (List.mem_of_getElem? (i := 303) (by decide +kernel)) (by decide +kernel)
theorem gf_RX11_252_9_7 : gx_fl0 RX11 252 9 7 ∈ gx_tb := gx_ok (List.mem_of_getElem? (i := 307) (by decide +kernel)) (by decide +kernel)
theorem gf_RX0_9_0_5 : gx_fl0 RX0 9 0 5 ∈ gx_tb := gx_ok (List.mem_of_getElem? (i := 161) (by decide +kernel)) (by decide +kernel)
theorem gf_RX0_15_0_6 : gx_fl0 RX0 15 0 6 ∈ gx_tb := gx_ok (List.mem_of_getElem? (i := 162) (by decide +kernel)) (by decide +kernel)
theorem gf_RX0_18_0_7 : gx_fl0 RX0 18 0 7 ∈ gx_tb := gx_ok (List.mem_of_getElem? (i := 163) (by decide +kernel)) (by decide +kernel)
theorem gf_RX0_21_0_8 : gx_fl0 RX0 21 0 8 ∈ gx_tb := gx_ok (List.mem_of_getElem? (i := 164) (by decide +kernel)) (by decide +kernel)
theorem gf_RX0_25_0_9 : gx_fl0 RX0 25 0 9 ∈ gx_tb := gx_ok (List.mem_of_getElem? (i := 165) (by decide +kernel)) (by decide +kernel)
theorem gf_RX0_28_0_0 : gx_fl0 RX0 28 0 0 ∈ gx_tb := gx_ok (List.mem_of_getElem? (i := 156) (by decide +kernel)) (by decide +kernel)
theorem gf_RX0_32_0_1 : gx_fl0 RX0 32 0 1 ∈ gx_tb := gx_ok (List.mem_of_getElem? (i := 157) (by decide +kernel)) (by decide +kernel)
theorem gf_RX0_36_0_2 : gx_fl0 RX0 36 0 2 ∈ gx_tb := gx_ok (List.mem_of_getElem? (i := 158) (by decide +kernel)) (by decide +kernel)
theorem gf_RX0_39_0_3 : gx_fl0 RX0 39 0 3 ∈ gx_tb := gx_ok (List.mem_of_getElem? (i := 159) (by decide +kernel)) (by decide +kernel)
theorem gf_RX0_42_0_4 : gx_fl0 RX0 42 0 4 ∈ gx_tb := gx_ok (List.mem_of_getElem? (i := 160) (by decide +kernel)) (by decide +kernel)
theorem gf_RX1_9_1_4 : gx_fl0 RX1 9 1 4 ∈ gx_tb := gx_ok (List.mem_of_getElem? (i := 276) (by decide +kernel)) (by decide +kernel)
theorem gf_RX1_9_5_4 : gx_fl0 RX1 9 5 4 ∈ gx_tb := gx_ok (List.mem_of_getElem? (i := 276) (by decide +kernel)) (by decide +kernel)
theorem gf_RX1_15_1_0 : gx_fl0 RX1 15 1 0 ∈ gx_tb := gx_ok (List.mem_of_getElem? (i := 272) (by decide +kernel)) (by decide +kernel)
theorem gf_RX1_15_5_0 : gx_fl0 RX1 15 5 0 ∈ gx_tb := gx_ok (List.mem_of_getElem? (i := 272) (by decide +kernel)) (by decide +kernel)
theorem gf_RX1_19_1_1 : gx_fl0 RX1 19 1 1 ∈ gx_tb := gx_ok (List.mem_of_getElem? (i := 273) (by decide +kernel)) (by decide +kernel)
theorem gf_RX1_19_5_1 : gx_fl0 RX1 19 5 1 ∈ gx_tb := gx_ok (List.mem_of_getElem? (i := 273) (by decide +kernel)) (by decide +kernel)
theorem gf_RX1_22_1_2 : gx_fl0 RX1 22 1 2 ∈ gx_tb := gx_ok (List.mem_of_getElem? (i := 274) (by decide +kernel)) (by decide +kernel)
theorem gf_RX1_22_5_2 : gx_fl0 RX1 22 5 2 ∈ gx_tb := gx_ok (List.mem_of_getElem? (i := 274) (by decide +kernel)) (by decide +kernel)
theorem gf_RX1_25_1_3 : gx_fl0 RX1 25 1 3 ∈ gx_tb := gx_ok (List.mem_of_getElem? (i := 275) (by decide +kernel)) (by decide +kernel)
theorem gf_RX1_25_5_3 : gx_fl0 RX1 25 5 3 ∈ gx_tb := gx_ok (List.mem_of_getElem? (i := 275) (by decide +kernel)) (by decide +kernel)
theorem gf_RX3_9_2_5 : gx_fl0 RX3 9 2 5 ∈ gx_tb := gx_ok (List.mem_of_getElem? (i := 111) (by decide +kernel)) (by decide +kernel)
theorem gf_RX3_15_2_6 : gx_fl0 RX3 15 2 6 ∈ gx_tb := gx_ok (List.mem_of_getElem? (i := 112) (by decide +kernel)) (by decide +kernel)
theorem gf_RX3_18_2_7 : gx_fl0 RX3 18 2 7 ∈ gx_tb := gx_ok (List.mem_of_getElem? (i := 113) (by decide +kernel)) (by decide +kernel)
theorem gf_RX3_21_2_8 : gx_fl0 RX3 21 2 8 ∈ gx_tb := gx_ok (List.mem_of_getElem? (i := 114) (by decide +kernel)) (by decide +kernel)
theorem gf_RX3_24_2_9 : gx_fl0 RX3 24 2 9 ∈ gx_tb := gx_ok (List.mem_of_getElem? (i := 115) (by decide +kernel)) (by decide +kernel)
theorem gf_RX3_28_2_11 : gx_fl0 RX3 28 2 11 ∈ gx_tb := gx_ok (List.mem_of_getElem? (i := 117) (by decide +kernel)) (by decide +kernel)
theorem gf_RX3_31_2_12 : gx_fl0 RX3 31 2 12 ∈ gx_tb := gx_ok (List.mem_of_getElem? (i := 118) (by decide +kernel)) (by decide +kernel)
theorem gf_RX3_34_2_13 : gx_fl0 RX3 34 2 13 ∈ gx_tb := gx_ok (List.mem_of_getElem? (i := 119) (by decide +kernel)) (by decide +kernel)
theorem gf_RX3_37_2_0 : gx_fl0 RX3 37 2 0 ∈ gx_tb := gx_ok (List.mem_of_getElem? (i := 106) (by decide +kernel)) (by decide +kernel)
theorem gf_RX3_41_2_1 : gx_fl0 RX3 41 2 1 ∈ gx_tb := gx_ok (List.mem_of_getElem? (i := 107) (by decide +kernel)) (by decide +kernel)
theorem gf_RX3_79_2_2 : gx_fl0 RX3 79 2 2 ∈ gx_tb := gx_ok (List.mem_of_getElem? (i := 108) (by decide +kernel)) (by decide +kernel)
theorem gf_RX3_87_2_3 : gx_fl0 RX3 87 2 3 ∈ gx_tb := gx_ok (List.mem_of_getElem? (i := 109) (by decide +kernel)) (by decide +kernel)
theorem gf_RX3_90_2_4 : gx_fl0 RX3 90 2 4 ∈ gx_tb := gx_ok (List.mem_of_getElem? (i := 110) (by decide +kernel)) (by decide +kernel)
theorem gf_RX3_160_2_10 : gx_fl0 RX3 160 2 10 ∈ gx_tb := gx_ok (List.mem_of_getElem? (i := 116) (by decide +kernel)) (by decide +kernel)
theorem gf_RX4_9_3_0 : gx_fl0 RX4 9 3 0 ∈ gx_tb := gx_ok (List.mem_of_getElem? (i := 66) (by decide +kernel)) (by decide +kernel)
theorem gf_RX4_15_3_1 : gx_fl0 RX4 15 3 1 ∈ gx_tb := gx_ok (List.mem_of_getElem? (i := 67) (by decide +kernel)) (by decide +kernel)
theorem gf_RX4_18_3_2 : gx_fl0 RX4 18 3 2 ∈ gx_tb := gx_ok (List.mem_of_getElem? (i := 68) (by decide +kernel)) (by decide +kernel)
theorem gf_RX4_23_3_4 : gx_fl0 RX4 23 3 4 ∈ gx_tb := gx_ok (List.mem_of_getElem? (i := 70) (by decide +kernel)) (by decide +kernel)
theorem gf_RX4_27_3_5 : gx_fl0 RX4 27 3 5 ∈ gx_tb := gx_ok (List.mem_of_getElem? (i := 71) (by decide +kernel)) (by decide +kernel)
theorem gf_RX4_31_3_8 : gx_fl0 RX4 31 3 8 ∈ gx_tb := gx_ok (List.mem_of_getElem? (i := 74) (by decide +kernel)) (by decide +kernel)
theorem gf_RX4_38_3_9 : gx_fl0 RX4 38 3 9 ∈ gx_tb := gx_ok (List.mem_of_getElem? (i := 75) (by decide +kernel)) (by decide +kernel)
theorem gf_RX4_42_3_3 : gx_fl0 RX4 42 3 3 ∈ gx_tb := gx_ok (List.mem_of_getElem? (i := 69) (by decide +kernel)) (by decide +kernel)
theorem gf_RX4_46_3_6 : gx_fl0 RX4 46 3 6 ∈ gx_tb := gx_ok (List.mem_of_getElem? (i := 72) (by decide +kernel)) (by decide +kernel)
theorem gf_RX4_49_3_7 : gx_fl0 RX4 49 3 7 ∈ gx_tb := gx_ok (List.mem_of_getElem? (i := 73) (by decide +kernel)) (by decide +kernel)
theorem gf_RX5_9_4_3 : gx_fl0 RX5 9 4 3 ∈ gx_tb := gx_ok (List.mem_of_getElem? (i := 199) (by decide +kernel)) (by decide +kernel)
theorem gf_RX5_15_4_5 : gx_fl0 RX5 15 4 5 ∈ gx_tb := gx_ok (List.mem_of_getElem? (i := 201) (by decide +kernel)) (by decide +kernel)
theorem gf_RX5_18_4_1 : gx_fl0 RX5 18 4 1 ∈ gx_tb := gx_ok (List.mem_of_getElem? (i := 197) (by decide +kernel)) (by decide +kernel)
theorem gf_RX5_22_4_2 : gx_fl0 RX5 22 4 2 ∈ gx_tb := gx_ok (List.mem_of_getElem? (i := 198) (by decide +kernel)) (by decide +kernel)
theorem gf_RX5_29_4_4 : gx_fl0 RX5 29 4 4 ∈ gx_tb := gx_ok (List.mem_of_getElem? (i := 200) (by decide +kernel)) (by decide +kernel)
theorem gf_RX5_33_4_6 : gx_fl0 RX5 33 4 6 ∈ gx_tb := gx_ok (List.mem_of_getElem? (i := 202) (by decide +kernel)) (by decide +kernel)
theorem gf_RX7_9_6_0 : gx_fl0 RX7 9 6 0 ∈ gx_tb := gx_ok (List.mem_of_getElem? (i := 58) (by decide +kernel)) (by decide +kernel)
theorem gf_RX7_15_6_1 : gx_fl0 RX7 15 6 1 ∈ gx_tb := gx_ok (List.mem_of_getElem? (i := 59) (by decide +kernel)) (by decide +kernel)
theorem gf_RX8_9_7_0 : gx_fl0 RX8 9 7 0 ∈ gx_tb := gx_ok (List.mem_of_getElem? (i := 35) (by decide +kernel)) (by decide +kernel)
theorem gf_RX8_15_7_1 : gx_fl0 RX8 15 7 1 ∈ gx_tb := gx_ok (List.mem_of_getElem? (i := 36) (by decide +kernel)) (by decide +kernel)
theorem gf_RX9_9_8_10 : gx_fl0 RX9 9 8 10 ∈ gx_tb := gx_ok (List.mem_of_getElem? (i := 234) (by decide +kernel)) (by decide +kernel)
theorem gf_RX9_15_8_11 : gx_fl0 RX9 15 8 11 ∈ gx_tb := gx_ok (List.mem_of_getElem? (i := 235) (by decide +kernel)) (by decide +kernel)
theorem gf_RX9_18_8_1 : gx_fl0 RX9 18 8 1 ∈ gx_tb := gx_ok (List.mem_of_getElem? (i := 225) (by decide +kernel)) (by decide +kernel)
theorem gf_RX9_22_8_2 : gx_fl0 RX9 22 8 2 ∈ gx_tb := gx_ok (List.mem_of_getElem? (i := 226) (by decide +kernel)) (by decide +kernel)
theorem gf_RX9_26_8_3 : gx_fl0 RX9 26 8 3 ∈ gx_tb := gx_ok (List.mem_of_getElem? (i := 227) (by decide +kernel)) (by decide +kernel)
theorem gf_RX9_29_8_4 : gx_fl0 RX9 29 8 4 ∈ gx_tb := gx_ok (List.mem_of_getElem? (i := 228) (by decide +kernel)) (by decide +kernel)
theorem gf_RX9_32_8_5 : gx_fl0 RX9 32 8 5 ∈ gx_tb := gx_ok (List.mem_of_getElem? (i := 229) (by decide +kernel)) (by decide +kernel)
theorem gf_RX9_45_8_12 : gx_fl0 RX9 45 8 12 ∈ gx_tb := gx_ok (List.mem_of_getElem? (i := 236) (by decide +kernel)) (by decide +kernel)
theorem gf_RX9_101_8_6 : gx_fl0 RX9 101 8 6 ∈ gx_tb := gx_ok (List.mem_of_getElem? (i := 230) (by decide +kernel)) (by decide +kernel)
theorem gf_RX9_111_8_7 : gx_fl0 RX9 111 8 7 ∈ gx_tb := gx_ok (List.mem_of_getElem? (i := 231) (by decide +kernel)) (by decide +kernel)
theorem gf_RX9_114_8_8 : gx_fl0 RX9 114 8 8 ∈ gx_tb := gx_ok (List.mem_of_getElem? (i := 232) (by decide +kernel)) (by decide +kernel)
theorem gf_RX9_117_8_9 : gx_fl0 RX9 117 8 9 ∈ gx_tb := gx_ok (List.mem_of_getElem? (i := 233) (by decide +kernel)) (by decide +kernel)
theorem gf_RX10_7_4_0 : gx_fl0 RX10 7 4 0 ∈ gx_tb := gx_ok (List.mem_of_getElem? (i := 203) (by decide +kernel)) (by decide +kernel)
theorem gf_RX10_7_8_0 : gx_fl0 RX10 7 8 0 ∈ gx_tb := gx_ok (List.mem_of_getElem? (i := 203) (by decide +kernel)) (by decide +kernel)
theorem gkN_0_0 : 0 < (gx_c 0).2.2 := by decide +kernel
theorem gkR_0_0 : gx_isR (gx_ft 0 0) = true := by decide +kernel
theorem gkN_0_1 : 1 < (gx_c 0).2.2 := by decide +kernel
theorem gkR_0_1 : gx_isR (gx_ft 0 1) = false := by decide +kernel
theorem gkN_0_2 : 2 < (gx_c 0).2.2 := by decide +kernel
theorem gkR_0_2 : gx_isR (gx_ft 0 2) = false := by decide +kernel
theorem gkN_0_3 : 3 < (gx_c 0).2.2 := by decide +kernel
theorem gkR_0_3 : gx_isR (gx_ft 0 3) = false := by decide +kernel
theorem gkN_0_4 : 4 < (gx_c 0).2.2 := by decide +kernel
theorem gkR_0_4 : gx_isR (gx_ft 0 4) = false := by decide +kernel
theorem gkN_0_5 : 5 < (gx_c 0).2.2 := by decide +kernel
theorem gkR_0_5 : gx_isR (gx_ft 0 5) = true := by decide +kernel
theorem gkN_0_6 : 6 < (gx_c 0).2.2 := by decide +kernel
theorem gkR_0_6 : gx_isR (gx_ft 0 6) = true := by decide +kernel
theorem gkN_0_7 : 7 < (gx_c 0).2.2 := by decide +kernel
theorem gkR_0_7 : gx_isR (gx_ft 0 7) = true := by decide +kernel
theorem gkN_0_8 : 8 < (gx_c 0).2.2 := by decide +kernel
theorem gkR_0_8 : gx_isR (gx_ft 0 8) = true := by decide +kernel
theorem gkN_0_9 : 9 < (gx_c 0).2.2 := by decide +kernel
theorem gkR_0_9 : gx_isR (gx_ft 0 9) = true := by decide +kernel
theorem gkN_1_0 : 0 < (gx_c 1).2.2 := by decide +kernel
theorem gkR_1_0 : gx_isR (gx_ft 1 0) = true := by decide +kernel
theorem gkN_1_1 : 1 < (gx_c 1).2.2 := by decide +kernel
theorem gkR_1_1 : gx_isR (gx_ft 1 1) = true := by decide +kernel
theorem gkN_1_2 : 2 < (gx_c 1).2.2 := by decide +kernel
theorem gkR_1_2 : gx_isR (gx_ft 1 2) = true := by decide +kernel
theorem gkN_1_3 : 3 < (gx_c 1).2.2 := by decide +kernel
theorem gkR_1_3 : gx_isR (gx_ft 1 3) = true := by decide +kernel
theorem gkN_1_4 : 4 < (gx_c 1).2.2 := by decide +kernel
theorem gkR_1_4 : gx_isR (gx_ft 1 4) = true := by decide +kernel
theorem gkN_2_0 : 0 < (gx_c 2).2.2 := by decide +kernel
theorem gkR_2_0 : gx_isR (gx_ft 2 0) = true := by decide +kernel
theorem gkN_2_1 : 1 < (gx_c 2).2.2 := by decide +kernel
theorem gkR_2_1 : gx_isR (gx_ft 2 1) = false := by decide +kernel
theorem gkN_2_2 : 2 < (gx_c 2).2.2 := by decide +kernel
theorem gkR_2_2 : gx_isR (gx_ft 2 2) = false := by decide +kernel
theorem gkN_2_3 : 3 < (gx_c 2).2.2 := by decide +kernel
theorem gkR_2_3 : gx_isR (gx_ft 2 3) = false := by decide +kernel
theorem gkN_2_4 : 4 < (gx_c 2).2.2 := by decide +kernel
theorem gkR_2_4 : gx_isR (gx_ft 2 4) = false := by decide +kernel
theorem gkN_2_5 : 5 < (gx_c 2).2.2 := by decide +kernel
theorem gkR_2_5 : gx_isR (gx_ft 2 5) = true := by decide +kernel
theorem gkN_2_6 : 6 < (gx_c 2).2.2 := by decide +kernel
theorem gkR_2_6 : gx_isR (gx_ft 2 6) = true := by decide +kernel
theorem gkN_2_7 : 7 < (gx_c 2).2.2 := by decide +kernel
theorem gkR_2_7 : gx_isR (gx_ft 2 7) = true := by decide +kernel
theorem gkN_2_8 : 8 < (gx_c 2).2.2 := by decide +kernel
theorem gkR_2_8 : gx_isR (gx_ft 2 8) = true := by decide +kernel
theorem gkN_2_9 : 9 < (gx_c 2).2.2 := by decide +kernel
theorem gkR_2_9 : gx_isR (gx_ft 2 9) = true := by decide +kernel
theorem gkN_2_10 : 10 < (gx_c 2).2.2 := by decide +kernel
theorem gkR_2_10 : gx_isR (gx_ft 2 10) = false := by decide +kernel
theorem gkN_2_11 : 11 < (gx_c 2).2.2 := by decide +kernel
theorem gkR_2_11 : gx_isR (gx_ft 2 11) = true := by decide +kernel
theorem gkN_2_12 : 12 < (gx_c 2).2.2 := by decide +kernel
theorem gkR_2_12 : gx_isR (gx_ft 2 12) = true := by decide +kernel
theorem gkN_2_13 : 13 < (gx_c 2).2.2 := by decide +kernel
theorem gkR_2_13 : gx_isR (gx_ft 2 13) = true := by decide +kernel
theorem gkN_3_0 : 0 < (gx_c 3).2.2 := by decide +kernel
theorem gkR_3_0 : gx_isR (gx_ft 3 0) = true := by decide +kernel
theorem gkN_3_1 : 1 < (gx_c 3).2.2 := by decide +kernel
theorem gkR_3_1 : gx_isR (gx_ft 3 1) = true := by decide +kernel
theorem gkN_3_2 : 2 < (gx_c 3).2.2 := by decide +kernel
theorem gkR_3_2 : gx_isR (gx_ft 3 2) = true := by decide +kernel
theorem gkN_3_3 : 3 < (gx_c 3).2.2 := by decide +kernel
theorem gkR_3_3 : gx_isR (gx_ft 3 3) = false := by decide +kernel
theorem gkN_3_4 : 4 < (gx_c 3).2.2 := by decide +kernel
theorem gkR_3_4 : gx_isR (gx_ft 3 4) = true := by decide +kernel
theorem gkN_3_5 : 5 < (gx_c 3).2.2 := by decide +kernel
theorem gkR_3_5 : gx_isR (gx_ft 3 5) = true := by decide +kernel
theorem gkN_3_6 : 6 < (gx_c 3).2.2 := by decide +kernel
theorem gkR_3_6 : gx_isR (gx_ft 3 6) = false := by decide +kernel
theorem gkN_3_7 : 7 < (gx_c 3).2.2 := by decide +kernel
theorem gkR_3_7 : gx_isR (gx_ft 3 7) = false := by decide +kernel
theorem gkN_3_8 : 8 < (gx_c 3).2.2 := by decide +kernel
theorem gkR_3_8 : gx_isR (gx_ft 3 8) = true := by decide +kernel
theorem gkN_3_9 : 9 < (gx_c 3).2.2 := by decide +kernel
theorem gkR_3_9 : gx_isR (gx_ft 3 9) = true := by decide +kernel
theorem gkN_4_0 : 0 < (gx_c 4).2.2 := by decide +kernel
theorem gkR_4_0 : gx_isR (gx_ft 4 0) = false := by decide +kernel
theorem gkN_4_1 : 1 < (gx_c 4).2.2 := by decide +kernel
theorem gkR_4_1 : gx_isR (gx_ft 4 1) = true := by decide +kernel
theorem gkN_4_2 : 2 < (gx_c 4).2.2 := by decide +kernel
theorem gkR_4_2 : gx_isR (gx_ft 4 2) = true := by decide +kernel
theorem gkN_4_3 : 3 < (gx_c 4).2.2 := by decide +kernel
theorem gkR_4_3 : gx_isR (gx_ft 4 3) = true := by decide +kernel
theorem gkN_4_4 : 4 < (gx_c 4).2.2 := by decide +kernel
theorem gkR_4_4 : gx_isR (gx_ft 4 4) = false := by decide +kernel
theorem gkN_4_5 : 5 < (gx_c 4).2.2 := by decide +kernel
theorem gkR_4_5 : gx_isR (gx_ft 4 5) = true := by decide +kernel
theorem gkN_4_6 : 6 < (gx_c 4).2.2 := by decide +kernel
theorem gkR_4_6 : gx_isR (gx_ft 4 6) = false := by decide +kernel
theorem gkN_5_0 : 0 < (gx_c 5).2.2 := by decide +kernel
theorem gkR_5_0 : gx_isR (gx_ft 5 0) = true := by decide +kernel
theorem gkN_5_1 : 1 < (gx_c 5).2.2 := by decide +kernel
theorem gkR_5_1 : gx_isR (gx_ft 5 1) = true := by decide +kernel
theorem gkN_5_2 : 2 < (gx_c 5).2.2 := by decide +kernel
theorem gkR_5_2 : gx_isR (gx_ft 5 2) = true := by decide +kernel
theorem gkN_5_3 : 3 < (gx_c 5).2.2 := by decide +kernel
theorem gkR_5_3 : gx_isR (gx_ft 5 3) = true := by decide +kernel
theorem gkN_5_4 : 4 < (gx_c 5).2.2 := by decide +kernel
theorem gkR_5_4 : gx_isR (gx_ft 5 4) = true := by decide +kernel
theorem gkN_6_0 : 0 < (gx_c 6).2.2 := by decide +kernel
theorem gkR_6_0 : gx_isR (gx_ft 6 0) = true := by decide +kernel
theorem gkN_6_1 : 1 < (gx_c 6).2.2 := by decide +kernel
theorem gkR_6_1 : gx_isR (gx_ft 6 1) = false := by decide +kernel
theorem gkN_7_0 : 0 < (gx_c 7).2.2 := by decide +kernel
theorem gkR_7_0 : gx_isR (gx_ft 7 0) = true := by decide +kernel
theorem gkN_7_1 : 1 < (gx_c 7).2.2 := by decide +kernel
theorem gkR_7_1 : gx_isR (gx_ft 7 1) = false := by decide +kernel
theorem gkN_8_0 : 0 < (gx_c 8).2.2 := by decide +kernel
theorem gkR_8_0 : gx_isR (gx_ft 8 0) = false := by decide +kernel
theorem gkN_8_1 : 1 < (gx_c 8).2.2 := by decide +kernel
theorem gkR_8_1 : gx_isR (gx_ft 8 1) = true := by decide +kernel
theorem gkN_8_2 : 2 < (gx_c 8).2.2 := by decide +kernel
theorem gkR_8_2 : gx_isR (gx_ft 8 2) = false := by decide +kernel
theorem gkN_8_3 : 3 < (gx_c 8).2.2 := by decide +kernel
theorem gkR_8_3 : gx_isR (gx_ft 8 3) = true := by decide +kernel
theorem gkN_8_4 : 4 < (gx_c 8).2.2 := by decide +kernel
theorem gkR_8_4 : gx_isR (gx_ft 8 4) = true := by decide +kernel
theorem gkN_8_5 : 5 < (gx_c 8).2.2 := by decide +kernel
theorem gkR_8_5 : gx_isR (gx_ft 8 5) = true := by decide +kernel
theorem gkN_8_6 : 6 < (gx_c 8).2.2 := by decide +kernel
theorem gkR_8_6 : gx_isR (gx_ft 8 6) = false := by decide +kernel
theorem gkN_8_7 : 7 < (gx_c 8).2.2 := by decide +kernel
theorem gkR_8_7 : gx_isR (gx_ft 8 7) = false := by decide +kernel
theorem gkN_8_8 : 8 < (gx_c 8).2.2 := by decide +kernel
theorem gkR_8_8 : gx_isR (gx_ft 8 8) = false := by decide +kernel
theorem gkN_8_9 : 9 < (gx_c 8).2.2 := by decide +kernel
theorem gkR_8_9 : gx_isR (gx_ft 8 9) = false := by decide +kernel
theorem gkN_8_10 : 10 < (gx_c 8).2.2 := by decide +kernel
theorem gkR_8_10 : gx_isR (gx_ft 8 10) = true := by decide +kernel
theorem gkN_8_11 : 11 < (gx_c 8).2.2 := by decide +kernel
theorem gkR_8_11 : gx_isR (gx_ft 8 11) = true := by decide +kernel
theorem gkN_8_12 : 12 < (gx_c 8).2.2 := by decide +kernel
theorem gkR_8_12 : gx_isR (gx_ft 8 12) = false := by decide +kernel
theorem gkN_9_0 : 0 < (gx_c 9).2.2 := by decide +kernel
theorem gkR_9_0 : gx_isR (gx_ft 9 0) = true := by decide +kernel
theorem gkN_9_1 : 1 < (gx_c 9).2.2 := by decide +kernel
theorem gkR_9_1 : gx_isR (gx_ft 9 1) = true := by decide +kernel
theorem gkN_9_2 : 2 < (gx_c 9).2.2 := by decide +kernel
theorem gkR_9_2 : gx_isR (gx_ft 9 2) = true := by decide +kernel
theorem gkN_9_3 : 3 < (gx_c 9).2.2 := by decide +kernel
theorem gkR_9_3 : gx_isR (gx_ft 9 3) = false := by decide +kernel
theorem gkN_9_4 : 4 < (gx_c 9).2.2 := by decide +kernel
theorem gkR_9_4 : gx_isR (gx_ft 9 4) = true := by decide +kernel
theorem gkN_9_5 : 5 < (gx_c 9).2.2 := by decide +kernel
theorem gkR_9_5 : gx_isR (gx_ft 9 5) = true := by decide +kernel
theorem gkN_9_6 : 6 < (gx_c 9).2.2 := by decide +kernel
theorem gkR_9_6 : gx_isR (gx_ft 9 6) = true := by decide +kernel
theorem gkN_9_7 : 7 < (gx_c 9).2.2 := by decide +kernel
theorem gkR_9_7 : gx_isR (gx_ft 9 7) = false := by decide +kernel
theorem gkN_9_8 : 8 < (gx_c 9).2.2 := by decide +kernel
theorem gkR_9_8 : gx_isR (gx_ft 9 8) = true := by decide +kernel
theorem gkN_9_9 : 9 < (gx_c 9).2.2 := by decide +kernel
theorem gkR_9_9 : gx_isR (gx_ft 9 9) = true := by decide +kernel
theorem gkN_9_10 : 10 < (gx_c 9).2.2 := by decide +kernel
theorem gkR_9_10 : gx_isR (gx_ft 9 10) = true := by decide +kernel
theorem gkN_9_11 : 11 < (gx_c 9).2.2 := by decide +kernel
theorem gkR_9_11 : gx_isR (gx_ft 9 11) = true := by decide +kernel
theorem gkN_9_12 : 12 < (gx_c 9).2.2 := by decide +kernel
theorem gkR_9_12 : gx_isR (gx_ft 9 12) = true := by decide +kernel
theorem gkN_9_13 : 13 < (gx_c 9).2.2 := by decide +kernel
theorem gkR_9_13 : gx_isR (gx_ft 9 13) = true := by decide +kernel
theorem gkN_9_14 : 14 < (gx_c 9).2.2 := by decide +kernel
theorem gkR_9_14 : gx_isR (gx_ft 9 14) = true := by decide +kernel
theorem gkN_9_15 : 15 < (gx_c 9).2.2 := by decide +kernel
theorem gkR_9_15 : gx_isR (gx_ft 9 15) = true := by decide +kernel
theorem gkN_9_16 : 16 < (gx_c 9).2.2 := by decide +kernel
theorem gkR_9_16 : gx_isR (gx_ft 9 16) = true := by decide +kernel
theorem gcb_m103 : (Int8.ofInt (-103)).toInt32 = gI (-103) := by decide +kernel
theorem gcb_m102 : (Int8.ofInt (-102)).toInt32 = gI (-102) := by decide +kernel
theorem gcb_m101 : (Int8.ofInt (-101)).toInt32 = gI (-101) := by decide +kernel
theorem gcb_m3 : (Int8.ofInt (-3)).toInt32 = gI (-3) := by decide +kernel
theorem gcb_m2 : (Int8.ofInt (-2)).toInt32 = gI (-2) := by decide +kernel
theorem gcb_6 : (Int8.ofInt (6)).toInt32 = gI (6) := by decide +kernel
theorem gcb_7 : (Int8.ofInt (7)).toInt32 = gI (7) := by decide +kernel
theorem gcb_8 : (Int8.ofInt (8)).toInt32 = gI (8) := by decide +kernel
theorem gcb_9 : (Int8.ofInt (9)).toInt32 = gI (9) := by decide +kernel
theorem gcb_10 : (Int8.ofInt (10)).toInt32 = gI (10) := by decide +kernel
theorem gcb_12 : (Int8.ofInt (12)).toInt32 = gI (12) := by decide +kernel
theorem gcb_13 : (Int8.ofInt (13)).toInt32 = gI (13) := by decide +kernel
theorem gcb_16 : (Int8.ofInt (16)).toInt32 = gI (16) := by decide +kernel
theorem gcb_18 : (Int8.ofInt (18)).toInt32 = gI (18) := by decide +kernel
theorem gcb_20 : (Int8.ofInt (20)).toInt32 = gI (20) := by decide +kernel
theorem gcb_24 : (Int8.ofInt (24)).toInt32 = gI (24) := by decide +kernel
theorem gcb_25 : (Int8.ofInt (25)).toInt32 = gI (25) := by decide +kernel
theorem gcb_26 : (Int8.ofInt (26)).toInt32 = gI (26) := by decide +kernel
theorem gcb_32 : (Int8.ofInt (32)).toInt32 = gI (32) := by decide +kernel
theorem gcb_37 : (Int8.ofInt (37)).toInt32 = gI (37) := by decide +kernel
theorem gcb_40 : (Int8.ofInt (40)).toInt32 = gI (40) := by decide +kernel
theorem gcb_41 : (Int8.ofInt (41)).toInt32 = gI (41) := by decide +kernel
theorem gcb_42 : (Int8.ofInt (42)).toInt32 = gI (42) := by decide +kernel
theorem gcb_43 : (Int8.ofInt (43)).toInt32 = gI (43) := by decide +kernel
theorem gcb_58 : (Int8.ofInt (58)).toInt32 = gI (58) := by decide +kernel
theorem gcb_63 : (Int8.ofInt (63)).toInt32 = gI (63) := by decide +kernel
theorem gcb_65 : (Int8.ofInt (65)).toInt32 = gI (65) := by decide +kernel
theorem gcb_67 : (Int8.ofInt (67)).toInt32 = gI (67) := by decide +kernel
theorem gcb_72 : (Int8.ofInt (72)).toInt32 = gI (72) := by decide +kernel
theorem gcb_80 : (Int8.ofInt (80)).toInt32 = gI (80) := by decide +kernel
theorem gcb_97 : (Int8.ofInt (97)).toInt32 = gI (97) := by decide +kernel
theorem gcb_99 : (Int8.ofInt (99)).toInt32 = gI (99) := by decide +kernel
theorem gcb_100 : (Int8.ofInt (100)).toInt32 = gI (100) := by decide +kernel
theorem gcb_104 : (Int8.ofInt (104)).toInt32 = gI (104) := by decide +kernel
theorem gcb_120 : (Int8.ofInt (120)).toInt32 = gI (120) := by decide +kernel
theorem gcb_124 : (Int8.ofInt (124)).toInt32 = gI (124) := by decide +kernel
theorem gcs_144 : (Int16.ofInt (144)).toInt32 = gI (144) := by decide +kernel
theorem gcs_145 : (Int16.ofInt (145)).toInt32 = gI (145) := by decide +kernel
theorem gcs_150 : (Int16.ofInt (150)).toInt32 = gI (150) := by decide +kernel
theorem gcs_169 : (Int16.ofInt (169)).toInt32 = gI (169) := by decide +kernel
theorem gcs_255 : (Int16.ofInt (255)).toInt32 = gI (255) := by decide +kernel
theorem gcs_256 : (Int16.ofInt (256)).toInt32 = gI (256) := by decide +kernel
theorem gcs_300 : (Int16.ofInt (300)).toInt32 = gI (300) := by decide +kernel
theorem gcs_301 : (Int16.ofInt (301)).toInt32 = gI (301) := by decide +kernel
theorem gcs_511 : (Int16.ofInt (511)).toInt32 = gI (511) := by decide +kernel
theorem gcs_512 : (Int16.ofInt (512)).toInt32 = gI (512) := by decide +kernel
theorem gcs_768 : (Int16.ofInt (768)).toInt32 = gI (768) := by decide +kernel
theorem gcs_1000 : (Int16.ofInt (1000)).toInt32 = gI (1000) := by decide +kernel
theorem gcs_1009 : (Int16.ofInt (1009)).toInt32 = gI (1009) := by decide +kernel
theorem gcs_1501 : (Int16.ofInt (1501)).toInt32 = gI (1501) := by decide +kernel
theorem gcs_2560 : (Int16.ofInt (2560)).toInt32 = gI (2560) := by decide +kernel
theorem gcs_2704 : (Int16.ofInt (2704)).toInt32 = gI (2704) := by decide +kernel
theorem gcs_3907 : (Int16.ofInt (3907)).toInt32 = gI (3907) := by decide +kernel
theorem gcs_6131 : (Int16.ofInt (6131)).toInt32 = gI (6131) := by decide +kernel
theorem gcs_12000 : (Int16.ofInt (12000)).toInt32 = gI (12000) := by decide +kernel
theorem gcs_25350 : (Int16.ofInt (25350)).toInt32 = gI (25350) := by decide +kernel
def mX0_init : gx_M := (yX0_init, cX0_init, 3, none, [], { frames := 1, cells := 5, slots := 14870, locals := 18 }, none)
def mX0_facts : gx_M := (yX0_facts, cX0_facts, 1, some (.object "Grammarsmith$Facts"), [], { frames := 0, cells := 0, slots := 0, locals := 0 }, none)
def mX0_forget : gx_M := (yX0_forget, cX0_forget, 1, none, [], { frames := 0, cells := 0, slots := 0, locals := 0 }, none)
def mX0_extent : gx_M := (yX0_extent, cX0_extent, 1, some .int, [], { frames := 0, cells := 0, slots := 0, locals := 0 }, none)
def mX0_row : gx_M := (yX0_row, cX0_row, 4, some .int, [], { frames := 0, cells := 0, slots := 0, locals := 0 }, none)
def mX0_move : gx_M := (yX0_move, cX0_move, 4, some .int, [], { frames := 0, cells := 0, slots := 0, locals := 0 }, none)
def mX0_build : gx_M := (yX0_build, cX0_build, 4, none, [], { frames := 4, cells := 0, slots := 0, locals := 93 }, none)
def mX0_complete : gx_M := (yX0_complete, cX0_complete, 5, none, [], { frames := 2, cells := 0, slots := 0, locals := 51 }, none)
def mX0_addItems : gx_M := (yX0_addItems, cX0_addItems, 8, some .boolean, [], { frames := 1, cells := 0, slots := 0, locals := 24 }, none)
def mX0_widen : gx_M := (yX0_widen, cX0_widen, 5, some .boolean, [], { frames := 0, cells := 0, slots := 0, locals := 0 }, none)
def mX0_leave : gx_M := (yX0_leave, cX0_leave, 4, none, [], { frames := 3, cells := 0, slots := 0, locals := 70 }, none)
def mX0_symbolsInFront : gx_M := (yX0_symbolsInFront, cX0_symbolsInFront, 5, some .int, [], { frames := 1, cells := 0, slots := 0, locals := 23 }, none)
def mX0_advance : gx_M := (yX0_advance, cX0_advance, 4, none, [], { frames := 2, cells := 0, slots := 0, locals := 47 }, none)
def mX0_findState : gx_M := (yX0_findState, cX0_findState, 3, some .int, [], { frames := 1, cells := 0, slots := 0, locals := 24 }, none)
def mX0_beginsFresh : gx_M := (yX0_beginsFresh, cX0_beginsFresh, 5, some .boolean, [], { frames := 0, cells := 0, slots := 0, locals := 0 }, none)
def mX0_addState : gx_M := (yX0_addState, cX0_addState, 4, some .int, [], { frames := 0, cells := 0, slots := 0, locals := 0 }, none)
def mX0_mergeInto : gx_M := (yX0_mergeInto, cX0_mergeInto, 4, none, [], { frames := 1, cells := 0, slots := 0, locals := 24 }, none)
def mX1_init : gx_M := (yX1_init, cX1_init, 5, none, [], { frames := 1, cells := 1, slots := 16, locals := 18 }, none)
def mX1_facts : gx_M := (yX1_facts, cX1_facts, 1, some (.object "Grammarsmith$Facts"), [], { frames := 0, cells := 0, slots := 0, locals := 0 }, none)
def mX1_look : gx_M := (yX1_look, cX1_look, 2, some .int, [], { frames := 0, cells := 0, slots := 0, locals := 0 }, none)
def mX1_measure : gx_M := (yX1_measure, cX1_measure, 5, some .int, [], { frames := 5, cells := 0, slots := 0, locals := 127 }, none)
def mX1_fill : gx_M := (yX1_fill, cX1_fill, 5, none, [], { frames := 4, cells := 0, slots := 0, locals := 103 }, none)
def mX1_refine : gx_M := (yX1_refine, cX1_refine, 6, some .boolean, [], { frames := 3, cells := 0, slots := 0, locals := 78 }, none)
def mX1_ofProduction : gx_M := (yX1_ofProduction, cX1_ofProduction, 12, some .int, [], { frames := 2, cells := 0, slots := 0, locals := 47 }, none)
def mX1_whole : gx_M := (yX1_whole, cX1_whole, 5, some .int, [], { frames := 1, cells := 0, slots := 0, locals := 22 }, none)
def mX1_setWhole : gx_M := (yX1_setWhole, cX1_setWhole, 6, none, [], { frames := 1, cells := 0, slots := 0, locals := 22 }, none)
def mX1_part : gx_M := (yX1_part, cX1_part, 5, some .int, [], { frames := 1, cells := 0, slots := 0, locals := 22 }, none)
def mX1_setPart : gx_M := (yX1_setPart, cX1_setPart, 6, none, [], { frames := 1, cells := 0, slots := 0, locals := 22 }, none)
def mX1_cell : gx_M := (yX1_cell, cX1_cell, 3, some .int, [], { frames := 0, cells := 0, slots := 0, locals := 0 }, none)
def mX2_init : gx_M := (yX2_init, cX2_init, 5, none, [], { frames := 2, cells := 1, slots := 16, locals := 42 }, none)
def mX2_none : gx_M := (yX2_none, cX2_none, 1, some .int, [], { frames := 0, cells := 0, slots := 0, locals := 0 }, none)
def mX2_blank : gx_M := (yX2_blank, cX2_blank, 3, some .int, [], { frames := 0, cells := 0, slots := 0, locals := 0 }, none)
def mX2_ofTerminal : gx_M := (yX2_ofTerminal, cX2_ofTerminal, 4, some .int, [], { frames := 1, cells := 0, slots := 0, locals := 21 }, none)
def mX2_either : gx_M := (yX2_either, cX2_either, 3, some .int, [], { frames := 1, cells := 0, slots := 0, locals := 21 }, none)
def mX2_both : gx_M := (yX2_both, cX2_both, 3, some .int, [], { frames := 1, cells := 0, slots := 0, locals := 21 }, none)
def mX2_ofNonterminal : gx_M := (yX2_ofNonterminal, cX2_ofNonterminal, 3, some .int, [], { frames := 2, cells := 0, slots := 0, locals := 42 }, none)
def mX3_init : gx_M := (yX3_init, cX3_init, 2, none, [], { frames := 1, cells := 8, slots := 452, locals := 18 }, none)
def mX3_forget : gx_M := (yX3_forget, cX3_forget, 2, none, [], { frames := 0, cells := 0, slots := 0, locals := 0 }, none)
def mX3_learn : gx_M := (yX3_learn, cX3_learn, 1, none, [], { frames := 4, cells := 0, slots := 0, locals := 97 }, none)
def mX3_grammar : gx_M := (yX3_grammar, cX3_grammar, 1, some (.object "Grammarsmith$Grammar"), [], { frames := 0, cells := 0, slots := 0, locals := 0 }, none)
def mX3_vanishes : gx_M := (yX3_vanishes, cX3_vanishes, 2, some .boolean, [], { frames := 1, cells := 0, slots := 0, locals := 21 }, none)
def mX3_firsts : gx_M := (yX3_firsts, cX3_firsts, 2, some .int, [], { frames := 1, cells := 0, slots := 0, locals := 21 }, none)
def mX3_behind : gx_M := (yX3_behind, cX3_behind, 2, some .int, [], { frames := 0, cells := 0, slots := 0, locals := 0 }, none)
def mX3_isProductive : gx_M := (yX3_isProductive, cX3_isProductive, 2, some .boolean, [], { frames := 2, cells := 0, slots := 0, locals := 42 }, none)
def mX3_isReached : gx_M := (yX3_isReached, cX3_isReached, 2, some .boolean, [], { frames := 1, cells := 0, slots := 0, locals := 21 }, none)
def mX3_isCircular : gx_M := (yX3_isCircular, cX3_isCircular, 2, some .boolean, [], { frames := 1, cells := 0, slots := 0, locals := 21 }, none)
def mX3_least : gx_M := (yX3_least, cX3_least, 2, some .int, [], { frames := 1, cells := 0, slots := 0, locals := 21 }, none)
def mX3_spelled : gx_M := (yX3_spelled, cX3_spelled, 4, some .int, [], { frames := 2, cells := 0, slots := 0, locals := 42 }, none)
def mX3_prediction : gx_M := (yX3_prediction, cX3_prediction, 2, some .int, [], { frames := 0, cells := 0, slots := 0, locals := 0 }, none)
def mX3_front : gx_M := (yX3_front, cX3_front, 2, some .int, [], { frames := 0, cells := 0, slots := 0, locals := 0 }, none)
def mX3_rest : gx_M := (yX3_rest, cX3_rest, 2, some .int, [], { frames := 0, cells := 0, slots := 0, locals := 0 }, none)
def mX3_beginOf : gx_M := (yX3_beginOf, cX3_beginOf, 2, some .int, [], { frames := 0, cells := 0, slots := 0, locals := 0 }, none)
def mX3_leastOf : gx_M := (yX3_leastOf, cX3_leastOf, 2, some .int, [], { frames := 0, cells := 0, slots := 0, locals := 0 }, none)
def mX3_beginnings : gx_M := (yX3_beginnings, cX3_beginnings, 6, some .int, [], { frames := 1, cells := 0, slots := 0, locals := 23 }, none)
def mX3_widen : gx_M := (yX3_widen, cX3_widen, 3, some .boolean, [], { frames := 0, cells := 0, slots := 0, locals := 0 }, none)
def mX3_findBeginnings : gx_M := (yX3_findBeginnings, cX3_findBeginnings, 5, none, [], { frames := 2, cells := 0, slots := 0, locals := 48 }, none)
def mX3_findBehinds : gx_M := (yX3_findBehinds, cX3_findBehinds, 4, none, [], { frames := 3, cells := 0, slots := 0, locals := 74 }, none)
def mX3_widenBehinds : gx_M := (yX3_widenBehinds, cX3_widenBehinds, 7, some .boolean, [], { frames := 2, cells := 0, slots := 0, locals := 48 }, none)
def mX3_findReached : gx_M := (yX3_findReached, cX3_findReached, 3, none, [], { frames := 2, cells := 0, slots := 0, locals := 46 }, none)
def mX3_findLeftRecursive : gx_M := (yX3_findLeftRecursive, cX3_findLeftRecursive, 4, none, [], { frames := 2, cells := 0, slots := 0, locals := 46 }, none)
def mX3_findCircular : gx_M := (yX3_findCircular, cX3_findCircular, 4, none, [], { frames := 2, cells := 0, slots := 0, locals := 48 }, none)
def mX3_relate : gx_M := (yX3_relate, cX3_relate, 4, none, [], { frames := 1, cells := 0, slots := 0, locals := 23 }, none)
def mX3_closeRelation : gx_M := (yX3_closeRelation, cX3_closeRelation, 3, none, [], { frames := 1, cells := 0, slots := 0, locals := 21 }, none)
def mX3_relatedToThemselves : gx_M := (yX3_relatedToThemselves, cX3_relatedToThemselves, 3, some .int, [], { frames := 0, cells := 0, slots := 0, locals := 0 }, none)
def mX3_findLeasts : gx_M := (yX3_findLeasts, cX3_findLeasts, 7, none, [], { frames := 2, cells := 0, slots := 0, locals := 47 }, none)
def mX3_leastOfRight : gx_M := (yX3_leastOfRight, cX3_leastOfRight, 5, some .int, [], { frames := 1, cells := 0, slots := 0, locals := 23 }, none)
def mX3_findSpellings : gx_M := (yX3_findSpellings, cX3_findSpellings, 4, none, [], { frames := 3, cells := 0, slots := 0, locals := 73 }, none)
def mX3_improveSpelling : gx_M := (yX3_improveSpelling, cX3_improveSpelling, 6, some .boolean, [], { frames := 2, cells := 0, slots := 0, locals := 48 }, none)
def mX3_spell : gx_M := (yX3_spell, cX3_spell, 6, some .long, [], { frames := 1, cells := 0, slots := 0, locals := 23 }, none)
def mX3_findPredictions : gx_M := (yX3_findPredictions, cX3_findPredictions, 3, none, [], { frames := 2, cells := 0, slots := 0, locals := 48 }, none)
def mX3_findItems : gx_M := (yX3_findItems, cX3_findItems, 3, none, [], { frames := 2, cells := 0, slots := 0, locals := 48 }, none)
def mX4_init : gx_M := (yX4_init, cX4_init, 2, none, [], { frames := 2, cells := 69, slots := 1048, locals := 38 }, none)
def mX4_count : gx_M := (yX4_count, cX4_count, 1, some .int, [], { frames := 0, cells := 0, slots := 0, locals := 0 }, none)
def mX4_rules : gx_M := (yX4_rules, cX4_rules, 1, some .int, [], { frames := 0, cells := 0, slots := 0, locals := 0 }, none)
def mX4_top : gx_M := (yX4_top, cX4_top, 1, some .int, [], { frames := 0, cells := 0, slots := 0, locals := 0 }, none)
def mX4_setTop : gx_M := (yX4_setTop, cX4_setTop, 2, none, [], { frames := 0, cells := 0, slots := 0, locals := 0 }, none)
def mX4_owner : gx_M := (yX4_owner, cX4_owner, 2, some .int, [], { frames := 0, cells := 0, slots := 0, locals := 0 }, none)
def mX4_length : gx_M := (yX4_length, cX4_length, 2, some .int, [], { frames := 0, cells := 0, slots := 0, locals := 0 }, none)
def mX4_symbol : gx_M := (yX4_symbol, cX4_symbol, 4, some .int, [], { frames := 0, cells := 0, slots := 0, locals := 0 }, none)
def mX4_lastTerminal : gx_M := (yX4_lastTerminal, cX4_lastTerminal, 3, some .int, [], { frames := 1, cells := 0, slots := 0, locals := 23 }, none)
def mX4_open : gx_M := (yX4_open, cX4_open, 2, some .boolean, [], { frames := 0, cells := 0, slots := 0, locals := 0 }, none)
def mX4_extend : gx_M := (yX4_extend, cX4_extend, 3, some .boolean, [], { frames := 0, cells := 0, slots := 0, locals := 0 }, none)
def mX4_freeHelper : gx_M := (yX4_freeHelper, cX4_freeHelper, 5, some .int, [], { frames := 1, cells := 0, slots := 0, locals := 23 }, none)
def mX4_admit : gx_M := (yX4_admit, cX4_admit, 4, some .boolean, [], { frames := 4, cells := 0, slots := 0, locals := 99 }, none)
def mX4_admitAll : gx_M := (yX4_admitAll, cX4_admitAll, 7, some .boolean, [], { frames := 5, cells := 0, slots := 0, locals := 122 }, none)
def mX4_dropLastRule : gx_M := (yX4_dropLastRule, cX4_dropLastRule, 1, some .boolean, [], { frames := 0, cells := 0, slots := 0, locals := 0 }, none)
def mX5_init : gx_M := (yX5_init, cX5_init, 3, none, [], { frames := 2, cells := 2, slots := 1801, locals := 38 }, none)
def mX5_extent : gx_M := (yX5_extent, cX5_extent, 1, some .int, [], { frames := 4, cells := 0, slots := 0, locals := 92 }, none)
def mX5_clashes : gx_M := (yX5_clashes, cX5_clashes, 1, some .int, [], { frames := 4, cells := 0, slots := 0, locals := 92 }, none)
def mX5_easedClashes : gx_M := (yX5_easedClashes, cX5_easedClashes, 1, some .int, [], { frames := 0, cells := 0, slots := 0, locals := 0 }, none)
def mX5_run : gx_M := (yX5_run, cX5_run, 7, some .int, [], { frames := 3, cells := 0, slots := 0, locals := 67 }, none)
def mX5_cellsWith : gx_M := (yX5_cellsWith, cX5_cellsWith, 5, some .int, [], { frames := 3, cells := 0, slots := 0, locals := 68 }, none)
def mX5_countIn : gx_M := (yX5_countIn, cX5_countIn, 5, some .int, [], { frames := 2, cells := 0, slots := 0, locals := 44 }, none)
def mX5_lowestIn : gx_M := (yX5_lowestIn, cX5_lowestIn, 4, some .int, [], { frames := 2, cells := 0, slots := 0, locals := 44 }, none)
def mX5_isIn : gx_M := (yX5_isIn, cX5_isIn, 4, some .boolean, [], { frames := 1, cells := 0, slots := 0, locals := 21 }, none)
def mX5_next : gx_M := (yX5_next, cX5_next, 1, some .int, [], { frames := 0, cells := 0, slots := 0, locals := 0 }, none)
def mX5_push : gx_M := (yX5_push, cX5_push, 2, none, [], { frames := 0, cells := 0, slots := 0, locals := 0 }, none)
def mX5_pop : gx_M := (yX5_pop, cX5_pop, 2, some .int, [], { frames := 1, cells := 0, slots := 0, locals := 20 }, none)
def mX5_apply : gx_M := (yX5_apply, cX5_apply, 3, none, [], { frames := 1, cells := 0, slots := 0, locals := 23 }, none)
def mX5_worthOfTree : gx_M := (yX5_worthOfTree, cX5_worthOfTree, 7, some .int, [], { frames := 2, cells := 0, slots := 0, locals := 41 }, none)
def mX6_init : gx_M := (yX6_init, cX6_init, 5, none, [], { frames := 2, cells := 1, slots := 16, locals := 42 }, none)
def mX6_none : gx_M := (yX6_none, cX6_none, 1, some .int, [], { frames := 0, cells := 0, slots := 0, locals := 0 }, none)
def mX6_blank : gx_M := (yX6_blank, cX6_blank, 3, some .int, [], { frames := 0, cells := 0, slots := 0, locals := 0 }, none)
def mX6_ofTerminal : gx_M := (yX6_ofTerminal, cX6_ofTerminal, 5, some .int, [], { frames := 1, cells := 0, slots := 0, locals := 21 }, none)
def mX6_either : gx_M := (yX6_either, cX6_either, 3, some .int, [], { frames := 1, cells := 0, slots := 0, locals := 21 }, none)
def mX6_both : gx_M := (yX6_both, cX6_both, 3, some .int, [], { frames := 1, cells := 0, slots := 0, locals := 21 }, none)
def mX6_ofNonterminal : gx_M := (yX6_ofNonterminal, cX6_ofNonterminal, 3, some .int, [], { frames := 0, cells := 0, slots := 0, locals := 0 }, none)
def mX7_init : gx_M := (yX7_init, cX7_init, 1, none, [], { frames := 1, cells := 1, slots := 24, locals := 18 }, none)
def mX7_read : gx_M := (yX7_read, cX7_read, 7, some .boolean, [], { frames := 3, cells := 0, slots := 0, locals := 73 }, none)
def mX7_push : gx_M := (yX7_push, cX7_push, 2, some .boolean, [], { frames := 0, cells := 0, slots := 0, locals := 0 }, none)
def mX7_closeBracket : gx_M := (yX7_closeBracket, cX7_closeBracket, 4, some .boolean, [], { frames := 2, cells := 0, slots := 0, locals := 47 }, none)
def mX7_release : gx_M := (yX7_release, cX7_release, 6, some .boolean, [], { frames := 1, cells := 0, slots := 0, locals := 22 }, none)
def mX7_wrap : gx_M := (yX7_wrap, cX7_wrap, 7, some .boolean, [], { frames := 2, cells := 0, slots := 0, locals := 47 }, none)
def mX8_init : gx_M := (yX8_init, cX8_init, 1, none, [], { frames := 1, cells := 1, slots := 24, locals := 18 }, none)
def mX8_isFull : gx_M := (yX8_isFull, cX8_isFull, 1, some .boolean, [], { frames := 0, cells := 0, slots := 0, locals := 0 }, none)
def mX8_append : gx_M := (yX8_append, cX8_append, 2, some .int, [], { frames := 0, cells := 0, slots := 0, locals := 0 }, none)
def mX8_clear : gx_M := (yX8_clear, cX8_clear, 2, some .int, [], { frames := 0, cells := 0, slots := 0, locals := 0 }, none)
def mX8_length : gx_M := (yX8_length, cX8_length, 1, some .int, [], { frames := 0, cells := 0, slots := 0, locals := 0 }, none)
def mX8_letter : gx_M := (yX8_letter, cX8_letter, 2, some .char, [], { frames := 0, cells := 0, slots := 0, locals := 0 }, none)
def mX8_copyRenamed : gx_M := (yX8_copyRenamed, cX8_copyRenamed, 5, none, [], { frames := 1, cells := 0, slots := 0, locals := 21 }, none)
def mX8_firstFault : gx_M := (yX8_firstFault, cX8_firstFault, 5, some .int, [], { frames := 3, cells := 0, slots := 0, locals := 64 }, none)
def mX8_stateBehind : gx_M := (yX8_stateBehind, cX8_stateBehind, 3, some .int, [], { frames := 2, cells := 0, slots := 0, locals := 42 }, none)
def mX8_stateInChoice : gx_M := (yX8_stateInChoice, cX8_stateInChoice, 3, some .int, [], { frames := 1, cells := 0, slots := 0, locals := 20 }, none)
def mX9_init : gx_M := (yX9_init, cX9_init, 6, none, [], { frames := 2, cells := 2, slots := 602, locals := 38 }, none)
def mX9_extent : gx_M := (yX9_extent, cX9_extent, 1, some .int, [], { frames := 1, cells := 0, slots := 0, locals := 20 }, none)
def mX9_clashes : gx_M := (yX9_clashes, cX9_clashes, 1, some .int, [], { frames := 5, cells := 0, slots := 0, locals := 110 }, none)
def mX9_easedClashes : gx_M := (yX9_easedClashes, cX9_easedClashes, 1, some .int, [], { frames := 5, cells := 0, slots := 0, locals := 110 }, none)
def mX9_run : gx_M := (yX9_run, cX9_run, 5, some .int, [], { frames := 5, cells := 0, slots := 0, locals := 110 }, none)
def mX9_cellsInConflict : gx_M := (yX9_cellsInConflict, cX9_cellsInConflict, 5, some .int, [], { frames := 4, cells := 0, slots := 0, locals := 86 }, none)
def mX9_readCell : gx_M := (yX9_readCell, cX9_readCell, 5, none, [], { frames := 2, cells := 0, slots := 0, locals := 47 }, none)
def mX9_reducedBy : gx_M := (yX9_reducedBy, cX9_reducedBy, 5, some .int, [], { frames := 1, cells := 0, slots := 0, locals := 23 }, none)
def mX9_isConflict : gx_M := (yX9_isConflict, cX9_isConflict, 1, some .boolean, [], { frames := 0, cells := 0, slots := 0, locals := 0 }, none)
def mX9_isSettled : gx_M := (yX9_isSettled, cX9_isSettled, 2, some .boolean, [], { frames := 3, cells := 0, slots := 0, locals := 65 }, none)
def mX9_levelOf : gx_M := (yX9_levelOf, cX9_levelOf, 2, some .int, [], { frames := 0, cells := 0, slots := 0, locals := 0 }, none)
def mX9_levelOfLowest : gx_M := (yX9_levelOfLowest, cX9_levelOfLowest, 1, some .int, [], { frames := 2, cells := 0, slots := 0, locals := 45 }, none)
def mX9_action : gx_M := (yX9_action, cX9_action, 3, some .int, [], { frames := 4, cells := 0, slots := 0, locals := 88 }, none)
def mX9_settledAction : gx_M := (yX9_settledAction, cX9_settledAction, 4, some .int, [], { frames := 3, cells := 0, slots := 0, locals := 65 }, none)
def mX9_state : gx_M := (yX9_state, cX9_state, 1, some .int, [], { frames := 0, cells := 0, slots := 0, locals := 0 }, none)
def mX9_worthOfTop : gx_M := (yX9_worthOfTop, cX9_worthOfTop, 1, some .int, [], { frames := 0, cells := 0, slots := 0, locals := 0 }, none)
def mX9_push : gx_M := (yX9_push, cX9_push, 3, none, [], { frames := 0, cells := 0, slots := 0, locals := 0 }, none)
def mX9_reduce : gx_M := (yX9_reduce, cX9_reduce, 5, none, [], { frames := 1, cells := 0, slots := 0, locals := 23 }, none)
def mX10_init : gx_M := (yX10_init, cX10_init, 1, none, [], { frames := 1, cells := 0, slots := 0, locals := 18 }, none)
def mX10_worth : gx_M := (yX10_worth, cX10_worth, 1, some .int, [], { frames := 0, cells := 0, slots := 0, locals := 0 }, none)
def mX10_keepWorth : gx_M := (yX10_keepWorth, cX10_keepWorth, 2, none, [], { frames := 0, cells := 0, slots := 0, locals := 0 }, none)
def mX11_init : gx_M := (yX11_init, cX11_init, 10, none, [], { frames := 3, cells := 184, slots := 64146, locals := 66 }, none)
def mX11_type : gx_M := (yX11_type, cX11_type, 2, some .int, [], { frames := 6, cells := 1, slots := 6, locals := 88 }, none)
def mX11_wipe : gx_M := (yX11_wipe, cX11_wipe, 1, some .int, [], { frames := 1, cells := 0, slots := 0, locals := 21 }, none)
def mX11_fault : gx_M := (yX11_fault, cX11_fault, 1, some .int, [], { frames := 4, cells := 0, slots := 0, locals := 88 }, none)
def mX11_enter : gx_M := (yX11_enter, cX11_enter, 1, some .int, [], { frames := 6, cells := 1, slots := 6, locals := 122 }, none)
def mX11_undo : gx_M := (yX11_undo, cX11_undo, 1, some .int, [], { frames := 6, cells := 1, slots := 6, locals := 88 }, none)
def mX11_use : gx_M := (yX11_use, cX11_use, 4, some .int, [], { frames := 6, cells := 1, slots := 6, locals := 88 }, none)
def mX11_bring : gx_M := (yX11_bring, cX11_bring, 2, some .int, [], { frames := 6, cells := 1, slots := 6, locals := 148 }, none)
def mX11_start : gx_M := (yX11_start, cX11_start, 3, some .int, [], { frames := 6, cells := 1, slots := 6, locals := 88 }, none)
def mX11_level : gx_M := (yX11_level, cX11_level, 5, some .int, [], { frames := 6, cells := 1, slots := 6, locals := 88 }, none)
def mX11_productions : gx_M := (yX11_productions, cX11_productions, 1, some .int, [], { frames := 1, cells := 0, slots := 0, locals := 20 }, none)
def mX11_left : gx_M := (yX11_left, cX11_left, 2, some .int, [], { frames := 6, cells := 1, slots := 6, locals := 88 }, none)
def mX11_right : gx_M := (yX11_right, cX11_right, 3, some .int, [], { frames := 6, cells := 1, slots := 6, locals := 88 }, none)
def mX11_isNullable : gx_M := (yX11_isNullable, cX11_isNullable, 2, some .boolean, [], { frames := 7, cells := 1, slots := 6, locals := 117 }, none)
def mX11_first : gx_M := (yX11_first, cX11_first, 2, some .int, [], { frames := 7, cells := 1, slots := 6, locals := 117 }, none)
def mX11_follow : gx_M := (yX11_follow, cX11_follow, 2, some .int, [], { frames := 7, cells := 1, slots := 6, locals := 117 }, none)
def mX11_uses : gx_M := (yX11_uses, cX11_uses, 2, some .int, [], { frames := 7, cells := 1, slots := 6, locals := 117 }, none)
def mX11_shortest : gx_M := (yX11_shortest, cX11_shortest, 2, some .int, [], { frames := 7, cells := 1, slots := 6, locals := 117 }, none)
def mX11_sentence : gx_M := (yX11_sentence, cX11_sentence, 4, some .int, [], { frames := 7, cells := 2, slots := 12, locals := 117 }, none)
def mX11_size : gx_M := (yX11_size, cX11_size, 2, some .int, [], { frames := 7, cells := 1, slots := 6, locals := 138 }, none)
def mX11_conflicts : gx_M := (yX11_conflicts, cX11_conflicts, 2, some .int, [], { frames := 7, cells := 1, slots := 6, locals := 138 }, none)
def mX11_settled : gx_M := (yX11_settled, cX11_settled, 2, some .int, [], { frames := 7, cells := 1, slots := 6, locals := 138 }, none)
def mX11_chosen : gx_M := (yX11_chosen, cX11_chosen, 3, some .int, [], { frames := 6, cells := 0, slots := 0, locals := 138 }, none)
def mX11_put : gx_M := (yX11_put, cX11_put, 4, some .int, [], { frames := 6, cells := 1, slots := 6, locals := 88 }, none)
def mX11_cut : gx_M := (yX11_cut, cX11_cut, 4, some .int, [], { frames := 6, cells := 1, slots := 6, locals := 88 }, none)
def mX11_parse : gx_M := (yX11_parse, cX11_parse, 2, some .int, [], { frames := 7, cells := 1, slots := 6, locals := 138 }, none)
def mX11_value : gx_M := (yX11_value, cX11_value, 3, some .int, [], { frames := 7, cells := 2, slots := 12, locals := 138 }, none)
def mX11_readings : gx_M := (yX11_readings, cX11_readings, 1, some .int, [], { frames := 6, cells := 0, slots := 0, locals := 151 }, none)
def mX11_repair : gx_M := (yX11_repair, cX11_repair, 1, some .int, [], { frames := 6, cells := 0, slots := 0, locals := 151 }, none)
def mX11_forget : gx_M := (yX11_forget, cX11_forget, 1, none, [], { frames := 1, cells := 0, slots := 0, locals := 21 }, none)
def mX11_table : gx_M := (yX11_table, cX11_table, 2, some (.object "Grammarsmith$Table"), [], { frames := 5, cells := 0, slots := 0, locals := 117 }, none)
def mX11_requireNonterminal : gx_M := (yX11_requireNonterminal, cX11_requireNonterminal, 1, none, [], { frames := 6, cells := 1, slots := 6, locals := 88 }, none)
def mX11_requireKind : gx_M := (yX11_requireKind, cX11_requireKind, 1, none, [], { frames := 6, cells := 1, slots := 6, locals := 88 }, none)
def mX11_isTerminal : gx_M := (yX11_isTerminal, cX11_isTerminal, 1, some .boolean, [], { frames := 0, cells := 0, slots := 0, locals := 0 }, none)
def mX11_isNonterminal : gx_M := (yX11_isNonterminal, cX11_isNonterminal, 1, some .boolean, [], { frames := 0, cells := 0, slots := 0, locals := 0 }, none)
def mX11_isTerminalLetter : gx_M := (yX11_isTerminalLetter, cX11_isTerminalLetter, 1, some .boolean, [], { frames := 0, cells := 0, slots := 0, locals := 0 }, none)
def mX11_isNonterminalLetter : gx_M := (yX11_isNonterminalLetter, cX11_isNonterminalLetter, 1, some .boolean, [], { frames := 0, cells := 0, slots := 0, locals := 0 }, none)
def mX11_isRepeat : gx_M := (yX11_isRepeat, cX11_isRepeat, 1, some .boolean, [], { frames := 0, cells := 0, slots := 0, locals := 0 }, none)
def mX11_isLetter : gx_M := (yX11_isLetter, cX11_isLetter, 1, some .boolean, [], { frames := 1, cells := 0, slots := 0, locals := 20 }, none)
def mX11_has : gx_M := (yX11_has, cX11_has, 2, some .boolean, [], { frames := 0, cells := 0, slots := 0, locals := 0 }, none)
def mX11_behindOf : gx_M := (yX11_behindOf, cX11_behindOf, 3, some .int, [], { frames := 0, cells := 0, slots := 0, locals := 0 }, none)
def mX11_lookAt : gx_M := (yX11_lookAt, cX11_lookAt, 2, some .int, [], { frames := 0, cells := 0, slots := 0, locals := 0 }, none)
def mJ7_fill_53178 : gx_M := (yJ7_fill_53178, cJ7_fill_53178, 4, none, [], { frames := 0, cells := 0, slots := 0, locals := 0 }, none)
def mL_cell (L : Nat) (xs : Nat → Int) : gx_M := (yL_cell, cL_cell, 2, some .int, [], { frames := 0, cells := 0, slots := 0, locals := 0 }, gi_scr L xs)
def mL_type : gx_M := (yL_type, cL_type, 3, some .int, [(0, 6, 7, 15), (0, 6, 11, 17)], { frames := 7, cells := 1, slots := 6, locals := 109 }, none)
def mL_enter : gx_M := (yL_enter, cL_enter, 2, some .int, [(0, 4, 5, 15), (0, 4, 9, 17)], { frames := 7, cells := 1, slots := 6, locals := 142 }, none)
def mL_undo : gx_M := (yL_undo, cL_undo, 2, some .int, [(0, 4, 5, 17)], { frames := 7, cells := 1, slots := 6, locals := 108 }, none)
def mL_bring : gx_M := (yL_bring, cL_bring, 3, some .int, [(0, 5, 6, 15), (0, 5, 10, 17)], { frames := 7, cells := 1, slots := 6, locals := 169 }, none)
def mL_use : gx_M := (yL_use, cL_use, 3, some .int, [(0, 5, 6, 33)], { frames := 7, cells := 1, slots := 6, locals := 111 }, none)
def mL_start : gx_M := (yL_start, cL_start, 3, some .int, [(0, 5, 6, 33)], { frames := 7, cells := 1, slots := 6, locals := 110 }, none)
def mL_level : gx_M := (yL_level, cL_level, 5, some .int, [(0, 7, 8, 33), (0, 7, 13, 15)], { frames := 7, cells := 1, slots := 6, locals := 112 }, none)
def mL_left : gx_M := (yL_left, cL_left, 3, some .int, [(0, 5, 6, 33)], { frames := 7, cells := 1, slots := 6, locals := 109 }, none)
def mL_right : gx_M := (yL_right, cL_right, 4, some .int, [(0, 6, 7, 33)], { frames := 7, cells := 1, slots := 6, locals := 110 }, none)
def mL_nullable : gx_M := (yL_nullable, cL_nullable, 3, some .int, [(0, 13, 14, 33)], { frames := 8, cells := 1, slots := 6, locals := 138 }, none)
def mL_first : gx_M := (yL_first, cL_first, 3, some .int, [(0, 5, 6, 33)], { frames := 8, cells := 1, slots := 6, locals := 138 }, none)
def mL_follow : gx_M := (yL_follow, cL_follow, 3, some .int, [(0, 5, 6, 33)], { frames := 8, cells := 1, slots := 6, locals := 138 }, none)
def mL_uses : gx_M := (yL_uses, cL_uses, 3, some .int, [(0, 5, 6, 33)], { frames := 8, cells := 1, slots := 6, locals := 138 }, none)
def mL_shortest : gx_M := (yL_shortest, cL_shortest, 3, some .int, [(0, 5, 6, 33)], { frames := 8, cells := 1, slots := 6, locals := 138 }, none)
def mL_sentence : gx_M := (yL_sentence, cL_sentence, 4, some .int, [(0, 6, 7, 33), (0, 6, 11, 17)], { frames := 8, cells := 2, slots := 12, locals := 140 }, none)
def mL_size : gx_M := (yL_size, cL_size, 3, some .int, [(0, 5, 6, 33)], { frames := 8, cells := 1, slots := 6, locals := 159 }, none)
def mL_conflicts : gx_M := (yL_conflicts, cL_conflicts, 3, some .int, [(0, 5, 6, 33)], { frames := 8, cells := 1, slots := 6, locals := 159 }, none)
def mL_settled : gx_M := (yL_settled, cL_settled, 3, some .int, [(0, 5, 6, 33)], { frames := 8, cells := 1, slots := 6, locals := 159 }, none)
def mL_put : gx_M := (yL_put, cL_put, 4, some .int, [(0, 6, 7, 33), (0, 6, 11, 17)], { frames := 7, cells := 1, slots := 6, locals := 111 }, none)
def mL_cut : gx_M := (yL_cut, cL_cut, 3, some .int, [(0, 5, 6, 33)], { frames := 7, cells := 1, slots := 6, locals := 111 }, none)
def mL_parse : gx_M := (yL_parse, cL_parse, 3, some .int, [(0, 5, 6, 33)], { frames := 8, cells := 1, slots := 6, locals := 159 }, none)
def mL_value : gx_M := (yL_value, cL_value, 3, some .int, [(0, 5, 6, 33), (0, 5, 10, 17)], { frames := 8, cells := 2, slots := 12, locals := 160 }, none)
def mL_letter : gx_M := (yL_letter, cL_letter, 3, some .int, [], { frames := 0, cells := 0, slots := 0, locals := 0 }, none)
def mL_types : gx_M := (yL_types, cL_types, 5, some .boolean, [], { frames := 8, cells := 52, slots := 312, locals := 131 }, none)
def mL_draws (L : Nat) (xs : Nat → Int) : gx_M := (yL_draws, cL_draws, 6, some .int, [], { frames := 1, cells := 0, slots := 0, locals := 22 }, gi_scr L xs)
def mL_tables : gx_M := (yL_tables, cL_tables, 10, some .boolean, [], { frames := 9, cells := 63, slots := 378, locals := 181 }, none)
def mL_parses : gx_M := (yL_parses, cL_parses, 9, some .boolean, [], { frames := 9, cells := 40, slots := 240, locals := 182 }, none)
def mL_names : gx_M := (yL_names, cL_names, 5, some .boolean, [], { frames := 9, cells := 409, slots := 2454, locals := 163 }, none)
def mL_law (L : Nat) (xs : Nat → Int) : gx_M := (yL_law, cL_law, 14, some .boolean, [], { frames := 12, cells := 600130, slots := 7301080, locals := 434 }, gi_scr L xs)
theorem gw_cw_J7_fill_53178 : gx_cw mJ7_fill_53178 ∈ gx_tb := gx_ok (List.mem_of_getElem? (i := 99) (by decide +kernel)) (by decide +kernel)
theorem gp_J7_fill_53178 : (gx_y mJ7_fill_53178).cls ≠ "java/lang/invoke/MethodHandle" ∧ (gx_y mJ7_fill_53178).cls ≠ "java/lang/invoke/VarHandle" ∧ (parseMethodDescriptor (gx_y mJ7_fill_53178).desc).map (fun d => d.parameters.length) = some 2 := by decide +kernel
theorem gw_cw_L_bring : gx_cw mL_bring ∈ gx_tb := gx_ok (List.mem_of_getElem? (i := 847) (by decide +kernel)) (by decide +kernel)
theorem gp_L_bring : (gx_y mL_bring).cls ≠ "java/lang/invoke/MethodHandle" ∧ (gx_y mL_bring).cls ≠ "java/lang/invoke/VarHandle" ∧ (parseMethodDescriptor (gx_y mL_bring).desc).map (fun d => d.parameters.length) = some 2 := by decide +kernel
theorem gw_cw_L_cell {L : Nat} {xs : Nat → Int} : gx_cw (mL_cell L xs) ∈ gx_tb := (show (.code yL_cell cL_cell 2 (some .int) : Cond) ∈ gx_tb from gx_ok (List.mem_of_getElem? (i := 648) (by decide +kernel)) (by decide +kernel))
theorem gp_L_cell {L : Nat} {xs : Nat → Int} : (gx_y (mL_cell L xs)).cls ≠ "java/lang/invoke/MethodHandle" ∧ (gx_y (mL_cell L xs)).cls ≠ "java/lang/invoke/VarHandle" ∧ (parseMethodDescriptor (gx_y (mL_cell L xs)).desc).map (fun d => d.parameters.length) = some 2 := (show (yL_cell).cls ≠ "java/lang/invoke/MethodHandle" ∧ (yL_cell).cls ≠ "java/lang/invoke/VarHandle" ∧ (parseMethodDescriptor (yL_cell).desc).map (fun d => d.parameters.length) = some 2 by decide +kernel)
theorem gw_cw_L_conflicts : gx_cw mL_conflicts ∈ gx_tb := gx_ok (List.mem_of_getElem? (i := 1078) (by decide +kernel)) (by decide +kernel)
theorem gp_L_conflicts : (gx_y mL_conflicts).cls ≠ "java/lang/invoke/MethodHandle" ∧ (gx_y mL_conflicts).cls ≠ "java/lang/invoke/VarHandle" ∧ (parseMethodDescriptor (gx_y mL_conflicts).desc).map (fun d => d.parameters.length) = some 2 := by decide +kernel
theorem gw_cw_L_cut : gx_cw mL_cut ∈ gx_tb := gx_ok (List.mem_of_getElem? (i := 938) (by decide +kernel)) (by decide +kernel)
theorem gp_L_cut : (gx_y mL_cut).cls ≠ "java/lang/invoke/MethodHandle" ∧ (gx_y mL_cut).cls ≠ "java/lang/invoke/VarHandle" ∧ (parseMethodDescriptor (gx_y mL_cut).desc).map (fun d => d.parameters.length) = some 2 := by decide +kernel
theorem gw_cw_L_draws {L : Nat} {xs : Nat → Int} : gx_cw (mL_draws L xs) ∈ gx_tb := (show (.code yL_draws cL_draws 6 (some .int) : Cond) ∈ gx_tb from gx_ok (List.mem_of_getElem? (i := 957) (by decide +kernel)) (by decide +kernel))
theorem gp_L_draws {L : Nat} {xs : Nat → Int} : (gx_y (mL_draws L xs)).cls ≠ "java/lang/invoke/MethodHandle" ∧ (gx_y (mL_draws L xs)).cls ≠ "java/lang/invoke/VarHandle" ∧ (parseMethodDescriptor (gx_y (mL_draws L xs)).desc).map (fun d => d.parameters.length) = some 4 := (show (yL_draws).cls ≠ "java/lang/invoke/MethodHandle" ∧ (yL_draws).cls ≠ "java/lang/invoke/VarHandle" ∧ (parseMethodDescriptor (yL_draws).desc).map (fun d => d.parameters.length) = some 4 by decide +kernel)
theorem gw_cw_L_enter : gx_cw mL_enter ∈ gx_tb := gx_ok (List.mem_of_getElem? (i := 760) (by decide +kernel)) (by decide +kernel)
theorem gp_L_enter : (gx_y mL_enter).cls ≠ "java/lang/invoke/MethodHandle" ∧ (gx_y mL_enter).cls ≠ "java/lang/invoke/VarHandle" ∧ (parseMethodDescriptor (gx_y mL_enter).desc).map (fun d => d.parameters.length) = some 1 := by decide +kernel
theorem gw_cw_L_first : gx_cw mL_first ∈ gx_tb := gx_ok (List.mem_of_getElem? (i := 1303) (by decide +kernel)) (by decide +kernel)
theorem gp_L_first : (gx_y mL_first).cls ≠ "java/lang/invoke/MethodHandle" ∧ (gx_y mL_first).cls ≠ "java/lang/invoke/VarHandle" ∧ (parseMethodDescriptor (gx_y mL_first).desc).map (fun d => d.parameters.length) = some 2 := by decide +kernel
theorem gw_cw_L_follow : gx_cw mL_follow ∈ gx_tb := gx_ok (List.mem_of_getElem? (i := 1326) (by decide +kernel)) (by decide +kernel)
theorem gp_L_follow : (gx_y mL_follow).cls ≠ "java/lang/invoke/MethodHandle" ∧ (gx_y mL_follow).cls ≠ "java/lang/invoke/VarHandle" ∧ (parseMethodDescriptor (gx_y mL_follow).desc).map (fun d => d.parameters.length) = some 2 := by decide +kernel
theorem gw_cw_L_left : gx_cw mL_left ∈ gx_tb := gx_ok (List.mem_of_getElem? (i := 911) (by decide +kernel)) (by decide +kernel)
theorem gp_L_left : (gx_y mL_left).cls ≠ "java/lang/invoke/MethodHandle" ∧ (gx_y mL_left).cls ≠ "java/lang/invoke/VarHandle" ∧ (parseMethodDescriptor (gx_y mL_left).desc).map (fun d => d.parameters.length) = some 2 := by decide +kernel
theorem gw_cw_L_letter : gx_cw mL_letter ∈ gx_tb := gx_ok (List.mem_of_getElem? (i := 960) (by decide +kernel)) (by decide +kernel)
theorem gp_L_letter : (gx_y mL_letter).cls ≠ "java/lang/invoke/MethodHandle" ∧ (gx_y mL_letter).cls ≠ "java/lang/invoke/VarHandle" ∧ (parseMethodDescriptor (gx_y mL_letter).desc).map (fun d => d.parameters.length) = some 1 := by decide +kernel
theorem gw_cw_L_level : gx_cw mL_level ∈ gx_tb := gx_ok (List.mem_of_getElem? (i := 901) (by decide +kernel)) (by decide +kernel)
theorem gp_L_level : (gx_y mL_level).cls ≠ "java/lang/invoke/MethodHandle" ∧ (gx_y mL_level).cls ≠ "java/lang/invoke/VarHandle" ∧ (parseMethodDescriptor (gx_y mL_level).desc).map (fun d => d.parameters.length) = some 4 := by decide +kernel
theorem gw_cw_L_names : gx_cw mL_names ∈ gx_tb := gx_ok (List.mem_of_getElem? (i := 1267) (by decide +kernel)) (by decide +kernel)
theorem gp_L_names : (gx_y mL_names).cls ≠ "java/lang/invoke/MethodHandle" ∧ (gx_y mL_names).cls ≠ "java/lang/invoke/VarHandle" ∧ (parseMethodDescriptor (gx_y mL_names).desc).map (fun d => d.parameters.length) = some 1 := by decide +kernel
theorem gw_cw_L_nullable : gx_cw mL_nullable ∈ gx_tb := gx_ok (List.mem_of_getElem? (i := 1292) (by decide +kernel)) (by decide +kernel)
theorem gp_L_nullable : (gx_y mL_nullable).cls ≠ "java/lang/invoke/MethodHandle" ∧ (gx_y mL_nullable).cls ≠ "java/lang/invoke/VarHandle" ∧ (parseMethodDescriptor (gx_y mL_nullable).desc).map (fun d => d.parameters.length) = some 2 := by decide +kernel
theorem gw_cw_L_parse : gx_cw mL_parse ∈ gx_tb := gx_ok (List.mem_of_getElem? (i := 1170) (by decide +kernel)) (by decide +kernel)
theorem gp_L_parse : (gx_y mL_parse).cls ≠ "java/lang/invoke/MethodHandle" ∧ (gx_y mL_parse).cls ≠ "java/lang/invoke/VarHandle" ∧ (parseMethodDescriptor (gx_y mL_parse).desc).map (fun d => d.parameters.length) = some 2 := by decide +kernel
theorem gw_cw_L_parses : gx_cw mL_parses ∈ gx_tb := gx_ok (List.mem_of_getElem? (i := 1163) (by decide +kernel)) (by decide +kernel)
theorem gp_L_parses : (gx_y mL_parses).cls ≠ "java/lang/invoke/MethodHandle" ∧ (gx_y mL_parses).cls ≠ "java/lang/invoke/VarHandle" ∧ (parseMethodDescriptor (gx_y mL_parses).desc).map (fun d => d.parameters.length) = some 2 := by decide +kernel
theorem gw_cw_L_put : gx_cw mL_put ∈ gx_tb := gx_ok (List.mem_of_getElem? (i := 929) (by decide +kernel)) (by decide +kernel)
theorem gp_L_put : (gx_y mL_put).cls ≠ "java/lang/invoke/MethodHandle" ∧ (gx_y mL_put).cls ≠ "java/lang/invoke/VarHandle" ∧ (parseMethodDescriptor (gx_y mL_put).desc).map (fun d => d.parameters.length) = some 3 := by decide +kernel
theorem gw_cw_L_right : gx_cw mL_right ∈ gx_tb := gx_ok (List.mem_of_getElem? (i := 920) (by decide +kernel)) (by decide +kernel)
theorem gp_L_right : (gx_y mL_right).cls ≠ "java/lang/invoke/MethodHandle" ∧ (gx_y mL_right).cls ≠ "java/lang/invoke/VarHandle" ∧ (parseMethodDescriptor (gx_y mL_right).desc).map (fun d => d.parameters.length) = some 3 := by decide +kernel
theorem gw_cw_L_sentence : gx_cw mL_sentence ∈ gx_tb := gx_ok (List.mem_of_getElem? (i := 1314) (by decide +kernel)) (by decide +kernel)
theorem gp_L_sentence : (gx_y mL_sentence).cls ≠ "java/lang/invoke/MethodHandle" ∧ (gx_y mL_sentence).cls ≠ "java/lang/invoke/VarHandle" ∧ (parseMethodDescriptor (gx_y mL_sentence).desc).map (fun d => d.parameters.length) = some 3 := by decide +kernel
theorem gw_cw_L_settled : gx_cw mL_settled ∈ gx_tb := gx_ok (List.mem_of_getElem? (i := 1143) (by decide +kernel)) (by decide +kernel)
theorem gp_L_settled : (gx_y mL_settled).cls ≠ "java/lang/invoke/MethodHandle" ∧ (gx_y mL_settled).cls ≠ "java/lang/invoke/VarHandle" ∧ (parseMethodDescriptor (gx_y mL_settled).desc).map (fun d => d.parameters.length) = some 2 := by decide +kernel
theorem gw_cw_L_shortest : gx_cw mL_shortest ∈ gx_tb := gx_ok (List.mem_of_getElem? (i := 1270) (by decide +kernel)) (by decide +kernel)
theorem gp_L_shortest : (gx_y mL_shortest).cls ≠ "java/lang/invoke/MethodHandle" ∧ (gx_y mL_shortest).cls ≠ "java/lang/invoke/VarHandle" ∧ (parseMethodDescriptor (gx_y mL_shortest).desc).map (fun d => d.parameters.length) = some 2 := by decide +kernel
theorem gw_cw_L_size : gx_cw mL_size ∈ gx_tb := gx_ok (List.mem_of_getElem? (i := 966) (by decide +kernel)) (by decide +kernel)
theorem gp_L_size : (gx_y mL_size).cls ≠ "java/lang/invoke/MethodHandle" ∧ (gx_y mL_size).cls ≠ "java/lang/invoke/VarHandle" ∧ (parseMethodDescriptor (gx_y mL_size).desc).map (fun d => d.parameters.length) = some 2 := by decide +kernel
theorem gw_cw_L_start : gx_cw mL_start ∈ gx_tb := gx_ok (List.mem_of_getElem? (i := 889) (by decide +kernel)) (by decide +kernel)
theorem gp_L_start : (gx_y mL_start).cls ≠ "java/lang/invoke/MethodHandle" ∧ (gx_y mL_start).cls ≠ "java/lang/invoke/VarHandle" ∧ (parseMethodDescriptor (gx_y mL_start).desc).map (fun d => d.parameters.length) = some 2 := by decide +kernel
theorem gw_cw_L_tables : gx_cw mL_tables ∈ gx_tb := gx_ok (List.mem_of_getElem? (i := 963) (by decide +kernel)) (by decide +kernel)
theorem gp_L_tables : (gx_y mL_tables).cls ≠ "java/lang/invoke/MethodHandle" ∧ (gx_y mL_tables).cls ≠ "java/lang/invoke/VarHandle" ∧ (parseMethodDescriptor (gx_y mL_tables).desc).map (fun d => d.parameters.length) = some 1 := by decide +kernel
theorem gw_cw_L_type : gx_cw mL_type ∈ gx_tb := gx_ok (List.mem_of_getElem? (i := 653) (by decide +kernel)) (by decide +kernel)
theorem gp_L_type : (gx_y mL_type).cls ≠ "java/lang/invoke/MethodHandle" ∧ (gx_y mL_type).cls ≠ "java/lang/invoke/VarHandle" ∧ (parseMethodDescriptor (gx_y mL_type).desc).map (fun d => d.parameters.length) = some 2 := by decide +kernel
theorem gw_cw_L_types : gx_cw mL_types ∈ gx_tb := gx_ok (List.mem_of_getElem? (i := 946) (by decide +kernel)) (by decide +kernel)
theorem gp_L_types : (gx_y mL_types).cls ≠ "java/lang/invoke/MethodHandle" ∧ (gx_y mL_types).cls ≠ "java/lang/invoke/VarHandle" ∧ (parseMethodDescriptor (gx_y mL_types).desc).map (fun d => d.parameters.length) = some 3 := by decide +kernel
theorem gw_cw_L_undo : gx_cw mL_undo ∈ gx_tb := gx_ok (List.mem_of_getElem? (i := 835) (by decide +kernel)) (by decide +kernel)
theorem gp_L_undo : (gx_y mL_undo).cls ≠ "java/lang/invoke/MethodHandle" ∧ (gx_y mL_undo).cls ≠ "java/lang/invoke/VarHandle" ∧ (parseMethodDescriptor (gx_y mL_undo).desc).map (fun d => d.parameters.length) = some 1 := by decide +kernel
theorem gw_cw_L_use : gx_cw mL_use ∈ gx_tb := gx_ok (List.mem_of_getElem? (i := 865) (by decide +kernel)) (by decide +kernel)
theorem gp_L_use : (gx_y mL_use).cls ≠ "java/lang/invoke/MethodHandle" ∧ (gx_y mL_use).cls ≠ "java/lang/invoke/VarHandle" ∧ (parseMethodDescriptor (gx_y mL_use).desc).map (fun d => d.parameters.length) = some 2 := by decide +kernel
theorem gw_cw_L_uses : gx_cw mL_uses ∈ gx_tb := gx_ok (List.mem_of_getElem? (i := 1281) (by decide +kernel)) (by decide +kernel)
theorem gp_L_uses : (gx_y mL_uses).cls ≠ "java/lang/invoke/MethodHandle" ∧ (gx_y mL_uses).cls ≠ "java/lang/invoke/VarHandle" ∧ (parseMethodDescriptor (gx_y mL_uses).desc).map (fun d => d.parameters.length) = some 2 := by decide +kernel
theorem gw_cw_L_value : gx_cw mL_value ∈ gx_tb := gx_ok (List.mem_of_getElem? (i := 1253) (by decide +kernel)) (by decide +kernel)
theorem gp_L_value : (gx_y mL_value).cls ≠ "java/lang/invoke/MethodHandle" ∧ (gx_y mL_value).cls ≠ "java/lang/invoke/VarHandle" ∧ (parseMethodDescriptor (gx_y mL_value).desc).map (fun d => d.parameters.length) = some 2 := by decide +kernel
theorem gw_cw_X0_addItems : gx_cw mX0_addItems ∈ gx_tb := gx_ok (List.mem_of_getElem? (i := 1005) (by decide +kernel)) (by decide +kernel)
theorem gp_X0_addItems : (gx_y mX0_addItems).cls ≠ "java/lang/invoke/MethodHandle" ∧ (gx_y mX0_addItems).cls ≠ "java/lang/invoke/VarHandle" ∧ (parseMethodDescriptor (gx_y mX0_addItems).desc).map (fun d => d.parameters.length) = some 2 := by decide +kernel
theorem gw_cw_X0_addState : gx_cw mX0_addState ∈ gx_tb := gx_ok (List.mem_of_getElem? (i := 987) (by decide +kernel)) (by decide +kernel)
theorem gp_X0_addState : (gx_y mX0_addState).cls ≠ "java/lang/invoke/MethodHandle" ∧ (gx_y mX0_addState).cls ≠ "java/lang/invoke/VarHandle" ∧ (parseMethodDescriptor (gx_y mX0_addState).desc).map (fun d => d.parameters.length) = some 1 := by decide +kernel
theorem gw_cw_X0_advance : gx_cw mX0_advance ∈ gx_tb := gx_ok (List.mem_of_getElem? (i := 1030) (by decide +kernel)) (by decide +kernel)
theorem gp_X0_advance : (gx_y mX0_advance).cls ≠ "java/lang/invoke/MethodHandle" ∧ (gx_y mX0_advance).cls ≠ "java/lang/invoke/VarHandle" ∧ (parseMethodDescriptor (gx_y mX0_advance).desc).map (fun d => d.parameters.length) = some 2 := by decide +kernel
theorem gw_cw_X0_beginsFresh : gx_cw mX0_beginsFresh ∈ gx_tb := gx_ok (List.mem_of_getElem? (i := 1038) (by decide +kernel)) (by decide +kernel)
theorem gp_X0_beginsFresh : (gx_y mX0_beginsFresh).cls ≠ "java/lang/invoke/MethodHandle" ∧ (gx_y mX0_beginsFresh).cls ≠ "java/lang/invoke/VarHandle" ∧ (parseMethodDescriptor (gx_y mX0_beginsFresh).desc).map (fun d => d.parameters.length) = some 1 := by decide +kernel
theorem gw_cw_X0_build : gx_cw mX0_build ∈ gx_tb := gx_ok (List.mem_of_getElem? (i := 982) (by decide +kernel)) (by decide +kernel)
theorem gp_X0_build : (gx_y mX0_build).cls ≠ "java/lang/invoke/MethodHandle" ∧ (gx_y mX0_build).cls ≠ "java/lang/invoke/VarHandle" ∧ (parseMethodDescriptor (gx_y mX0_build).desc).map (fun d => d.parameters.length) = some 0 := by decide +kernel
theorem gw_cw_X0_complete : gx_cw mX0_complete ∈ gx_tb := gx_ok (List.mem_of_getElem? (i := 992) (by decide +kernel)) (by decide +kernel)
theorem gp_X0_complete : (gx_y mX0_complete).cls ≠ "java/lang/invoke/MethodHandle" ∧ (gx_y mX0_complete).cls ≠ "java/lang/invoke/VarHandle" ∧ (parseMethodDescriptor (gx_y mX0_complete).desc).map (fun d => d.parameters.length) = some 1 := by decide +kernel
theorem gw_cw_X0_extent : gx_cw mX0_extent ∈ gx_tb := gx_ok (List.mem_of_getElem? (i := 1075) (by decide +kernel)) (by decide +kernel)
theorem gp_X0_extent : (gx_y mX0_extent).cls ≠ "java/lang/invoke/MethodHandle" ∧ (gx_y mX0_extent).cls ≠ "java/lang/invoke/VarHandle" ∧ (parseMethodDescriptor (gx_y mX0_extent).desc).map (fun d => d.parameters.length) = some 0 := by decide +kernel
theorem gw_cw_X0_facts : gx_cw mX0_facts ∈ gx_tb := gx_ok (List.mem_of_getElem? (i := 1103) (by decide +kernel)) (by decide +kernel)
theorem gp_X0_facts : (gx_y mX0_facts).cls ≠ "java/lang/invoke/MethodHandle" ∧ (gx_y mX0_facts).cls ≠ "java/lang/invoke/VarHandle" ∧ (parseMethodDescriptor (gx_y mX0_facts).desc).map (fun d => d.parameters.length) = some 0 := by decide +kernel
theorem gw_cw_X0_findState : gx_cw mX0_findState ∈ gx_tb := gx_ok (List.mem_of_getElem? (i := 1034) (by decide +kernel)) (by decide +kernel)
theorem gp_X0_findState : (gx_y mX0_findState).cls ≠ "java/lang/invoke/MethodHandle" ∧ (gx_y mX0_findState).cls ≠ "java/lang/invoke/VarHandle" ∧ (parseMethodDescriptor (gx_y mX0_findState).desc).map (fun d => d.parameters.length) = some 1 := by decide +kernel
theorem gw_cw_X0_forget : gx_cw mX0_forget ∈ gx_tb := gx_ok (List.mem_of_getElem? (i := 832) (by decide +kernel)) (by decide +kernel)
theorem gp_X0_forget : (gx_y mX0_forget).cls ≠ "java/lang/invoke/MethodHandle" ∧ (gx_y mX0_forget).cls ≠ "java/lang/invoke/VarHandle" ∧ (parseMethodDescriptor (gx_y mX0_forget).desc).map (fun d => d.parameters.length) = some 0 := by decide +kernel
theorem gw_cw_X0_init : gx_cw mX0_init ∈ gx_tb := gx_ok (List.mem_of_getElem? (i := 154) (by decide +kernel)) (by decide +kernel)
theorem gp_X0_init : (gx_y mX0_init).cls ≠ "java/lang/invoke/MethodHandle" ∧ (gx_y mX0_init).cls ≠ "java/lang/invoke/VarHandle" ∧ (parseMethodDescriptor (gx_y mX0_init).desc).map (fun d => d.parameters.length) = some 2 := by decide +kernel
theorem gw_cw_X0_leave : gx_cw mX0_leave ∈ gx_tb := gx_ok (List.mem_of_getElem? (i := 1021) (by decide +kernel)) (by decide +kernel)
theorem gp_X0_leave : (gx_y mX0_leave).cls ≠ "java/lang/invoke/MethodHandle" ∧ (gx_y mX0_leave).cls ≠ "java/lang/invoke/VarHandle" ∧ (parseMethodDescriptor (gx_y mX0_leave).desc).map (fun d => d.parameters.length) = some 1 := by decide +kernel
theorem gw_cw_X0_mergeInto : gx_cw mX0_mergeInto ∈ gx_tb := gx_ok (List.mem_of_getElem? (i := 1042) (by decide +kernel)) (by decide +kernel)
theorem gp_X0_mergeInto : (gx_y mX0_mergeInto).cls ≠ "java/lang/invoke/MethodHandle" ∧ (gx_y mX0_mergeInto).cls ≠ "java/lang/invoke/VarHandle" ∧ (parseMethodDescriptor (gx_y mX0_mergeInto).desc).map (fun d => d.parameters.length) = some 1 := by decide +kernel
theorem gw_cw_X0_move : gx_cw mX0_move ∈ gx_tb := gx_ok (List.mem_of_getElem? (i := 1109) (by decide +kernel)) (by decide +kernel)
theorem gp_X0_move : (gx_y mX0_move).cls ≠ "java/lang/invoke/MethodHandle" ∧ (gx_y mX0_move).cls ≠ "java/lang/invoke/VarHandle" ∧ (parseMethodDescriptor (gx_y mX0_move).desc).map (fun d => d.parameters.length) = some 2 := by decide +kernel
theorem gw_cw_X0_row : gx_cw mX0_row ∈ gx_tb := gx_ok (List.mem_of_getElem? (i := 996) (by decide +kernel)) (by decide +kernel)
theorem gp_X0_row : (gx_y mX0_row).cls ≠ "java/lang/invoke/MethodHandle" ∧ (gx_y mX0_row).cls ≠ "java/lang/invoke/VarHandle" ∧ (parseMethodDescriptor (gx_y mX0_row).desc).map (fun d => d.parameters.length) = some 2 := by decide +kernel
theorem gw_cw_X0_symbolsInFront : gx_cw mX0_symbolsInFront ∈ gx_tb := gx_ok (List.mem_of_getElem? (i := 1025) (by decide +kernel)) (by decide +kernel)
theorem gp_X0_symbolsInFront : (gx_y mX0_symbolsInFront).cls ≠ "java/lang/invoke/MethodHandle" ∧ (gx_y mX0_symbolsInFront).cls ≠ "java/lang/invoke/VarHandle" ∧ (parseMethodDescriptor (gx_y mX0_symbolsInFront).desc).map (fun d => d.parameters.length) = some 1 := by decide +kernel
theorem gw_cw_X0_widen : gx_cw mX0_widen ∈ gx_tb := gx_ok (List.mem_of_getElem? (i := 1017) (by decide +kernel)) (by decide +kernel)
theorem gp_X0_widen : (gx_y mX0_widen).cls ≠ "java/lang/invoke/MethodHandle" ∧ (gx_y mX0_widen).cls ≠ "java/lang/invoke/VarHandle" ∧ (parseMethodDescriptor (gx_y mX0_widen).desc).map (fun d => d.parameters.length) = some 3 := by decide +kernel
theorem gw_cw_X10_init : gx_cw mX10_init ∈ gx_tb := gx_ok (List.mem_of_getElem? (i := 195) (by decide +kernel)) (by decide +kernel)
theorem gp_X10_init : (gx_y mX10_init).cls ≠ "java/lang/invoke/MethodHandle" ∧ (gx_y mX10_init).cls ≠ "java/lang/invoke/VarHandle" ∧ (parseMethodDescriptor (gx_y mX10_init).desc).map (fun d => d.parameters.length) = some 0 := by decide +kernel
theorem gw_cw_X10_keepWorth : gx_cw mX10_keepWorth ∈ gx_tb := gx_ok (List.mem_of_getElem? (i := 1210) (by decide +kernel)) (by decide +kernel)
theorem gp_X10_keepWorth : (gx_y mX10_keepWorth).cls ≠ "java/lang/invoke/MethodHandle" ∧ (gx_y mX10_keepWorth).cls ≠ "java/lang/invoke/VarHandle" ∧ (parseMethodDescriptor (gx_y mX10_keepWorth).desc).map (fun d => d.parameters.length) = some 1 := by decide +kernel
theorem gw_cw_X10_worth : gx_cw mX10_worth ∈ gx_tb := gx_ok (List.mem_of_getElem? (i := 1264) (by decide +kernel)) (by decide +kernel)
theorem gp_X10_worth : (gx_y mX10_worth).cls ≠ "java/lang/invoke/MethodHandle" ∧ (gx_y mX10_worth).cls ≠ "java/lang/invoke/VarHandle" ∧ (parseMethodDescriptor (gx_y mX10_worth).desc).map (fun d => d.parameters.length) = some 0 := by decide +kernel
theorem gw_cw_X11_behindOf : gx_cw mX11_behindOf ∈ gx_tb := gx_ok (List.mem_of_getElem? (i := 446) (by decide +kernel)) (by decide +kernel)
theorem gp_X11_behindOf : (gx_y mX11_behindOf).cls ≠ "java/lang/invoke/MethodHandle" ∧ (gx_y mX11_behindOf).cls ≠ "java/lang/invoke/VarHandle" ∧ (parseMethodDescriptor (gx_y mX11_behindOf).desc).map (fun d => d.parameters.length) = some 2 := by decide +kernel
theorem gw_cw_X11_bring : gx_cw mX11_bring ∈ gx_tb := gx_ok (List.mem_of_getElem? (i := 851) (by decide +kernel)) (by decide +kernel)
theorem gp_X11_bring : (gx_y mX11_bring).cls ≠ "java/lang/invoke/MethodHandle" ∧ (gx_y mX11_bring).cls ≠ "java/lang/invoke/VarHandle" ∧ (parseMethodDescriptor (gx_y mX11_bring).desc).map (fun d => d.parameters.length) = some 1 := by decide +kernel
theorem gw_cw_X11_chosen : gx_cw mX11_chosen ∈ gx_tb := gx_ok (List.mem_of_getElem? (i := 1160) (by decide +kernel)) (by decide +kernel)
theorem gp_X11_chosen : (gx_y mX11_chosen).cls ≠ "java/lang/invoke/MethodHandle" ∧ (gx_y mX11_chosen).cls ≠ "java/lang/invoke/VarHandle" ∧ (parseMethodDescriptor (gx_y mX11_chosen).desc).map (fun d => d.parameters.length) = some 0 := by decide +kernel
theorem gw_cw_X11_conflicts : gx_cw mX11_conflicts ∈ gx_tb := gx_ok (List.mem_of_getElem? (i := 1082) (by decide +kernel)) (by decide +kernel)
theorem gp_X11_conflicts : (gx_y mX11_conflicts).cls ≠ "java/lang/invoke/MethodHandle" ∧ (gx_y mX11_conflicts).cls ≠ "java/lang/invoke/VarHandle" ∧ (parseMethodDescriptor (gx_y mX11_conflicts).desc).map (fun d => d.parameters.length) = some 1 := by decide +kernel
theorem gw_cw_X11_cut : gx_cw mX11_cut ∈ gx_tb := gx_ok (List.mem_of_getElem? (i := 942) (by decide +kernel)) (by decide +kernel)
theorem gp_X11_cut : (gx_y mX11_cut).cls ≠ "java/lang/invoke/MethodHandle" ∧ (gx_y mX11_cut).cls ≠ "java/lang/invoke/VarHandle" ∧ (parseMethodDescriptor (gx_y mX11_cut).desc).map (fun d => d.parameters.length) = some 1 := by decide +kernel
theorem gw_cw_X11_enter : gx_cw mX11_enter ∈ gx_tb := gx_ok (List.mem_of_getElem? (i := 764) (by decide +kernel)) (by decide +kernel)
theorem gp_X11_enter : (gx_y mX11_enter).cls ≠ "java/lang/invoke/MethodHandle" ∧ (gx_y mX11_enter).cls ≠ "java/lang/invoke/VarHandle" ∧ (parseMethodDescriptor (gx_y mX11_enter).desc).map (fun d => d.parameters.length) = some 0 := by decide +kernel
theorem gw_cw_X11_fault : gx_cw mX11_fault ∈ gx_tb := gx_ok (List.mem_of_getElem? (i := 355) (by decide +kernel)) (by decide +kernel)
theorem gp_X11_fault : (gx_y mX11_fault).cls ≠ "java/lang/invoke/MethodHandle" ∧ (gx_y mX11_fault).cls ≠ "java/lang/invoke/VarHandle" ∧ (parseMethodDescriptor (gx_y mX11_fault).desc).map (fun d => d.parameters.length) = some 0 := by decide +kernel
theorem gw_cw_X11_first : gx_cw mX11_first ∈ gx_tb := gx_ok (List.mem_of_getElem? (i := 1307) (by decide +kernel)) (by decide +kernel)
theorem gp_X11_first : (gx_y mX11_first).cls ≠ "java/lang/invoke/MethodHandle" ∧ (gx_y mX11_first).cls ≠ "java/lang/invoke/VarHandle" ∧ (parseMethodDescriptor (gx_y mX11_first).desc).map (fun d => d.parameters.length) = some 1 := by decide +kernel
theorem gw_cw_X11_follow : gx_cw mX11_follow ∈ gx_tb := gx_ok (List.mem_of_getElem? (i := 1330) (by decide +kernel)) (by decide +kernel)
theorem gp_X11_follow : (gx_y mX11_follow).cls ≠ "java/lang/invoke/MethodHandle" ∧ (gx_y mX11_follow).cls ≠ "java/lang/invoke/VarHandle" ∧ (parseMethodDescriptor (gx_y mX11_follow).desc).map (fun d => d.parameters.length) = some 1 := by decide +kernel
theorem gw_cw_X11_forget : gx_cw mX11_forget ∈ gx_tb := gx_ok (List.mem_of_getElem? (i := 824) (by decide +kernel)) (by decide +kernel)
theorem gp_X11_forget : (gx_y mX11_forget).cls ≠ "java/lang/invoke/MethodHandle" ∧ (gx_y mX11_forget).cls ≠ "java/lang/invoke/VarHandle" ∧ (parseMethodDescriptor (gx_y mX11_forget).desc).map (fun d => d.parameters.length) = some 0 := by decide +kernel
theorem gw_cw_X11_has : gx_cw mX11_has ∈ gx_tb := gx_ok (List.mem_of_getElem? (i := 461) (by decide +kernel)) (by decide +kernel)
theorem gp_X11_has : (gx_y mX11_has).cls ≠ "java/lang/invoke/MethodHandle" ∧ (gx_y mX11_has).cls ≠ "java/lang/invoke/VarHandle" ∧ (parseMethodDescriptor (gx_y mX11_has).desc).map (fun d => d.parameters.length) = some 2 := by decide +kernel
theorem gw_cw_X11_init : gx_cw mX11_init ∈ gx_tb := gx_ok (List.mem_of_getElem? (i := 25) (by decide +kernel)) (by decide +kernel)
theorem gp_X11_init : (gx_y mX11_init).cls ≠ "java/lang/invoke/MethodHandle" ∧ (gx_y mX11_init).cls ≠ "java/lang/invoke/VarHandle" ∧ (parseMethodDescriptor (gx_y mX11_init).desc).map (fun d => d.parameters.length) = some 0 := by decide +kernel
theorem gw_cw_X11_isLetter : gx_cw mX11_isLetter ∈ gx_tb := gx_ok (List.mem_of_getElem? (i := 662) (by decide +kernel)) (by decide +kernel)
theorem gp_X11_isLetter : (gx_y mX11_isLetter).cls ≠ "java/lang/invoke/MethodHandle" ∧ (gx_y mX11_isLetter).cls ≠ "java/lang/invoke/VarHandle" ∧ (parseMethodDescriptor (gx_y mX11_isLetter).desc).map (fun d => d.parameters.length) = some 1 := by decide +kernel
theorem gw_cw_X11_isNonterminal : gx_cw mX11_isNonterminal ∈ gx_tb := gx_ok (List.mem_of_getElem? (i := 439) (by decide +kernel)) (by decide +kernel)
theorem gp_X11_isNonterminal : (gx_y mX11_isNonterminal).cls ≠ "java/lang/invoke/MethodHandle" ∧ (gx_y mX11_isNonterminal).cls ≠ "java/lang/invoke/VarHandle" ∧ (parseMethodDescriptor (gx_y mX11_isNonterminal).desc).map (fun d => d.parameters.length) = some 1 := by decide +kernel
theorem gw_cw_X11_isNonterminalLetter : gx_cw mX11_isNonterminalLetter ∈ gx_tb := gx_ok (List.mem_of_getElem? (i := 369) (by decide +kernel)) (by decide +kernel)
theorem gp_X11_isNonterminalLetter : (gx_y mX11_isNonterminalLetter).cls ≠ "java/lang/invoke/MethodHandle" ∧ (gx_y mX11_isNonterminalLetter).cls ≠ "java/lang/invoke/VarHandle" ∧ (parseMethodDescriptor (gx_y mX11_isNonterminalLetter).desc).map (fun d => d.parameters.length) = some 1 := by decide +kernel
theorem gw_cw_X11_isNullable : gx_cw mX11_isNullable ∈ gx_tb := gx_ok (List.mem_of_getElem? (i := 1296) (by decide +kernel)) (by decide +kernel)
theorem gp_X11_isNullable : (gx_y mX11_isNullable).cls ≠ "java/lang/invoke/MethodHandle" ∧ (gx_y mX11_isNullable).cls ≠ "java/lang/invoke/VarHandle" ∧ (parseMethodDescriptor (gx_y mX11_isNullable).desc).map (fun d => d.parameters.length) = some 1 := by decide +kernel
theorem gw_cw_X11_isRepeat : gx_cw mX11_isRepeat ∈ gx_tb := gx_ok (List.mem_of_getElem? (i := 378) (by decide +kernel)) (by decide +kernel)
theorem gp_X11_isRepeat : (gx_y mX11_isRepeat).cls ≠ "java/lang/invoke/MethodHandle" ∧ (gx_y mX11_isRepeat).cls ≠ "java/lang/invoke/VarHandle" ∧ (parseMethodDescriptor (gx_y mX11_isRepeat).desc).map (fun d => d.parameters.length) = some 1 := by decide +kernel
theorem gw_cw_X11_isTerminal : gx_cw mX11_isTerminal ∈ gx_tb := gx_ok (List.mem_of_getElem? (i := 583) (by decide +kernel)) (by decide +kernel)
theorem gp_X11_isTerminal : (gx_y mX11_isTerminal).cls ≠ "java/lang/invoke/MethodHandle" ∧ (gx_y mX11_isTerminal).cls ≠ "java/lang/invoke/VarHandle" ∧ (parseMethodDescriptor (gx_y mX11_isTerminal).desc).map (fun d => d.parameters.length) = some 1 := by decide +kernel
theorem gw_cw_X11_isTerminalLetter : gx_cw mX11_isTerminalLetter ∈ gx_tb := gx_ok (List.mem_of_getElem? (i := 372) (by decide +kernel)) (by decide +kernel)
theorem gp_X11_isTerminalLetter : (gx_y mX11_isTerminalLetter).cls ≠ "java/lang/invoke/MethodHandle" ∧ (gx_y mX11_isTerminalLetter).cls ≠ "java/lang/invoke/VarHandle" ∧ (parseMethodDescriptor (gx_y mX11_isTerminalLetter).desc).map (fun d => d.parameters.length) = some 1 := by decide +kernel
theorem gw_cw_X11_left : gx_cw mX11_left ∈ gx_tb := gx_ok (List.mem_of_getElem? (i := 915) (by decide +kernel)) (by decide +kernel)
theorem gp_X11_left : (gx_y mX11_left).cls ≠ "java/lang/invoke/MethodHandle" ∧ (gx_y mX11_left).cls ≠ "java/lang/invoke/VarHandle" ∧ (parseMethodDescriptor (gx_y mX11_left).desc).map (fun d => d.parameters.length) = some 1 := by decide +kernel
theorem gw_cw_X11_level : gx_cw mX11_level ∈ gx_tb := gx_ok (List.mem_of_getElem? (i := 905) (by decide +kernel)) (by decide +kernel)
theorem gp_X11_level : (gx_y mX11_level).cls ≠ "java/lang/invoke/MethodHandle" ∧ (gx_y mX11_level).cls ≠ "java/lang/invoke/VarHandle" ∧ (parseMethodDescriptor (gx_y mX11_level).desc).map (fun d => d.parameters.length) = some 3 := by decide +kernel
theorem gw_cw_X11_lookAt : gx_cw mX11_lookAt ∈ gx_tb := gx_ok (List.mem_of_getElem? (i := 1188) (by decide +kernel)) (by decide +kernel)
theorem gp_X11_lookAt : (gx_y mX11_lookAt).cls ≠ "java/lang/invoke/MethodHandle" ∧ (gx_y mX11_lookAt).cls ≠ "java/lang/invoke/VarHandle" ∧ (parseMethodDescriptor (gx_y mX11_lookAt).desc).map (fun d => d.parameters.length) = some 2 := by decide +kernel
theorem gw_cw_X11_parse : gx_cw mX11_parse ∈ gx_tb := gx_ok (List.mem_of_getElem? (i := 1174) (by decide +kernel)) (by decide +kernel)
theorem gp_X11_parse : (gx_y mX11_parse).cls ≠ "java/lang/invoke/MethodHandle" ∧ (gx_y mX11_parse).cls ≠ "java/lang/invoke/VarHandle" ∧ (parseMethodDescriptor (gx_y mX11_parse).desc).map (fun d => d.parameters.length) = some 1 := by decide +kernel
theorem gw_cw_X11_productions : gx_cw mX11_productions ∈ gx_tb := gx_ok (List.mem_of_getElem? (i := 382) (by decide +kernel)) (by decide +kernel)
theorem gp_X11_productions : (gx_y mX11_productions).cls ≠ "java/lang/invoke/MethodHandle" ∧ (gx_y mX11_productions).cls ≠ "java/lang/invoke/VarHandle" ∧ (parseMethodDescriptor (gx_y mX11_productions).desc).map (fun d => d.parameters.length) = some 0 := by decide +kernel
theorem gw_cw_X11_put : gx_cw mX11_put ∈ gx_tb := gx_ok (List.mem_of_getElem? (i := 933) (by decide +kernel)) (by decide +kernel)
theorem gp_X11_put : (gx_y mX11_put).cls ≠ "java/lang/invoke/MethodHandle" ∧ (gx_y mX11_put).cls ≠ "java/lang/invoke/VarHandle" ∧ (parseMethodDescriptor (gx_y mX11_put).desc).map (fun d => d.parameters.length) = some 2 := by decide +kernel
theorem gw_cw_X11_readings : gx_cw mX11_readings ∈ gx_tb := gx_ok (List.mem_of_getElem? (i := 1167) (by decide +kernel)) (by decide +kernel)
theorem gp_X11_readings : (gx_y mX11_readings).cls ≠ "java/lang/invoke/MethodHandle" ∧ (gx_y mX11_readings).cls ≠ "java/lang/invoke/VarHandle" ∧ (parseMethodDescriptor (gx_y mX11_readings).desc).map (fun d => d.parameters.length) = some 0 := by decide +kernel
theorem gw_cw_X11_repair : gx_cw mX11_repair ∈ gx_tb := gx_ok (List.mem_of_getElem? (i := 390) (by decide +kernel)) (by decide +kernel)
theorem gp_X11_repair : (gx_y mX11_repair).cls ≠ "java/lang/invoke/MethodHandle" ∧ (gx_y mX11_repair).cls ≠ "java/lang/invoke/VarHandle" ∧ (parseMethodDescriptor (gx_y mX11_repair).desc).map (fun d => d.parameters.length) = some 0 := by decide +kernel
theorem gw_cw_X11_requireKind : gx_cw mX11_requireKind ∈ gx_tb := gx_ok (List.mem_of_getElem? (i := 973) (by decide +kernel)) (by decide +kernel)
theorem gp_X11_requireKind : (gx_y mX11_requireKind).cls ≠ "java/lang/invoke/MethodHandle" ∧ (gx_y mX11_requireKind).cls ≠ "java/lang/invoke/VarHandle" ∧ (parseMethodDescriptor (gx_y mX11_requireKind).desc).map (fun d => d.parameters.length) = some 1 := by decide +kernel
theorem gw_cw_X11_requireNonterminal : gx_cw mX11_requireNonterminal ∈ gx_tb := gx_ok (List.mem_of_getElem? (i := 1277) (by decide +kernel)) (by decide +kernel)
theorem gp_X11_requireNonterminal : (gx_y mX11_requireNonterminal).cls ≠ "java/lang/invoke/MethodHandle" ∧ (gx_y mX11_requireNonterminal).cls ≠ "java/lang/invoke/VarHandle" ∧ (parseMethodDescriptor (gx_y mX11_requireNonterminal).desc).map (fun d => d.parameters.length) = some 1 := by decide +kernel
theorem gw_cw_X11_right : gx_cw mX11_right ∈ gx_tb := gx_ok (List.mem_of_getElem? (i := 924) (by decide +kernel)) (by decide +kernel)
theorem gp_X11_right : (gx_y mX11_right).cls ≠ "java/lang/invoke/MethodHandle" ∧ (gx_y mX11_right).cls ≠ "java/lang/invoke/VarHandle" ∧ (parseMethodDescriptor (gx_y mX11_right).desc).map (fun d => d.parameters.length) = some 2 := by decide +kernel
theorem gw_cw_X11_sentence : gx_cw mX11_sentence ∈ gx_tb := gx_ok (List.mem_of_getElem? (i := 1318) (by decide +kernel)) (by decide +kernel)
theorem gp_X11_sentence : (gx_y mX11_sentence).cls ≠ "java/lang/invoke/MethodHandle" ∧ (gx_y mX11_sentence).cls ≠ "java/lang/invoke/VarHandle" ∧ (parseMethodDescriptor (gx_y mX11_sentence).desc).map (fun d => d.parameters.length) = some 2 := by decide +kernel
theorem gw_cw_X11_settled : gx_cw mX11_settled ∈ gx_tb := gx_ok (List.mem_of_getElem? (i := 1147) (by decide +kernel)) (by decide +kernel)
theorem gp_X11_settled : (gx_y mX11_settled).cls ≠ "java/lang/invoke/MethodHandle" ∧ (gx_y mX11_settled).cls ≠ "java/lang/invoke/VarHandle" ∧ (parseMethodDescriptor (gx_y mX11_settled).desc).map (fun d => d.parameters.length) = some 1 := by decide +kernel
theorem gw_cw_X11_shortest : gx_cw mX11_shortest ∈ gx_tb := gx_ok (List.mem_of_getElem? (i := 1274) (by decide +kernel)) (by decide +kernel)
theorem gp_X11_shortest : (gx_y mX11_shortest).cls ≠ "java/lang/invoke/MethodHandle" ∧ (gx_y mX11_shortest).cls ≠ "java/lang/invoke/VarHandle" ∧ (parseMethodDescriptor (gx_y mX11_shortest).desc).map (fun d => d.parameters.length) = some 1 := by decide +kernel
theorem gw_cw_X11_size : gx_cw mX11_size ∈ gx_tb := gx_ok (List.mem_of_getElem? (i := 970) (by decide +kernel)) (by decide +kernel)
theorem gp_X11_size : (gx_y mX11_size).cls ≠ "java/lang/invoke/MethodHandle" ∧ (gx_y mX11_size).cls ≠ "java/lang/invoke/VarHandle" ∧ (parseMethodDescriptor (gx_y mX11_size).desc).map (fun d => d.parameters.length) = some 1 := by decide +kernel
theorem gw_cw_X11_start : gx_cw mX11_start ∈ gx_tb := gx_ok (List.mem_of_getElem? (i := 893) (by decide +kernel)) (by decide +kernel)
theorem gp_X11_start : (gx_y mX11_start).cls ≠ "java/lang/invoke/MethodHandle" ∧ (gx_y mX11_start).cls ≠ "java/lang/invoke/VarHandle" ∧ (parseMethodDescriptor (gx_y mX11_start).desc).map (fun d => d.parameters.length) = some 1 := by decide +kernel
theorem gw_cw_X11_table : gx_cw mX11_table ∈ gx_tb := gx_ok (List.mem_of_getElem? (i := 978) (by decide +kernel)) (by decide +kernel)
theorem gp_X11_table : (gx_y mX11_table).cls ≠ "java/lang/invoke/MethodHandle" ∧ (gx_y mX11_table).cls ≠ "java/lang/invoke/VarHandle" ∧ (parseMethodDescriptor (gx_y mX11_table).desc).map (fun d => d.parameters.length) = some 1 := by decide +kernel
theorem gw_cw_X11_type : gx_cw mX11_type ∈ gx_tb := gx_ok (List.mem_of_getElem? (i := 659) (by decide +kernel)) (by decide +kernel)
theorem gp_X11_type : (gx_y mX11_type).cls ≠ "java/lang/invoke/MethodHandle" ∧ (gx_y mX11_type).cls ≠ "java/lang/invoke/VarHandle" ∧ (parseMethodDescriptor (gx_y mX11_type).desc).map (fun d => d.parameters.length) = some 1 := by decide +kernel
theorem gw_cw_X11_undo : gx_cw mX11_undo ∈ gx_tb := gx_ok (List.mem_of_getElem? (i := 839) (by decide +kernel)) (by decide +kernel)
theorem gp_X11_undo : (gx_y mX11_undo).cls ≠ "java/lang/invoke/MethodHandle" ∧ (gx_y mX11_undo).cls ≠ "java/lang/invoke/VarHandle" ∧ (parseMethodDescriptor (gx_y mX11_undo).desc).map (fun d => d.parameters.length) = some 0 := by decide +kernel
theorem gw_cw_X11_use : gx_cw mX11_use ∈ gx_tb := gx_ok (List.mem_of_getElem? (i := 870) (by decide +kernel)) (by decide +kernel)
theorem gp_X11_use : (gx_y mX11_use).cls ≠ "java/lang/invoke/MethodHandle" ∧ (gx_y mX11_use).cls ≠ "java/lang/invoke/VarHandle" ∧ (parseMethodDescriptor (gx_y mX11_use).desc).map (fun d => d.parameters.length) = some 1 := by decide +kernel
theorem gw_cw_X11_uses : gx_cw mX11_uses ∈ gx_tb := gx_ok (List.mem_of_getElem? (i := 1285) (by decide +kernel)) (by decide +kernel)
theorem gp_X11_uses : (gx_y mX11_uses).cls ≠ "java/lang/invoke/MethodHandle" ∧ (gx_y mX11_uses).cls ≠ "java/lang/invoke/VarHandle" ∧ (parseMethodDescriptor (gx_y mX11_uses).desc).map (fun d => d.parameters.length) = some 1 := by decide +kernel
theorem gw_cw_X11_value : gx_cw mX11_value ∈ gx_tb := gx_ok (List.mem_of_getElem? (i := 1257) (by decide +kernel)) (by decide +kernel)
theorem gp_X11_value : (gx_y mX11_value).cls ≠ "java/lang/invoke/MethodHandle" ∧ (gx_y mX11_value).cls ≠ "java/lang/invoke/VarHandle" ∧ (parseMethodDescriptor (gx_y mX11_value).desc).map (fun d => d.parameters.length) = some 1 := by decide +kernel
theorem gw_cw_X11_wipe : gx_cw mX11_wipe ∈ gx_tb := gx_ok (List.mem_of_getElem? (i := 950) (by decide +kernel)) (by decide +kernel)
theorem gp_X11_wipe : (gx_y mX11_wipe).cls ≠ "java/lang/invoke/MethodHandle" ∧ (gx_y mX11_wipe).cls ≠ "java/lang/invoke/VarHandle" ∧ (parseMethodDescriptor (gx_y mX11_wipe).desc).map (fun d => d.parameters.length) = some 0 := by decide +kernel
theorem gw_cw_X1_cell : gx_cw mX1_cell ∈ gx_tb := gx_ok (List.mem_of_getElem? (i := 545) (by decide +kernel)) (by decide +kernel)
theorem gp_X1_cell : (gx_y mX1_cell).cls ≠ "java/lang/invoke/MethodHandle" ∧ (gx_y mX1_cell).cls ≠ "java/lang/invoke/VarHandle" ∧ (parseMethodDescriptor (gx_y mX1_cell).desc).map (fun d => d.parameters.length) = some 3 := by decide +kernel
theorem gw_cw_X1_facts : gx_cw mX1_facts ∈ gx_tb := gx_ok (List.mem_of_getElem? (i := 637) (by decide +kernel)) (by decide +kernel)
theorem gp_X1_facts : (gx_y mX1_facts).cls ≠ "java/lang/invoke/MethodHandle" ∧ (gx_y mX1_facts).cls ≠ "java/lang/invoke/VarHandle" ∧ (parseMethodDescriptor (gx_y mX1_facts).desc).map (fun d => d.parameters.length) = some 0 := by decide +kernel
theorem gw_cw_X1_fill : gx_cw mX1_fill ∈ gx_tb := gx_ok (List.mem_of_getElem? (i := 529) (by decide +kernel)) (by decide +kernel)
theorem gp_X1_fill : (gx_y mX1_fill).cls ≠ "java/lang/invoke/MethodHandle" ∧ (gx_y mX1_fill).cls ≠ "java/lang/invoke/VarHandle" ∧ (parseMethodDescriptor (gx_y mX1_fill).desc).map (fun d => d.parameters.length) = some 2 := by decide +kernel
theorem gw_cw_X1_init : gx_cw mX1_init ∈ gx_tb := gx_ok (List.mem_of_getElem? (i := 270) (by decide +kernel)) (by decide +kernel)
theorem gp_X1_init : (gx_y mX1_init).cls ≠ "java/lang/invoke/MethodHandle" ∧ (gx_y mX1_init).cls ≠ "java/lang/invoke/VarHandle" ∧ (parseMethodDescriptor (gx_y mX1_init).desc).map (fun d => d.parameters.length) = some 4 := by decide +kernel
theorem gw_cw_X1_look : gx_cw mX1_look ∈ gx_tb := gx_ok (List.mem_of_getElem? (i := 595) (by decide +kernel)) (by decide +kernel)
theorem gp_X1_look : (gx_y mX1_look).cls ≠ "java/lang/invoke/MethodHandle" ∧ (gx_y mX1_look).cls ≠ "java/lang/invoke/VarHandle" ∧ (parseMethodDescriptor (gx_y mX1_look).desc).map (fun d => d.parameters.length) = some 1 := by decide +kernel
theorem gw_cw_X1_measure : gx_cw mX1_measure ∈ gx_tb := gx_ok (List.mem_of_getElem? (i := 524) (by decide +kernel)) (by decide +kernel)
theorem gp_X1_measure : (gx_y mX1_measure).cls ≠ "java/lang/invoke/MethodHandle" ∧ (gx_y mX1_measure).cls ≠ "java/lang/invoke/VarHandle" ∧ (parseMethodDescriptor (gx_y mX1_measure).desc).map (fun d => d.parameters.length) = some 1 := by decide +kernel
theorem gw_cw_X1_ofProduction : gx_cw mX1_ofProduction ∈ gx_tb := gx_ok (List.mem_of_getElem? (i := 561) (by decide +kernel)) (by decide +kernel)
theorem gp_X1_ofProduction : (gx_y mX1_ofProduction).cls ≠ "java/lang/invoke/MethodHandle" ∧ (gx_y mX1_ofProduction).cls ≠ "java/lang/invoke/VarHandle" ∧ (parseMethodDescriptor (gx_y mX1_ofProduction).desc).map (fun d => d.parameters.length) = some 3 := by decide +kernel
theorem gw_cw_X1_part : gx_cw mX1_part ∈ gx_tb := gx_ok (List.mem_of_getElem? (i := 580) (by decide +kernel)) (by decide +kernel)
theorem gp_X1_part : (gx_y mX1_part).cls ≠ "java/lang/invoke/MethodHandle" ∧ (gx_y mX1_part).cls ≠ "java/lang/invoke/VarHandle" ∧ (parseMethodDescriptor (gx_y mX1_part).desc).map (fun d => d.parameters.length) = some 3 := by decide +kernel
theorem gw_cw_X1_refine : gx_cw mX1_refine ∈ gx_tb := gx_ok (List.mem_of_getElem? (i := 550) (by decide +kernel)) (by decide +kernel)
theorem gp_X1_refine : (gx_y mX1_refine).cls ≠ "java/lang/invoke/MethodHandle" ∧ (gx_y mX1_refine).cls ≠ "java/lang/invoke/VarHandle" ∧ (parseMethodDescriptor (gx_y mX1_refine).desc).map (fun d => d.parameters.length) = some 2 := by decide +kernel
theorem gw_cw_X1_setPart : gx_cw mX1_setPart ∈ gx_tb := gx_ok (List.mem_of_getElem? (i := 574) (by decide +kernel)) (by decide +kernel)
theorem gp_X1_setPart : (gx_y mX1_setPart).cls ≠ "java/lang/invoke/MethodHandle" ∧ (gx_y mX1_setPart).cls ≠ "java/lang/invoke/VarHandle" ∧ (parseMethodDescriptor (gx_y mX1_setPart).desc).map (fun d => d.parameters.length) = some 4 := by decide +kernel
theorem gw_cw_X1_setWhole : gx_cw mX1_setWhole ∈ gx_tb := gx_ok (List.mem_of_getElem? (i := 542) (by decide +kernel)) (by decide +kernel)
theorem gp_X1_setWhole : (gx_y mX1_setWhole).cls ≠ "java/lang/invoke/MethodHandle" ∧ (gx_y mX1_setWhole).cls ≠ "java/lang/invoke/VarHandle" ∧ (parseMethodDescriptor (gx_y mX1_setWhole).desc).map (fun d => d.parameters.length) = some 4 := by decide +kernel
theorem gw_cw_X1_whole : gx_cw mX1_whole ∈ gx_tb := gx_ok (List.mem_of_getElem? (i := 605) (by decide +kernel)) (by decide +kernel)
theorem gp_X1_whole : (gx_y mX1_whole).cls ≠ "java/lang/invoke/MethodHandle" ∧ (gx_y mX1_whole).cls ≠ "java/lang/invoke/VarHandle" ∧ (parseMethodDescriptor (gx_y mX1_whole).desc).map (fun d => d.parameters.length) = some 3 := by decide +kernel
theorem gw_cw_X2_blank : gx_cw mX2_blank ∈ gx_tb := gx_ok (List.mem_of_getElem? (i := 567) (by decide +kernel)) (by decide +kernel)
theorem gp_X2_blank : (gx_y mX2_blank).cls ≠ "java/lang/invoke/MethodHandle" ∧ (gx_y mX2_blank).cls ≠ "java/lang/invoke/VarHandle" ∧ (parseMethodDescriptor (gx_y mX2_blank).desc).map (fun d => d.parameters.length) = some 2 := by decide +kernel
theorem gw_cw_X2_both : gx_cw mX2_both ∈ gx_tb := gx_ok (List.mem_of_getElem? (i := 611) (by decide +kernel)) (by decide +kernel)
theorem gp_X2_both : (gx_y mX2_both).cls ≠ "java/lang/invoke/MethodHandle" ∧ (gx_y mX2_both).cls ≠ "java/lang/invoke/VarHandle" ∧ (parseMethodDescriptor (gx_y mX2_both).desc).map (fun d => d.parameters.length) = some 2 := by decide +kernel
theorem gw_cw_X2_either : gx_cw mX2_either ∈ gx_tb := gx_ok (List.mem_of_getElem? (i := 622) (by decide +kernel)) (by decide +kernel)
theorem gp_X2_either : (gx_y mX2_either).cls ≠ "java/lang/invoke/MethodHandle" ∧ (gx_y mX2_either).cls ≠ "java/lang/invoke/VarHandle" ∧ (parseMethodDescriptor (gx_y mX2_either).desc).map (fun d => d.parameters.length) = some 2 := by decide +kernel
theorem gw_cw_X2_init : gx_cw mX2_init ∈ gx_tb := gx_ok (List.mem_of_getElem? (i := 267) (by decide +kernel)) (by decide +kernel)
theorem gp_X2_init : (gx_y mX2_init).cls ≠ "java/lang/invoke/MethodHandle" ∧ (gx_y mX2_init).cls ≠ "java/lang/invoke/VarHandle" ∧ (parseMethodDescriptor (gx_y mX2_init).desc).map (fun d => d.parameters.length) = some 4 := by decide +kernel
theorem gw_cw_X2_none : gx_cw mX2_none ∈ gx_tb := gx_ok (List.mem_of_getElem? (i := 535) (by decide +kernel)) (by decide +kernel)
theorem gp_X2_none : (gx_y mX2_none).cls ≠ "java/lang/invoke/MethodHandle" ∧ (gx_y mX2_none).cls ≠ "java/lang/invoke/VarHandle" ∧ (parseMethodDescriptor (gx_y mX2_none).desc).map (fun d => d.parameters.length) = some 0 := by decide +kernel
theorem gw_cw_X2_ofNonterminal : gx_cw mX2_ofNonterminal ∈ gx_tb := gx_ok (List.mem_of_getElem? (i := 631) (by decide +kernel)) (by decide +kernel)
theorem gp_X2_ofNonterminal : (gx_y mX2_ofNonterminal).cls ≠ "java/lang/invoke/MethodHandle" ∧ (gx_y mX2_ofNonterminal).cls ≠ "java/lang/invoke/VarHandle" ∧ (parseMethodDescriptor (gx_y mX2_ofNonterminal).desc).map (fun d => d.parameters.length) = some 2 := by decide +kernel
theorem gw_cw_X2_ofTerminal : gx_cw mX2_ofTerminal ∈ gx_tb := gx_ok (List.mem_of_getElem? (i := 589) (by decide +kernel)) (by decide +kernel)
theorem gp_X2_ofTerminal : (gx_y mX2_ofTerminal).cls ≠ "java/lang/invoke/MethodHandle" ∧ (gx_y mX2_ofTerminal).cls ≠ "java/lang/invoke/VarHandle" ∧ (parseMethodDescriptor (gx_y mX2_ofTerminal).desc).map (fun d => d.parameters.length) = some 3 := by decide +kernel
theorem gw_cw_X3_beginOf : gx_cw mX3_beginOf ∈ gx_tb := gx_ok (List.mem_of_getElem? (i := 421) (by decide +kernel)) (by decide +kernel)
theorem gp_X3_beginOf : (gx_y mX3_beginOf).cls ≠ "java/lang/invoke/MethodHandle" ∧ (gx_y mX3_beginOf).cls ≠ "java/lang/invoke/VarHandle" ∧ (parseMethodDescriptor (gx_y mX3_beginOf).desc).map (fun d => d.parameters.length) = some 1 := by decide +kernel
theorem gw_cw_X3_beginnings : gx_cw mX3_beginnings ∈ gx_tb := gx_ok (List.mem_of_getElem? (i := 409) (by decide +kernel)) (by decide +kernel)
theorem gp_X3_beginnings : (gx_y mX3_beginnings).cls ≠ "java/lang/invoke/MethodHandle" ∧ (gx_y mX3_beginnings).cls ≠ "java/lang/invoke/VarHandle" ∧ (parseMethodDescriptor (gx_y mX3_beginnings).desc).map (fun d => d.parameters.length) = some 2 := by decide +kernel
theorem gw_cw_X3_behind : gx_cw mX3_behind ∈ gx_tb := gx_ok (List.mem_of_getElem? (i := 443) (by decide +kernel)) (by decide +kernel)
theorem gp_X3_behind : (gx_y mX3_behind).cls ≠ "java/lang/invoke/MethodHandle" ∧ (gx_y mX3_behind).cls ≠ "java/lang/invoke/VarHandle" ∧ (parseMethodDescriptor (gx_y mX3_behind).desc).map (fun d => d.parameters.length) = some 1 := by decide +kernel
theorem gw_cw_X3_closeRelation : gx_cw mX3_closeRelation ∈ gx_tb := gx_ok (List.mem_of_getElem? (i := 458) (by decide +kernel)) (by decide +kernel)
theorem gp_X3_closeRelation : (gx_y mX3_closeRelation).cls ≠ "java/lang/invoke/MethodHandle" ∧ (gx_y mX3_closeRelation).cls ≠ "java/lang/invoke/VarHandle" ∧ (parseMethodDescriptor (gx_y mX3_closeRelation).desc).map (fun d => d.parameters.length) = some 0 := by decide +kernel
theorem gw_cw_X3_findBeginnings : gx_cw mX3_findBeginnings ∈ gx_tb := gx_ok (List.mem_of_getElem? (i := 398) (by decide +kernel)) (by decide +kernel)
theorem gp_X3_findBeginnings : (gx_y mX3_findBeginnings).cls ≠ "java/lang/invoke/MethodHandle" ∧ (gx_y mX3_findBeginnings).cls ≠ "java/lang/invoke/VarHandle" ∧ (parseMethodDescriptor (gx_y mX3_findBeginnings).desc).map (fun d => d.parameters.length) = some 0 := by decide +kernel
theorem gw_cw_X3_findBehinds : gx_cw mX3_findBehinds ∈ gx_tb := gx_ok (List.mem_of_getElem? (i := 428) (by decide +kernel)) (by decide +kernel)
theorem gp_X3_findBehinds : (gx_y mX3_findBehinds).cls ≠ "java/lang/invoke/MethodHandle" ∧ (gx_y mX3_findBehinds).cls ≠ "java/lang/invoke/VarHandle" ∧ (parseMethodDescriptor (gx_y mX3_findBehinds).desc).map (fun d => d.parameters.length) = some 0 := by decide +kernel
theorem gw_cw_X3_findCircular : gx_cw mX3_findCircular ∈ gx_tb := gx_ok (List.mem_of_getElem? (i := 473) (by decide +kernel)) (by decide +kernel)
theorem gp_X3_findCircular : (gx_y mX3_findCircular).cls ≠ "java/lang/invoke/MethodHandle" ∧ (gx_y mX3_findCircular).cls ≠ "java/lang/invoke/VarHandle" ∧ (parseMethodDescriptor (gx_y mX3_findCircular).desc).map (fun d => d.parameters.length) = some 0 := by decide +kernel
theorem gw_cw_X3_findItems : gx_cw mX3_findItems ∈ gx_tb := gx_ok (List.mem_of_getElem? (i := 509) (by decide +kernel)) (by decide +kernel)
theorem gp_X3_findItems : (gx_y mX3_findItems).cls ≠ "java/lang/invoke/MethodHandle" ∧ (gx_y mX3_findItems).cls ≠ "java/lang/invoke/VarHandle" ∧ (parseMethodDescriptor (gx_y mX3_findItems).desc).map (fun d => d.parameters.length) = some 0 := by decide +kernel
theorem gw_cw_X3_findLeasts : gx_cw mX3_findLeasts ∈ gx_tb := gx_ok (List.mem_of_getElem? (i := 477) (by decide +kernel)) (by decide +kernel)
theorem gp_X3_findLeasts : (gx_y mX3_findLeasts).cls ≠ "java/lang/invoke/MethodHandle" ∧ (gx_y mX3_findLeasts).cls ≠ "java/lang/invoke/VarHandle" ∧ (parseMethodDescriptor (gx_y mX3_findLeasts).desc).map (fun d => d.parameters.length) = some 0 := by decide +kernel
theorem gw_cw_X3_findLeftRecursive : gx_cw mX3_findLeftRecursive ∈ gx_tb := gx_ok (List.mem_of_getElem? (i := 465) (by decide +kernel)) (by decide +kernel)
theorem gp_X3_findLeftRecursive : (gx_y mX3_findLeftRecursive).cls ≠ "java/lang/invoke/MethodHandle" ∧ (gx_y mX3_findLeftRecursive).cls ≠ "java/lang/invoke/VarHandle" ∧ (parseMethodDescriptor (gx_y mX3_findLeftRecursive).desc).map (fun d => d.parameters.length) = some 0 := by decide +kernel
theorem gw_cw_X3_findPredictions : gx_cw mX3_findPredictions ∈ gx_tb := gx_ok (List.mem_of_getElem? (i := 505) (by decide +kernel)) (by decide +kernel)
theorem gp_X3_findPredictions : (gx_y mX3_findPredictions).cls ≠ "java/lang/invoke/MethodHandle" ∧ (gx_y mX3_findPredictions).cls ≠ "java/lang/invoke/VarHandle" ∧ (parseMethodDescriptor (gx_y mX3_findPredictions).desc).map (fun d => d.parameters.length) = some 0 := by decide +kernel
theorem gw_cw_X3_findReached : gx_cw mX3_findReached ∈ gx_tb := gx_ok (List.mem_of_getElem? (i := 450) (by decide +kernel)) (by decide +kernel)
theorem gp_X3_findReached : (gx_y mX3_findReached).cls ≠ "java/lang/invoke/MethodHandle" ∧ (gx_y mX3_findReached).cls ≠ "java/lang/invoke/VarHandle" ∧ (parseMethodDescriptor (gx_y mX3_findReached).desc).map (fun d => d.parameters.length) = some 0 := by decide +kernel
theorem gw_cw_X3_findSpellings : gx_cw mX3_findSpellings ∈ gx_tb := gx_ok (List.mem_of_getElem? (i := 492) (by decide +kernel)) (by decide +kernel)
theorem gp_X3_findSpellings : (gx_y mX3_findSpellings).cls ≠ "java/lang/invoke/MethodHandle" ∧ (gx_y mX3_findSpellings).cls ≠ "java/lang/invoke/VarHandle" ∧ (parseMethodDescriptor (gx_y mX3_findSpellings).desc).map (fun d => d.parameters.length) = some 0 := by decide +kernel
theorem gw_cw_X3_firsts : gx_cw mX3_firsts ∈ gx_tb := gx_ok (List.mem_of_getElem? (i := 1311) (by decide +kernel)) (by decide +kernel)
theorem gp_X3_firsts : (gx_y mX3_firsts).cls ≠ "java/lang/invoke/MethodHandle" ∧ (gx_y mX3_firsts).cls ≠ "java/lang/invoke/VarHandle" ∧ (parseMethodDescriptor (gx_y mX3_firsts).desc).map (fun d => d.parameters.length) = some 1 := by decide +kernel
theorem gw_cw_X3_forget : gx_cw mX3_forget ∈ gx_tb := gx_ok (List.mem_of_getElem? (i := 828) (by decide +kernel)) (by decide +kernel)
theorem gp_X3_forget : (gx_y mX3_forget).cls ≠ "java/lang/invoke/MethodHandle" ∧ (gx_y mX3_forget).cls ≠ "java/lang/invoke/VarHandle" ∧ (parseMethodDescriptor (gx_y mX3_forget).desc).map (fun d => d.parameters.length) = some 1 := by decide +kernel
theorem gw_cw_X3_front : gx_cw mX3_front ∈ gx_tb := gx_ok (List.mem_of_getElem? (i := 1000) (by decide +kernel)) (by decide +kernel)
theorem gp_X3_front : (gx_y mX3_front).cls ≠ "java/lang/invoke/MethodHandle" ∧ (gx_y mX3_front).cls ≠ "java/lang/invoke/VarHandle" ∧ (parseMethodDescriptor (gx_y mX3_front).desc).map (fun d => d.parameters.length) = some 1 := by decide +kernel
theorem gw_cw_X3_grammar : gx_cw mX3_grammar ∈ gx_tb := gx_ok (List.mem_of_getElem? (i := 555) (by decide +kernel)) (by decide +kernel)
theorem gp_X3_grammar : (gx_y mX3_grammar).cls ≠ "java/lang/invoke/MethodHandle" ∧ (gx_y mX3_grammar).cls ≠ "java/lang/invoke/VarHandle" ∧ (parseMethodDescriptor (gx_y mX3_grammar).desc).map (fun d => d.parameters.length) = some 0 := by decide +kernel
theorem gw_cw_X3_improveSpelling : gx_cw mX3_improveSpelling ∈ gx_tb := gx_ok (List.mem_of_getElem? (i := 496) (by decide +kernel)) (by decide +kernel)
theorem gp_X3_improveSpelling : (gx_y mX3_improveSpelling).cls ≠ "java/lang/invoke/MethodHandle" ∧ (gx_y mX3_improveSpelling).cls ≠ "java/lang/invoke/VarHandle" ∧ (parseMethodDescriptor (gx_y mX3_improveSpelling).desc).map (fun d => d.parameters.length) = some 1 := by decide +kernel
theorem gw_cw_X3_init : gx_cw mX3_init ∈ gx_tb := gx_ok (List.mem_of_getElem? (i := 104) (by decide +kernel)) (by decide +kernel)
theorem gp_X3_init : (gx_y mX3_init).cls ≠ "java/lang/invoke/MethodHandle" ∧ (gx_y mX3_init).cls ≠ "java/lang/invoke/VarHandle" ∧ (parseMethodDescriptor (gx_y mX3_init).desc).map (fun d => d.parameters.length) = some 1 := by decide +kernel
theorem gw_cw_X3_isCircular : gx_cw mX3_isCircular ∈ gx_tb := gx_ok (List.mem_of_getElem? (i := 641) (by decide +kernel)) (by decide +kernel)
theorem gp_X3_isCircular : (gx_y mX3_isCircular).cls ≠ "java/lang/invoke/MethodHandle" ∧ (gx_y mX3_isCircular).cls ≠ "java/lang/invoke/VarHandle" ∧ (parseMethodDescriptor (gx_y mX3_isCircular).desc).map (fun d => d.parameters.length) = some 1 := by decide +kernel
theorem gw_cw_X3_isProductive : gx_cw mX3_isProductive ∈ gx_tb := gx_ok (List.mem_of_getElem? (i := 514) (by decide +kernel)) (by decide +kernel)
theorem gp_X3_isProductive : (gx_y mX3_isProductive).cls ≠ "java/lang/invoke/MethodHandle" ∧ (gx_y mX3_isProductive).cls ≠ "java/lang/invoke/VarHandle" ∧ (parseMethodDescriptor (gx_y mX3_isProductive).desc).map (fun d => d.parameters.length) = some 1 := by decide +kernel
theorem gw_cw_X3_isReached : gx_cw mX3_isReached ∈ gx_tb := gx_ok (List.mem_of_getElem? (i := 1289) (by decide +kernel)) (by decide +kernel)
theorem gp_X3_isReached : (gx_y mX3_isReached).cls ≠ "java/lang/invoke/MethodHandle" ∧ (gx_y mX3_isReached).cls ≠ "java/lang/invoke/VarHandle" ∧ (parseMethodDescriptor (gx_y mX3_isReached).desc).map (fun d => d.parameters.length) = some 1 := by decide +kernel
theorem gw_cw_X3_learn : gx_cw mX3_learn ∈ gx_tb := gx_ok (List.mem_of_getElem? (i := 394) (by decide +kernel)) (by decide +kernel)
theorem gp_X3_learn : (gx_y mX3_learn).cls ≠ "java/lang/invoke/MethodHandle" ∧ (gx_y mX3_learn).cls ≠ "java/lang/invoke/VarHandle" ∧ (parseMethodDescriptor (gx_y mX3_learn).desc).map (fun d => d.parameters.length) = some 0 := by decide +kernel
theorem gw_cw_X3_least : gx_cw mX3_least ∈ gx_tb := gx_ok (List.mem_of_getElem? (i := 518) (by decide +kernel)) (by decide +kernel)
theorem gp_X3_least : (gx_y mX3_least).cls ≠ "java/lang/invoke/MethodHandle" ∧ (gx_y mX3_least).cls ≠ "java/lang/invoke/VarHandle" ∧ (parseMethodDescriptor (gx_y mX3_least).desc).map (fun d => d.parameters.length) = some 1 := by decide +kernel
theorem gw_cw_X3_leastOf : gx_cw mX3_leastOf ∈ gx_tb := gx_ok (List.mem_of_getElem? (i := 485) (by decide +kernel)) (by decide +kernel)
theorem gp_X3_leastOf : (gx_y mX3_leastOf).cls ≠ "java/lang/invoke/MethodHandle" ∧ (gx_y mX3_leastOf).cls ≠ "java/lang/invoke/VarHandle" ∧ (parseMethodDescriptor (gx_y mX3_leastOf).desc).map (fun d => d.parameters.length) = some 1 := by decide +kernel
theorem gw_cw_X3_leastOfRight : gx_cw mX3_leastOfRight ∈ gx_tb := gx_ok (List.mem_of_getElem? (i := 481) (by decide +kernel)) (by decide +kernel)
theorem gp_X3_leastOfRight : (gx_y mX3_leastOfRight).cls ≠ "java/lang/invoke/MethodHandle" ∧ (gx_y mX3_leastOfRight).cls ≠ "java/lang/invoke/VarHandle" ∧ (parseMethodDescriptor (gx_y mX3_leastOfRight).desc).map (fun d => d.parameters.length) = some 1 := by decide +kernel
theorem gw_cw_X3_prediction : gx_cw mX3_prediction ∈ gx_tb := gx_ok (List.mem_of_getElem? (i := 1067) (by decide +kernel)) (by decide +kernel)
theorem gp_X3_prediction : (gx_y mX3_prediction).cls ≠ "java/lang/invoke/MethodHandle" ∧ (gx_y mX3_prediction).cls ≠ "java/lang/invoke/VarHandle" ∧ (parseMethodDescriptor (gx_y mX3_prediction).desc).map (fun d => d.parameters.length) = some 1 := by decide +kernel
theorem gw_cw_X3_relate : gx_cw mX3_relate ∈ gx_tb := gx_ok (List.mem_of_getElem? (i := 454) (by decide +kernel)) (by decide +kernel)
theorem gp_X3_relate : (gx_y mX3_relate).cls ≠ "java/lang/invoke/MethodHandle" ∧ (gx_y mX3_relate).cls ≠ "java/lang/invoke/VarHandle" ∧ (parseMethodDescriptor (gx_y mX3_relate).desc).map (fun d => d.parameters.length) = some 2 := by decide +kernel
theorem gw_cw_X3_relatedToThemselves : gx_cw mX3_relatedToThemselves ∈ gx_tb := gx_ok (List.mem_of_getElem? (i := 469) (by decide +kernel)) (by decide +kernel)
theorem gp_X3_relatedToThemselves : (gx_y mX3_relatedToThemselves).cls ≠ "java/lang/invoke/MethodHandle" ∧ (gx_y mX3_relatedToThemselves).cls ≠ "java/lang/invoke/VarHandle" ∧ (parseMethodDescriptor (gx_y mX3_relatedToThemselves).desc).map (fun d => d.parameters.length) = some 0 := by decide +kernel
theorem gw_cw_X3_rest : gx_cw mX3_rest ∈ gx_tb := gx_ok (List.mem_of_getElem? (i := 1009) (by decide +kernel)) (by decide +kernel)
theorem gp_X3_rest : (gx_y mX3_rest).cls ≠ "java/lang/invoke/MethodHandle" ∧ (gx_y mX3_rest).cls ≠ "java/lang/invoke/VarHandle" ∧ (parseMethodDescriptor (gx_y mX3_rest).desc).map (fun d => d.parameters.length) = some 1 := by decide +kernel
theorem gw_cw_X3_spell : gx_cw mX3_spell ∈ gx_tb := gx_ok (List.mem_of_getElem? (i := 500) (by decide +kernel)) (by decide +kernel)
theorem gp_X3_spell : (gx_y mX3_spell).cls ≠ "java/lang/invoke/MethodHandle" ∧ (gx_y mX3_spell).cls ≠ "java/lang/invoke/VarHandle" ∧ (parseMethodDescriptor (gx_y mX3_spell).desc).map (fun d => d.parameters.length) = some 1 := by decide +kernel
theorem gw_cw_X3_spelled : gx_cw mX3_spelled ∈ gx_tb := gx_ok (List.mem_of_getElem? (i := 1323) (by decide +kernel)) (by decide +kernel)
theorem gp_X3_spelled : (gx_y mX3_spelled).cls ≠ "java/lang/invoke/MethodHandle" ∧ (gx_y mX3_spelled).cls ≠ "java/lang/invoke/VarHandle" ∧ (parseMethodDescriptor (gx_y mX3_spelled).desc).map (fun d => d.parameters.length) = some 2 := by decide +kernel
theorem gw_cw_X3_vanishes : gx_cw mX3_vanishes ∈ gx_tb := gx_ok (List.mem_of_getElem? (i := 1300) (by decide +kernel)) (by decide +kernel)
theorem gp_X3_vanishes : (gx_y mX3_vanishes).cls ≠ "java/lang/invoke/MethodHandle" ∧ (gx_y mX3_vanishes).cls ≠ "java/lang/invoke/VarHandle" ∧ (parseMethodDescriptor (gx_y mX3_vanishes).desc).map (fun d => d.parameters.length) = some 1 := by decide +kernel
theorem gw_cw_X3_widen : gx_cw mX3_widen ∈ gx_tb := gx_ok (List.mem_of_getElem? (i := 424) (by decide +kernel)) (by decide +kernel)
theorem gp_X3_widen : (gx_y mX3_widen).cls ≠ "java/lang/invoke/MethodHandle" ∧ (gx_y mX3_widen).cls ≠ "java/lang/invoke/VarHandle" ∧ (parseMethodDescriptor (gx_y mX3_widen).desc).map (fun d => d.parameters.length) = some 3 := by decide +kernel
theorem gw_cw_X3_widenBehinds : gx_cw mX3_widenBehinds ∈ gx_tb := gx_ok (List.mem_of_getElem? (i := 436) (by decide +kernel)) (by decide +kernel)
theorem gp_X3_widenBehinds : (gx_y mX3_widenBehinds).cls ≠ "java/lang/invoke/MethodHandle" ∧ (gx_y mX3_widenBehinds).cls ≠ "java/lang/invoke/VarHandle" ∧ (parseMethodDescriptor (gx_y mX3_widenBehinds).desc).map (fun d => d.parameters.length) = some 1 := by decide +kernel
theorem gw_cw_X4_admit : gx_cw mX4_admit ∈ gx_tb := gx_ok (List.mem_of_getElem? (i := 769) (by decide +kernel)) (by decide +kernel)
theorem gp_X4_admit : (gx_y mX4_admit).cls ≠ "java/lang/invoke/MethodHandle" ∧ (gx_y mX4_admit).cls ≠ "java/lang/invoke/VarHandle" ∧ (parseMethodDescriptor (gx_y mX4_admit).desc).map (fun d => d.parameters.length) = some 1 := by decide +kernel
theorem gw_cw_X4_admitAll : gx_cw mX4_admitAll ∈ gx_tb := gx_ok (List.mem_of_getElem? (i := 856) (by decide +kernel)) (by decide +kernel)
theorem gp_X4_admitAll : (gx_y mX4_admitAll).cls ≠ "java/lang/invoke/MethodHandle" ∧ (gx_y mX4_admitAll).cls ≠ "java/lang/invoke/VarHandle" ∧ (parseMethodDescriptor (gx_y mX4_admitAll).desc).map (fun d => d.parameters.length) = some 2 := by decide +kernel
theorem gw_cw_X4_count : gx_cw mX4_count ∈ gx_tb := gx_ok (List.mem_of_getElem? (i := 386) (by decide +kernel)) (by decide +kernel)
theorem gp_X4_count : (gx_y mX4_count).cls ≠ "java/lang/invoke/MethodHandle" ∧ (gx_y mX4_count).cls ≠ "java/lang/invoke/VarHandle" ∧ (parseMethodDescriptor (gx_y mX4_count).desc).map (fun d => d.parameters.length) = some 0 := by decide +kernel
theorem gw_cw_X4_dropLastRule : gx_cw mX4_dropLastRule ∈ gx_tb := gx_ok (List.mem_of_getElem? (i := 843) (by decide +kernel)) (by decide +kernel)
theorem gp_X4_dropLastRule : (gx_y mX4_dropLastRule).cls ≠ "java/lang/invoke/MethodHandle" ∧ (gx_y mX4_dropLastRule).cls ≠ "java/lang/invoke/VarHandle" ∧ (parseMethodDescriptor (gx_y mX4_dropLastRule).desc).map (fun d => d.parameters.length) = some 0 := by decide +kernel
theorem gw_cw_X4_extend : gx_cw mX4_extend ∈ gx_tb := gx_ok (List.mem_of_getElem? (i := 799) (by decide +kernel)) (by decide +kernel)
theorem gp_X4_extend : (gx_y mX4_extend).cls ≠ "java/lang/invoke/MethodHandle" ∧ (gx_y mX4_extend).cls ≠ "java/lang/invoke/VarHandle" ∧ (parseMethodDescriptor (gx_y mX4_extend).desc).map (fun d => d.parameters.length) = some 1 := by decide +kernel
theorem gw_cw_X4_freeHelper : gx_cw mX4_freeHelper ∈ gx_tb := gx_ok (List.mem_of_getElem? (i := 786) (by decide +kernel)) (by decide +kernel)
theorem gp_X4_freeHelper : (gx_y mX4_freeHelper).cls ≠ "java/lang/invoke/MethodHandle" ∧ (gx_y mX4_freeHelper).cls ≠ "java/lang/invoke/VarHandle" ∧ (parseMethodDescriptor (gx_y mX4_freeHelper).desc).map (fun d => d.parameters.length) = some 0 := by decide +kernel
theorem gw_cw_X4_init : gx_cw mX4_init ∈ gx_tb := gx_ok (List.mem_of_getElem? (i := 47) (by decide +kernel)) (by decide +kernel)
theorem gp_X4_init : (gx_y mX4_init).cls ≠ "java/lang/invoke/MethodHandle" ∧ (gx_y mX4_init).cls ≠ "java/lang/invoke/VarHandle" ∧ (parseMethodDescriptor (gx_y mX4_init).desc).map (fun d => d.parameters.length) = some 0 := by decide +kernel
theorem gw_cw_X4_lastTerminal : gx_cw mX4_lastTerminal ∈ gx_tb := gx_ok (List.mem_of_getElem? (i := 1139) (by decide +kernel)) (by decide +kernel)
theorem gp_X4_lastTerminal : (gx_y mX4_lastTerminal).cls ≠ "java/lang/invoke/MethodHandle" ∧ (gx_y mX4_lastTerminal).cls ≠ "java/lang/invoke/VarHandle" ∧ (parseMethodDescriptor (gx_y mX4_lastTerminal).desc).map (fun d => d.parameters.length) = some 1 := by decide +kernel
theorem gw_cw_X4_length : gx_cw mX4_length ∈ gx_tb := gx_ok (List.mem_of_getElem? (i := 413) (by decide +kernel)) (by decide +kernel)
theorem gp_X4_length : (gx_y mX4_length).cls ≠ "java/lang/invoke/MethodHandle" ∧ (gx_y mX4_length).cls ≠ "java/lang/invoke/VarHandle" ∧ (parseMethodDescriptor (gx_y mX4_length).desc).map (fun d => d.parameters.length) = some 1 := by decide +kernel
theorem gw_cw_X4_open : gx_cw mX4_open ∈ gx_tb := gx_ok (List.mem_of_getElem? (i := 795) (by decide +kernel)) (by decide +kernel)
theorem gp_X4_open : (gx_y mX4_open).cls ≠ "java/lang/invoke/MethodHandle" ∧ (gx_y mX4_open).cls ≠ "java/lang/invoke/VarHandle" ∧ (parseMethodDescriptor (gx_y mX4_open).desc).map (fun d => d.parameters.length) = some 1 := by decide +kernel
theorem gw_cw_X4_owner : gx_cw mX4_owner ∈ gx_tb := gx_ok (List.mem_of_getElem? (i := 405) (by decide +kernel)) (by decide +kernel)
theorem gp_X4_owner : (gx_y mX4_owner).cls ≠ "java/lang/invoke/MethodHandle" ∧ (gx_y mX4_owner).cls ≠ "java/lang/invoke/VarHandle" ∧ (parseMethodDescriptor (gx_y mX4_owner).desc).map (fun d => d.parameters.length) = some 1 := by decide +kernel
theorem gw_cw_X4_rules : gx_cw mX4_rules ∈ gx_tb := gx_ok (List.mem_of_getElem? (i := 862) (by decide +kernel)) (by decide +kernel)
theorem gp_X4_rules : (gx_y mX4_rules).cls ≠ "java/lang/invoke/MethodHandle" ∧ (gx_y mX4_rules).cls ≠ "java/lang/invoke/VarHandle" ∧ (parseMethodDescriptor (gx_y mX4_rules).desc).map (fun d => d.parameters.length) = some 0 := by decide +kernel
theorem gw_cw_X4_setTop : gx_cw mX4_setTop ∈ gx_tb := gx_ok (List.mem_of_getElem? (i := 898) (by decide +kernel)) (by decide +kernel)
theorem gp_X4_setTop : (gx_y mX4_setTop).cls ≠ "java/lang/invoke/MethodHandle" ∧ (gx_y mX4_setTop).cls ≠ "java/lang/invoke/VarHandle" ∧ (parseMethodDescriptor (gx_y mX4_setTop).desc).map (fun d => d.parameters.length) = some 1 := by decide +kernel
theorem gw_cw_X4_symbol : gx_cw mX4_symbol ∈ gx_tb := gx_ok (List.mem_of_getElem? (i := 417) (by decide +kernel)) (by decide +kernel)
theorem gp_X4_symbol : (gx_y mX4_symbol).cls ≠ "java/lang/invoke/MethodHandle" ∧ (gx_y mX4_symbol).cls ≠ "java/lang/invoke/VarHandle" ∧ (parseMethodDescriptor (gx_y mX4_symbol).desc).map (fun d => d.parameters.length) = some 2 := by decide +kernel
theorem gw_cw_X4_top : gx_cw mX4_top ∈ gx_tb := gx_ok (List.mem_of_getElem? (i := 432) (by decide +kernel)) (by decide +kernel)
theorem gp_X4_top : (gx_y mX4_top).cls ≠ "java/lang/invoke/MethodHandle" ∧ (gx_y mX4_top).cls ≠ "java/lang/invoke/VarHandle" ∧ (parseMethodDescriptor (gx_y mX4_top).desc).map (fun d => d.parameters.length) = some 0 := by decide +kernel
theorem gw_cw_X5_apply : gx_cw mX5_apply ∈ gx_tb := gx_ok (List.mem_of_getElem? (i := 1219) (by decide +kernel)) (by decide +kernel)
theorem gp_X5_apply : (gx_y mX5_apply).cls ≠ "java/lang/invoke/MethodHandle" ∧ (gx_y mX5_apply).cls ≠ "java/lang/invoke/VarHandle" ∧ (parseMethodDescriptor (gx_y mX5_apply).desc).map (fun d => d.parameters.length) = some 1 := by decide +kernel
theorem gw_cw_X5_cellsWith : gx_cw mX5_cellsWith ∈ gx_tb := gx_ok (List.mem_of_getElem? (i := 1052) (by decide +kernel)) (by decide +kernel)
theorem gp_X5_cellsWith : (gx_y mX5_cellsWith).cls ≠ "java/lang/invoke/MethodHandle" ∧ (gx_y mX5_cellsWith).cls ≠ "java/lang/invoke/VarHandle" ∧ (parseMethodDescriptor (gx_y mX5_cellsWith).desc).map (fun d => d.parameters.length) = some 1 := by decide +kernel
theorem gw_cw_X5_clashes : gx_cw mX5_clashes ∈ gx_tb := gx_ok (List.mem_of_getElem? (i := 1088) (by decide +kernel)) (by decide +kernel)
theorem gp_X5_clashes : (gx_y mX5_clashes).cls ≠ "java/lang/invoke/MethodHandle" ∧ (gx_y mX5_clashes).cls ≠ "java/lang/invoke/VarHandle" ∧ (parseMethodDescriptor (gx_y mX5_clashes).desc).map (fun d => d.parameters.length) = some 0 := by decide +kernel
theorem gw_cw_X5_countIn : gx_cw mX5_countIn ∈ gx_tb := gx_ok (List.mem_of_getElem? (i := 1056) (by decide +kernel)) (by decide +kernel)
theorem gp_X5_countIn : (gx_y mX5_countIn).cls ≠ "java/lang/invoke/MethodHandle" ∧ (gx_y mX5_countIn).cls ≠ "java/lang/invoke/VarHandle" ∧ (parseMethodDescriptor (gx_y mX5_countIn).desc).map (fun d => d.parameters.length) = some 2 := by decide +kernel
theorem gw_cw_X5_easedClashes : gx_cw mX5_easedClashes ∈ gx_tb := gx_ok (List.mem_of_getElem? (i := 1153) (by decide +kernel)) (by decide +kernel)
theorem gp_X5_easedClashes : (gx_y mX5_easedClashes).cls ≠ "java/lang/invoke/MethodHandle" ∧ (gx_y mX5_easedClashes).cls ≠ "java/lang/invoke/VarHandle" ∧ (parseMethodDescriptor (gx_y mX5_easedClashes).desc).map (fun d => d.parameters.length) = some 0 := by decide +kernel
theorem gw_cw_X5_extent : gx_cw mX5_extent ∈ gx_tb := gx_ok (List.mem_of_getElem? (i := 1048) (by decide +kernel)) (by decide +kernel)
theorem gp_X5_extent : (gx_y mX5_extent).cls ≠ "java/lang/invoke/MethodHandle" ∧ (gx_y mX5_extent).cls ≠ "java/lang/invoke/VarHandle" ∧ (parseMethodDescriptor (gx_y mX5_extent).desc).map (fun d => d.parameters.length) = some 0 := by decide +kernel
theorem gw_cw_X5_init : gx_cw mX5_init ∈ gx_tb := gx_ok (List.mem_of_getElem? (i := 192) (by decide +kernel)) (by decide +kernel)
theorem gp_X5_init : (gx_y mX5_init).cls ≠ "java/lang/invoke/MethodHandle" ∧ (gx_y mX5_init).cls ≠ "java/lang/invoke/VarHandle" ∧ (parseMethodDescriptor (gx_y mX5_init).desc).map (fun d => d.parameters.length) = some 2 := by decide +kernel
theorem gw_cw_X5_isIn : gx_cw mX5_isIn ∈ gx_tb := gx_ok (List.mem_of_getElem? (i := 1062) (by decide +kernel)) (by decide +kernel)
theorem gp_X5_isIn : (gx_y mX5_isIn).cls ≠ "java/lang/invoke/MethodHandle" ∧ (gx_y mX5_isIn).cls ≠ "java/lang/invoke/VarHandle" ∧ (parseMethodDescriptor (gx_y mX5_isIn).desc).map (fun d => d.parameters.length) = some 3 := by decide +kernel
theorem gw_cw_X5_lowestIn : gx_cw mX5_lowestIn ∈ gx_tb := gx_ok (List.mem_of_getElem? (i := 1215) (by decide +kernel)) (by decide +kernel)
theorem gp_X5_lowestIn : (gx_y mX5_lowestIn).cls ≠ "java/lang/invoke/MethodHandle" ∧ (gx_y mX5_lowestIn).cls ≠ "java/lang/invoke/VarHandle" ∧ (parseMethodDescriptor (gx_y mX5_lowestIn).desc).map (fun d => d.parameters.length) = some 2 := by decide +kernel
theorem gw_cw_X5_next : gx_cw mX5_next ∈ gx_tb := gx_ok (List.mem_of_getElem? (i := 1204) (by decide +kernel)) (by decide +kernel)
theorem gp_X5_next : (gx_y mX5_next).cls ≠ "java/lang/invoke/MethodHandle" ∧ (gx_y mX5_next).cls ≠ "java/lang/invoke/VarHandle" ∧ (parseMethodDescriptor (gx_y mX5_next).desc).map (fun d => d.parameters.length) = some 0 := by decide +kernel
theorem gw_cw_X5_pop : gx_cw mX5_pop ∈ gx_tb := gx_ok (List.mem_of_getElem? (i := 1200) (by decide +kernel)) (by decide +kernel)
theorem gp_X5_pop : (gx_y mX5_pop).cls ≠ "java/lang/invoke/MethodHandle" ∧ (gx_y mX5_pop).cls ≠ "java/lang/invoke/VarHandle" ∧ (parseMethodDescriptor (gx_y mX5_pop).desc).map (fun d => d.parameters.length) = some 0 := by decide +kernel
theorem gw_cw_X5_push : gx_cw mX5_push ∈ gx_tb := gx_ok (List.mem_of_getElem? (i := 1185) (by decide +kernel)) (by decide +kernel)
theorem gp_X5_push : (gx_y mX5_push).cls ≠ "java/lang/invoke/MethodHandle" ∧ (gx_y mX5_push).cls ≠ "java/lang/invoke/VarHandle" ∧ (parseMethodDescriptor (gx_y mX5_push).desc).map (fun d => d.parameters.length) = some 1 := by decide +kernel
theorem gw_cw_X5_run : gx_cw mX5_run ∈ gx_tb := gx_ok (List.mem_of_getElem? (i := 1180) (by decide +kernel)) (by decide +kernel)
theorem gp_X5_run : (gx_y mX5_run).cls ≠ "java/lang/invoke/MethodHandle" ∧ (gx_y mX5_run).cls ≠ "java/lang/invoke/VarHandle" ∧ (parseMethodDescriptor (gx_y mX5_run).desc).map (fun d => d.parameters.length) = some 0 := by decide +kernel
theorem gw_cw_X5_worthOfTree : gx_cw mX5_worthOfTree ∈ gx_tb := gx_ok (List.mem_of_getElem? (i := 1192) (by decide +kernel)) (by decide +kernel)
theorem gp_X5_worthOfTree : (gx_y mX5_worthOfTree).cls ≠ "java/lang/invoke/MethodHandle" ∧ (gx_y mX5_worthOfTree).cls ≠ "java/lang/invoke/VarHandle" ∧ (parseMethodDescriptor (gx_y mX5_worthOfTree).desc).map (fun d => d.parameters.length) = some 0 := by decide +kernel
theorem gw_cw_X6_blank : gx_cw mX6_blank ∈ gx_tb := gx_ok (List.mem_of_getElem? (i := 570) (by decide +kernel)) (by decide +kernel)
theorem gp_X6_blank : (gx_y mX6_blank).cls ≠ "java/lang/invoke/MethodHandle" ∧ (gx_y mX6_blank).cls ≠ "java/lang/invoke/VarHandle" ∧ (parseMethodDescriptor (gx_y mX6_blank).desc).map (fun d => d.parameters.length) = some 2 := by decide +kernel
theorem gw_cw_X6_both : gx_cw mX6_both ∈ gx_tb := gx_ok (List.mem_of_getElem? (i := 615) (by decide +kernel)) (by decide +kernel)
theorem gp_X6_both : (gx_y mX6_both).cls ≠ "java/lang/invoke/MethodHandle" ∧ (gx_y mX6_both).cls ≠ "java/lang/invoke/VarHandle" ∧ (parseMethodDescriptor (gx_y mX6_both).desc).map (fun d => d.parameters.length) = some 2 := by decide +kernel
theorem gw_cw_X6_either : gx_cw mX6_either ∈ gx_tb := gx_ok (List.mem_of_getElem? (i := 625) (by decide +kernel)) (by decide +kernel)
theorem gp_X6_either : (gx_y mX6_either).cls ≠ "java/lang/invoke/MethodHandle" ∧ (gx_y mX6_either).cls ≠ "java/lang/invoke/VarHandle" ∧ (parseMethodDescriptor (gx_y mX6_either).desc).map (fun d => d.parameters.length) = some 2 := by decide +kernel
theorem gw_cw_X6_init : gx_cw mX6_init ∈ gx_tb := gx_ok (List.mem_of_getElem? (i := 292) (by decide +kernel)) (by decide +kernel)
theorem gp_X6_init : (gx_y mX6_init).cls ≠ "java/lang/invoke/MethodHandle" ∧ (gx_y mX6_init).cls ≠ "java/lang/invoke/VarHandle" ∧ (parseMethodDescriptor (gx_y mX6_init).desc).map (fun d => d.parameters.length) = some 4 := by decide +kernel
theorem gw_cw_X6_none : gx_cw mX6_none ∈ gx_tb := gx_ok (List.mem_of_getElem? (i := 538) (by decide +kernel)) (by decide +kernel)
theorem gp_X6_none : (gx_y mX6_none).cls ≠ "java/lang/invoke/MethodHandle" ∧ (gx_y mX6_none).cls ≠ "java/lang/invoke/VarHandle" ∧ (parseMethodDescriptor (gx_y mX6_none).desc).map (fun d => d.parameters.length) = some 0 := by decide +kernel
theorem gw_cw_X6_ofNonterminal : gx_cw mX6_ofNonterminal ∈ gx_tb := gx_ok (List.mem_of_getElem? (i := 644) (by decide +kernel)) (by decide +kernel)
theorem gp_X6_ofNonterminal : (gx_y mX6_ofNonterminal).cls ≠ "java/lang/invoke/MethodHandle" ∧ (gx_y mX6_ofNonterminal).cls ≠ "java/lang/invoke/VarHandle" ∧ (parseMethodDescriptor (gx_y mX6_ofNonterminal).desc).map (fun d => d.parameters.length) = some 2 := by decide +kernel
theorem gw_cw_X6_ofTerminal : gx_cw mX6_ofTerminal ∈ gx_tb := gx_ok (List.mem_of_getElem? (i := 598) (by decide +kernel)) (by decide +kernel)
theorem gp_X6_ofTerminal : (gx_y mX6_ofTerminal).cls ≠ "java/lang/invoke/MethodHandle" ∧ (gx_y mX6_ofTerminal).cls ≠ "java/lang/invoke/VarHandle" ∧ (parseMethodDescriptor (gx_y mX6_ofTerminal).desc).map (fun d => d.parameters.length) = some 3 := by decide +kernel
theorem gw_cw_X7_closeBracket : gx_cw mX7_closeBracket ∈ gx_tb := gx_ok (List.mem_of_getElem? (i := 809) (by decide +kernel)) (by decide +kernel)
theorem gp_X7_closeBracket : (gx_y mX7_closeBracket).cls ≠ "java/lang/invoke/MethodHandle" ∧ (gx_y mX7_closeBracket).cls ≠ "java/lang/invoke/VarHandle" ∧ (parseMethodDescriptor (gx_y mX7_closeBracket).desc).map (fun d => d.parameters.length) = some 1 := by decide +kernel
theorem gw_cw_X7_init : gx_cw mX7_init ∈ gx_tb := gx_ok (List.mem_of_getElem? (i := 56) (by decide +kernel)) (by decide +kernel)
theorem gp_X7_init : (gx_y mX7_init).cls ≠ "java/lang/invoke/MethodHandle" ∧ (gx_y mX7_init).cls ≠ "java/lang/invoke/VarHandle" ∧ (parseMethodDescriptor (gx_y mX7_init).desc).map (fun d => d.parameters.length) = some 0 := by decide +kernel
theorem gw_cw_X7_push : gx_cw mX7_push ∈ gx_tb := gx_ok (List.mem_of_getElem? (i := 804) (by decide +kernel)) (by decide +kernel)
theorem gp_X7_push : (gx_y mX7_push).cls ≠ "java/lang/invoke/MethodHandle" ∧ (gx_y mX7_push).cls ≠ "java/lang/invoke/VarHandle" ∧ (parseMethodDescriptor (gx_y mX7_push).desc).map (fun d => d.parameters.length) = some 1 := by decide +kernel
theorem gw_cw_X7_read : gx_cw mX7_read ∈ gx_tb := gx_ok (List.mem_of_getElem? (i := 773) (by decide +kernel)) (by decide +kernel)
theorem gp_X7_read : (gx_y mX7_read).cls ≠ "java/lang/invoke/MethodHandle" ∧ (gx_y mX7_read).cls ≠ "java/lang/invoke/VarHandle" ∧ (parseMethodDescriptor (gx_y mX7_read).desc).map (fun d => d.parameters.length) = some 2 := by decide +kernel
theorem gw_cw_X7_release : gx_cw mX7_release ∈ gx_tb := gx_ok (List.mem_of_getElem? (i := 813) (by decide +kernel)) (by decide +kernel)
theorem gp_X7_release : (gx_y mX7_release).cls ≠ "java/lang/invoke/MethodHandle" ∧ (gx_y mX7_release).cls ≠ "java/lang/invoke/VarHandle" ∧ (parseMethodDescriptor (gx_y mX7_release).desc).map (fun d => d.parameters.length) = some 3 := by decide +kernel
theorem gw_cw_X7_wrap : gx_cw mX7_wrap ∈ gx_tb := gx_ok (List.mem_of_getElem? (i := 782) (by decide +kernel)) (by decide +kernel)
theorem gp_X7_wrap : (gx_y mX7_wrap).cls ≠ "java/lang/invoke/MethodHandle" ∧ (gx_y mX7_wrap).cls ≠ "java/lang/invoke/VarHandle" ∧ (parseMethodDescriptor (gx_y mX7_wrap).desc).map (fun d => d.parameters.length) = some 3 := by decide +kernel
theorem gw_cw_X8_append : gx_cw mX8_append ∈ gx_tb := gx_ok (List.mem_of_getElem? (i := 757) (by decide +kernel)) (by decide +kernel)
theorem gp_X8_append : (gx_y mX8_append).cls ≠ "java/lang/invoke/MethodHandle" ∧ (gx_y mX8_append).cls ≠ "java/lang/invoke/VarHandle" ∧ (parseMethodDescriptor (gx_y mX8_append).desc).map (fun d => d.parameters.length) = some 1 := by decide +kernel
theorem gw_cw_X8_clear : gx_cw mX8_clear ∈ gx_tb := gx_ok (List.mem_of_getElem? (i := 954) (by decide +kernel)) (by decide +kernel)
theorem gp_X8_clear : (gx_y mX8_clear).cls ≠ "java/lang/invoke/MethodHandle" ∧ (gx_y mX8_clear).cls ≠ "java/lang/invoke/VarHandle" ∧ (parseMethodDescriptor (gx_y mX8_clear).desc).map (fun d => d.parameters.length) = some 0 := by decide +kernel
theorem gw_cw_X8_copyRenamed : gx_cw mX8_copyRenamed ∈ gx_tb := gx_ok (List.mem_of_getElem? (i := 818) (by decide +kernel)) (by decide +kernel)
theorem gp_X8_copyRenamed : (gx_y mX8_copyRenamed).cls ≠ "java/lang/invoke/MethodHandle" ∧ (gx_y mX8_copyRenamed).cls ≠ "java/lang/invoke/VarHandle" ∧ (parseMethodDescriptor (gx_y mX8_copyRenamed).desc).map (fun d => d.parameters.length) = some 2 := by decide +kernel
theorem gw_cw_X8_firstFault : gx_cw mX8_firstFault ∈ gx_tb := gx_ok (List.mem_of_getElem? (i := 359) (by decide +kernel)) (by decide +kernel)
theorem gp_X8_firstFault : (gx_y mX8_firstFault).cls ≠ "java/lang/invoke/MethodHandle" ∧ (gx_y mX8_firstFault).cls ≠ "java/lang/invoke/VarHandle" ∧ (parseMethodDescriptor (gx_y mX8_firstFault).desc).map (fun d => d.parameters.length) = some 0 := by decide +kernel
theorem gw_cw_X8_init : gx_cw mX8_init ∈ gx_tb := gx_ok (List.mem_of_getElem? (i := 33) (by decide +kernel)) (by decide +kernel)
theorem gp_X8_init : (gx_y mX8_init).cls ≠ "java/lang/invoke/MethodHandle" ∧ (gx_y mX8_init).cls ≠ "java/lang/invoke/VarHandle" ∧ (parseMethodDescriptor (gx_y mX8_init).desc).map (fun d => d.parameters.length) = some 0 := by decide +kernel
theorem gw_cw_X8_isFull : gx_cw mX8_isFull ∈ gx_tb := gx_ok (List.mem_of_getElem? (i := 737) (by decide +kernel)) (by decide +kernel)
theorem gp_X8_isFull : (gx_y mX8_isFull).cls ≠ "java/lang/invoke/MethodHandle" ∧ (gx_y mX8_isFull).cls ≠ "java/lang/invoke/VarHandle" ∧ (parseMethodDescriptor (gx_y mX8_isFull).desc).map (fun d => d.parameters.length) = some 0 := by decide +kernel
theorem gw_cw_X8_length : gx_cw mX8_length ∈ gx_tb := gx_ok (List.mem_of_getElem? (i := 777) (by decide +kernel)) (by decide +kernel)
theorem gp_X8_length : (gx_y mX8_length).cls ≠ "java/lang/invoke/MethodHandle" ∧ (gx_y mX8_length).cls ≠ "java/lang/invoke/VarHandle" ∧ (parseMethodDescriptor (gx_y mX8_length).desc).map (fun d => d.parameters.length) = some 0 := by decide +kernel
theorem gw_cw_X8_letter : gx_cw mX8_letter ∈ gx_tb := gx_ok (List.mem_of_getElem? (i := 363) (by decide +kernel)) (by decide +kernel)
theorem gp_X8_letter : (gx_y mX8_letter).cls ≠ "java/lang/invoke/MethodHandle" ∧ (gx_y mX8_letter).cls ≠ "java/lang/invoke/VarHandle" ∧ (parseMethodDescriptor (gx_y mX8_letter).desc).map (fun d => d.parameters.length) = some 1 := by decide +kernel
theorem gw_cw_X8_stateBehind : gx_cw mX8_stateBehind ∈ gx_tb := gx_ok (List.mem_of_getElem? (i := 366) (by decide +kernel)) (by decide +kernel)
theorem gp_X8_stateBehind : (gx_y mX8_stateBehind).cls ≠ "java/lang/invoke/MethodHandle" ∧ (gx_y mX8_stateBehind).cls ≠ "java/lang/invoke/VarHandle" ∧ (parseMethodDescriptor (gx_y mX8_stateBehind).desc).map (fun d => d.parameters.length) = some 3 := by decide +kernel
theorem gw_cw_X8_stateInChoice : gx_cw mX8_stateInChoice ∈ gx_tb := gx_ok (List.mem_of_getElem? (i := 375) (by decide +kernel)) (by decide +kernel)
theorem gp_X8_stateInChoice : (gx_y mX8_stateInChoice).cls ≠ "java/lang/invoke/MethodHandle" ∧ (gx_y mX8_stateInChoice).cls ≠ "java/lang/invoke/VarHandle" ∧ (parseMethodDescriptor (gx_y mX8_stateInChoice).desc).map (fun d => d.parameters.length) = some 3 := by decide +kernel
theorem gw_cw_X9_action : gx_cw mX9_action ∈ gx_tb := gx_ok (List.mem_of_getElem? (i := 1235) (by decide +kernel)) (by decide +kernel)
theorem gp_X9_action : (gx_y mX9_action).cls ≠ "java/lang/invoke/MethodHandle" ∧ (gx_y mX9_action).cls ≠ "java/lang/invoke/VarHandle" ∧ (parseMethodDescriptor (gx_y mX9_action).desc).map (fun d => d.parameters.length) = some 2 := by decide +kernel
theorem gw_cw_X9_cellsInConflict : gx_cw mX9_cellsInConflict ∈ gx_tb := gx_ok (List.mem_of_getElem? (i := 1095) (by decide +kernel)) (by decide +kernel)
theorem gp_X9_cellsInConflict : (gx_y mX9_cellsInConflict).cls ≠ "java/lang/invoke/MethodHandle" ∧ (gx_y mX9_cellsInConflict).cls ≠ "java/lang/invoke/VarHandle" ∧ (parseMethodDescriptor (gx_y mX9_cellsInConflict).desc).map (fun d => d.parameters.length) = some 1 := by decide +kernel
theorem gw_cw_X9_clashes : gx_cw mX9_clashes ∈ gx_tb := gx_ok (List.mem_of_getElem? (i := 1091) (by decide +kernel)) (by decide +kernel)
theorem gp_X9_clashes : (gx_y mX9_clashes).cls ≠ "java/lang/invoke/MethodHandle" ∧ (gx_y mX9_clashes).cls ≠ "java/lang/invoke/VarHandle" ∧ (parseMethodDescriptor (gx_y mX9_clashes).desc).map (fun d => d.parameters.length) = some 0 := by decide +kernel
theorem gw_cw_X9_easedClashes : gx_cw mX9_easedClashes ∈ gx_tb := gx_ok (List.mem_of_getElem? (i := 1156) (by decide +kernel)) (by decide +kernel)
theorem gp_X9_easedClashes : (gx_y mX9_easedClashes).cls ≠ "java/lang/invoke/MethodHandle" ∧ (gx_y mX9_easedClashes).cls ≠ "java/lang/invoke/VarHandle" ∧ (parseMethodDescriptor (gx_y mX9_easedClashes).desc).map (fun d => d.parameters.length) = some 0 := by decide +kernel
theorem gw_cw_X9_extent : gx_cw mX9_extent ∈ gx_tb := gx_ok (List.mem_of_getElem? (i := 1071) (by decide +kernel)) (by decide +kernel)
theorem gp_X9_extent : (gx_y mX9_extent).cls ≠ "java/lang/invoke/MethodHandle" ∧ (gx_y mX9_extent).cls ≠ "java/lang/invoke/VarHandle" ∧ (parseMethodDescriptor (gx_y mX9_extent).desc).map (fun d => d.parameters.length) = some 0 := by decide +kernel
theorem gw_cw_X9_init : gx_cw mX9_init ∈ gx_tb := gx_ok (List.mem_of_getElem? (i := 223) (by decide +kernel)) (by decide +kernel)
theorem gp_X9_init : (gx_y mX9_init).cls ≠ "java/lang/invoke/MethodHandle" ∧ (gx_y mX9_init).cls ≠ "java/lang/invoke/VarHandle" ∧ (parseMethodDescriptor (gx_y mX9_init).desc).map (fun d => d.parameters.length) = some 5 := by decide +kernel
theorem gw_cw_X9_isConflict : gx_cw mX9_isConflict ∈ gx_tb := gx_ok (List.mem_of_getElem? (i := 1123) (by decide +kernel)) (by decide +kernel)
theorem gp_X9_isConflict : (gx_y mX9_isConflict).cls ≠ "java/lang/invoke/MethodHandle" ∧ (gx_y mX9_isConflict).cls ≠ "java/lang/invoke/VarHandle" ∧ (parseMethodDescriptor (gx_y mX9_isConflict).desc).map (fun d => d.parameters.length) = some 0 := by decide +kernel
theorem gw_cw_X9_isSettled : gx_cw mX9_isSettled ∈ gx_tb := gx_ok (List.mem_of_getElem? (i := 1127) (by decide +kernel)) (by decide +kernel)
theorem gp_X9_isSettled : (gx_y mX9_isSettled).cls ≠ "java/lang/invoke/MethodHandle" ∧ (gx_y mX9_isSettled).cls ≠ "java/lang/invoke/VarHandle" ∧ (parseMethodDescriptor (gx_y mX9_isSettled).desc).map (fun d => d.parameters.length) = some 1 := by decide +kernel
theorem gw_cw_X9_levelOf : gx_cw mX9_levelOf ∈ gx_tb := gx_ok (List.mem_of_getElem? (i := 1131) (by decide +kernel)) (by decide +kernel)
theorem gp_X9_levelOf : (gx_y mX9_levelOf).cls ≠ "java/lang/invoke/MethodHandle" ∧ (gx_y mX9_levelOf).cls ≠ "java/lang/invoke/VarHandle" ∧ (parseMethodDescriptor (gx_y mX9_levelOf).desc).map (fun d => d.parameters.length) = some 1 := by decide +kernel
theorem gw_cw_X9_levelOfLowest : gx_cw mX9_levelOfLowest ∈ gx_tb := gx_ok (List.mem_of_getElem? (i := 1135) (by decide +kernel)) (by decide +kernel)
theorem gp_X9_levelOfLowest : (gx_y mX9_levelOfLowest).cls ≠ "java/lang/invoke/MethodHandle" ∧ (gx_y mX9_levelOfLowest).cls ≠ "java/lang/invoke/VarHandle" ∧ (parseMethodDescriptor (gx_y mX9_levelOfLowest).desc).map (fun d => d.parameters.length) = some 0 := by decide +kernel
theorem gw_cw_X9_push : gx_cw mX9_push ∈ gx_tb := gx_ok (List.mem_of_getElem? (i := 1226) (by decide +kernel)) (by decide +kernel)
theorem gp_X9_push : (gx_y mX9_push).cls ≠ "java/lang/invoke/MethodHandle" ∧ (gx_y mX9_push).cls ≠ "java/lang/invoke/VarHandle" ∧ (parseMethodDescriptor (gx_y mX9_push).desc).map (fun d => d.parameters.length) = some 2 := by decide +kernel
theorem gw_cw_X9_readCell : gx_cw mX9_readCell ∈ gx_tb := gx_ok (List.mem_of_getElem? (i := 1099) (by decide +kernel)) (by decide +kernel)
theorem gp_X9_readCell : (gx_y mX9_readCell).cls ≠ "java/lang/invoke/MethodHandle" ∧ (gx_y mX9_readCell).cls ≠ "java/lang/invoke/VarHandle" ∧ (parseMethodDescriptor (gx_y mX9_readCell).desc).map (fun d => d.parameters.length) = some 2 := by decide +kernel
theorem gw_cw_X9_reduce : gx_cw mX9_reduce ∈ gx_tb := gx_ok (List.mem_of_getElem? (i := 1250) (by decide +kernel)) (by decide +kernel)
theorem gp_X9_reduce : (gx_y mX9_reduce).cls ≠ "java/lang/invoke/MethodHandle" ∧ (gx_y mX9_reduce).cls ≠ "java/lang/invoke/VarHandle" ∧ (parseMethodDescriptor (gx_y mX9_reduce).desc).map (fun d => d.parameters.length) = some 1 := by decide +kernel
theorem gw_cw_X9_reducedBy : gx_cw mX9_reducedBy ∈ gx_tb := gx_ok (List.mem_of_getElem? (i := 1116) (by decide +kernel)) (by decide +kernel)
theorem gp_X9_reducedBy : (gx_y mX9_reducedBy).cls ≠ "java/lang/invoke/MethodHandle" ∧ (gx_y mX9_reducedBy).cls ≠ "java/lang/invoke/VarHandle" ∧ (parseMethodDescriptor (gx_y mX9_reducedBy).desc).map (fun d => d.parameters.length) = some 2 := by decide +kernel
theorem gw_cw_X9_run : gx_cw mX9_run ∈ gx_tb := gx_ok (List.mem_of_getElem? (i := 1222) (by decide +kernel)) (by decide +kernel)
theorem gp_X9_run : (gx_y mX9_run).cls ≠ "java/lang/invoke/MethodHandle" ∧ (gx_y mX9_run).cls ≠ "java/lang/invoke/VarHandle" ∧ (parseMethodDescriptor (gx_y mX9_run).desc).map (fun d => d.parameters.length) = some 0 := by decide +kernel
theorem gw_cw_X9_settledAction : gx_cw mX9_settledAction ∈ gx_tb := gx_ok (List.mem_of_getElem? (i := 1239) (by decide +kernel)) (by decide +kernel)
theorem gp_X9_settledAction : (gx_y mX9_settledAction).cls ≠ "java/lang/invoke/MethodHandle" ∧ (gx_y mX9_settledAction).cls ≠ "java/lang/invoke/VarHandle" ∧ (parseMethodDescriptor (gx_y mX9_settledAction).desc).map (fun d => d.parameters.length) = some 1 := by decide +kernel
theorem gw_cw_X9_state : gx_cw mX9_state ∈ gx_tb := gx_ok (List.mem_of_getElem? (i := 1231) (by decide +kernel)) (by decide +kernel)
theorem gp_X9_state : (gx_y mX9_state).cls ≠ "java/lang/invoke/MethodHandle" ∧ (gx_y mX9_state).cls ≠ "java/lang/invoke/VarHandle" ∧ (parseMethodDescriptor (gx_y mX9_state).desc).map (fun d => d.parameters.length) = some 0 := by decide +kernel
theorem gw_cw_X9_worthOfTop : gx_cw mX9_worthOfTop ∈ gx_tb := gx_ok (List.mem_of_getElem? (i := 1243) (by decide +kernel)) (by decide +kernel)
theorem gp_X9_worthOfTop : (gx_y mX9_worthOfTop).cls ≠ "java/lang/invoke/MethodHandle" ∧ (gx_y mX9_worthOfTop).cls ≠ "java/lang/invoke/VarHandle" ∧ (parseMethodDescriptor (gx_y mX9_worthOfTop).desc).map (fun d => d.parameters.length) = some 0 := by decide +kernel
theorem gt_105_107_109 : gx_thok 105 107 109 gx_IAE "no letter of a rule" := ⟨gx_ok (by decide +kernel) (by decide +kernel), gx_ok (by decide +kernel) (by decide +kernel), by decide +kernel, by decide +kernel, by decide +kernel, by decide +kernel⟩
theorem gt_105_132_109 : gx_thok 105 132 109 gx_IAE "the text is no rule" := ⟨gx_ok (by decide +kernel) (by decide +kernel), gx_ok (by decide +kernel) (by decide +kernel), by decide +kernel, by decide +kernel, by decide +kernel, by decide +kernel⟩
theorem gt_105_160_109 : gx_thok 105 160 109 gx_IAE "no such shift" := ⟨gx_ok (by decide +kernel) (by decide +kernel), gx_ok (by decide +kernel) (by decide +kernel), by decide +kernel, by decide +kernel, by decide +kernel, by decide +kernel⟩
theorem gt_105_186_109 : gx_thok 105 186 109 gx_IAE "no such level" := ⟨gx_ok (by decide +kernel) (by decide +kernel), gx_ok (by decide +kernel) (by decide +kernel), by decide +kernel, by decide +kernel, by decide +kernel, by decide +kernel⟩
theorem gt_116_118_120 : gx_thok 116 118 120 gx_ISE "the text has 24 letters" := ⟨gx_ok (by decide +kernel) (by decide +kernel), gx_ok (by decide +kernel) (by decide +kernel), by decide +kernel, by decide +kernel, by decide +kernel, by decide +kernel⟩
theorem gt_116_138_120 : gx_thok 116 138 120 gx_ISE "the grammar has no room for the rule" := ⟨gx_ok (by decide +kernel) (by decide +kernel), gx_ok (by decide +kernel) (by decide +kernel), by decide +kernel, by decide +kernel, by decide +kernel, by decide +kernel⟩
theorem gt_116_149_120 : gx_thok 116 149 120 gx_ISE "there is no rule" := ⟨gx_ok (by decide +kernel) (by decide +kernel), gx_ok (by decide +kernel) (by decide +kernel), by decide +kernel, by decide +kernel, by decide +kernel, by decide +kernel⟩
theorem gt_116_166_120 : gx_thok 116 166 120 gx_ISE "the grammar has no room for the rules" := ⟨gx_ok (by decide +kernel) (by decide +kernel), gx_ok (by decide +kernel) (by decide +kernel), by decide +kernel, by decide +kernel, by decide +kernel, by decide +kernel⟩
theorem gt_116_229_120 : gx_thok 116 229 120 gx_ISE "no terminal is there" := ⟨gx_ok (by decide +kernel) (by decide +kernel), gx_ok (by decide +kernel) (by decide +kernel), by decide +kernel, by decide +kernel, by decide +kernel, by decide +kernel⟩
theorem gt_116_257_120 : gx_thok 116 257 120 gx_ISE "the sentence has 12 terminals" := ⟨gx_ok (by decide +kernel) (by decide +kernel), gx_ok (by decide +kernel) (by decide +kernel), by decide +kernel, by decide +kernel, by decide +kernel, by decide +kernel⟩
theorem gt_116_262_120 : gx_thok 116 262 120 gx_ISE "the sentence is not accepted" := ⟨gx_ok (by decide +kernel) (by decide +kernel), gx_ok (by decide +kernel) (by decide +kernel), by decide +kernel, by decide +kernel, by decide +kernel, by decide +kernel⟩
theorem gt_151_153_155 : gx_thok 151 153 155 gx_IOB "no such grammar" := ⟨gx_ok (by decide +kernel) (by decide +kernel), gx_ok (by decide +kernel) (by decide +kernel), by decide +kernel, by decide +kernel, by decide +kernel, by decide +kernel⟩
theorem gt_151_171_155 : gx_thok 151 171 155 gx_IOB "no such nonterminal" := ⟨gx_ok (by decide +kernel) (by decide +kernel), gx_ok (by decide +kernel) (by decide +kernel), by decide +kernel, by decide +kernel, by decide +kernel, by decide +kernel⟩
theorem gt_151_184_155 : gx_thok 151 184 155 gx_IOB "no such terminal or side" := ⟨gx_ok (by decide +kernel) (by decide +kernel), gx_ok (by decide +kernel) (by decide +kernel), by decide +kernel, by decide +kernel, by decide +kernel, by decide +kernel⟩
theorem gt_151_188_155 : gx_thok 151 188 155 gx_IOB "no such production" := ⟨gx_ok (by decide +kernel) (by decide +kernel), gx_ok (by decide +kernel) (by decide +kernel), by decide +kernel, by decide +kernel, by decide +kernel, by decide +kernel⟩
theorem gt_151_194_155 : gx_thok 151 194 155 gx_IOB "no such production or place" := ⟨gx_ok (by decide +kernel) (by decide +kernel), gx_ok (by decide +kernel) (by decide +kernel), by decide +kernel, by decide +kernel, by decide +kernel, by decide +kernel⟩
theorem gt_151_227_155 : gx_thok 151 227 155 gx_IOB "no such place" := ⟨gx_ok (by decide +kernel) (by decide +kernel), gx_ok (by decide +kernel) (by decide +kernel), by decide +kernel, by decide +kernel, by decide +kernel, by decide +kernel⟩
theorem gt_151_255_155 : gx_thok 151 255 155 gx_IOB "no such place or terminal" := ⟨gx_ok (by decide +kernel) (by decide +kernel), gx_ok (by decide +kernel) (by decide +kernel), by decide +kernel, by decide +kernel, by decide +kernel, by decide +kernel⟩
theorem gt_151_278_155 : gx_thok 151 278 155 gx_IOB "no such kind" := ⟨gx_ok (by decide +kernel) (by decide +kernel), gx_ok (by decide +kernel) (by decide +kernel), by decide +kernel, by decide +kernel, by decide +kernel, by decide +kernel⟩
