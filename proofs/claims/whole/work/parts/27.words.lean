/-! ===== words of the tables, rooms, what is known of callees (printed by gen2.py) ===== -/
theorem gs_0 : Cond.selects "Grammarsmith" (⟨"Grammarsmith", "table", "(I)LGrammarsmith$Table;"⟩ : MethodName) ⟨"Grammarsmith", "table", "(I)LGrammarsmith$Table;"⟩ ∈ gx_tb := gx_oks (by decide +kernel) (by decide +kernel)
theorem gs_1 : Cond.selects "Grammarsmith$Facts" (⟨"Grammarsmith$Facts", "findBeginnings", "()V"⟩ : MethodName) ⟨"Grammarsmith$Facts", "findBeginnings", "()V"⟩ ∈ gx_tb := gx_oks (by decide +kernel) (by decide +kernel)
theorem gs_10 : Cond.selects "Grammarsmith$Facts" (⟨"Grammarsmith$Facts", "relatedToThemselves", "()I"⟩ : MethodName) ⟨"Grammarsmith$Facts", "relatedToThemselves", "()I"⟩ ∈ gx_tb := gx_oks (by decide +kernel) (by decide +kernel)
theorem gs_100 : Cond.selects "GrammarsmithModel" (⟨"GrammarsmithModel", "gathers", "(I)V"⟩ : MethodName) ⟨"GrammarsmithModel", "gathers", "(I)V"⟩ ∈ gx_tb := gx_oks (by decide +kernel) (by decide +kernel)
theorem gs_101 : Cond.selects "GrammarsmithModel" (⟨"GrammarsmithModel", "sizeOr", "(I)I"⟩ : MethodName) ⟨"GrammarsmithModel", "sizeOr", "(I)I"⟩ ∈ gx_tb := gx_oks (by decide +kernel) (by decide +kernel)
theorem gs_102 : Cond.selects "GrammarsmithModel" (⟨"GrammarsmithModel", "runs", "(I)I"⟩ : MethodName) ⟨"GrammarsmithModel", "runs", "(I)I"⟩ ∈ gx_tb := gx_oks (by decide +kernel) (by decide +kernel)
theorem gs_103 : Cond.selects "GrammarsmithModel" (⟨"GrammarsmithModel", "reduced", "(II)V"⟩ : MethodName) ⟨"GrammarsmithModel", "reduced", "(II)V"⟩ ∈ gx_tb := gx_oks (by decide +kernel) (by decide +kernel)
theorem gs_104 : Cond.selects "GrammarsmithModel" (⟨"GrammarsmithModel", "counted", "(II)Z"⟩ : MethodName) ⟨"GrammarsmithModel", "counted", "(II)Z"⟩ ∈ gx_tb := gx_oks (by decide +kernel) (by decide +kernel)
theorem gs_105 : Cond.selects "GrammarsmithModel" (⟨"GrammarsmithModel", "waysOf", "(III)I"⟩ : MethodName) ⟨"GrammarsmithModel", "waysOf", "(III)I"⟩ ∈ gx_tb := gx_oks (by decide +kernel) (by decide +kernel)
theorem gs_106 : Cond.selects "GrammarsmithModel" (⟨"GrammarsmithModel", "ways", "(III)I"⟩ : MethodName) ⟨"GrammarsmithModel", "ways", "(III)I"⟩ ∈ gx_tb := gx_oks (by decide +kernel) (by decide +kernel)
theorem gs_107 : Cond.selects "GrammarsmithModel" (⟨"GrammarsmithModel", "mended", "(II)Z"⟩ : MethodName) ⟨"GrammarsmithModel", "mended", "(II)Z"⟩ ∈ gx_tb := gx_oks (by decide +kernel) (by decide +kernel)
theorem gs_108 : Cond.selects "GrammarsmithModel" (⟨"GrammarsmithModel", "editsOf", "(III)I"⟩ : MethodName) ⟨"GrammarsmithModel", "editsOf", "(III)I"⟩ ∈ gx_tb := gx_oks (by decide +kernel) (by decide +kernel)
theorem gs_109 : Cond.selects "GrammarsmithModel" (⟨"GrammarsmithModel", "edits", "(III)I"⟩ : MethodName) ⟨"GrammarsmithModel", "edits", "(III)I"⟩ ∈ gx_tb := gx_oks (by decide +kernel) (by decide +kernel)
theorem gs_11 : Cond.selects "Grammarsmith$Facts" (⟨"Grammarsmith$Facts", "findCircular", "()V"⟩ : MethodName) ⟨"Grammarsmith$Facts", "findCircular", "()V"⟩ ∈ gx_tb := gx_oks (by decide +kernel) (by decide +kernel)
theorem gs_12 : Cond.selects "Grammarsmith$Facts" (⟨"Grammarsmith$Facts", "findLeasts", "()V"⟩ : MethodName) ⟨"Grammarsmith$Facts", "findLeasts", "()V"⟩ ∈ gx_tb := gx_oks (by decide +kernel) (by decide +kernel)
theorem gs_13 : Cond.selects "Grammarsmith$Facts" (⟨"Grammarsmith$Facts", "leastOfRight", "(I)I"⟩ : MethodName) ⟨"Grammarsmith$Facts", "leastOfRight", "(I)I"⟩ ∈ gx_tb := gx_oks (by decide +kernel) (by decide +kernel)
theorem gs_14 : Cond.selects "Grammarsmith$Facts" (⟨"Grammarsmith$Facts", "leastOf", "(I)I"⟩ : MethodName) ⟨"Grammarsmith$Facts", "leastOf", "(I)I"⟩ ∈ gx_tb := gx_oks (by decide +kernel) (by decide +kernel)
theorem gs_15 : Cond.selects "Grammarsmith$Facts" (⟨"Grammarsmith$Facts", "findSpellings", "()V"⟩ : MethodName) ⟨"Grammarsmith$Facts", "findSpellings", "()V"⟩ ∈ gx_tb := gx_oks (by decide +kernel) (by decide +kernel)
theorem gs_16 : Cond.selects "Grammarsmith$Facts" (⟨"Grammarsmith$Facts", "improveSpelling", "(I)Z"⟩ : MethodName) ⟨"Grammarsmith$Facts", "improveSpelling", "(I)Z"⟩ ∈ gx_tb := gx_oks (by decide +kernel) (by decide +kernel)
theorem gs_17 : Cond.selects "Grammarsmith$Facts" (⟨"Grammarsmith$Facts", "spell", "(I)J"⟩ : MethodName) ⟨"Grammarsmith$Facts", "spell", "(I)J"⟩ ∈ gx_tb := gx_oks (by decide +kernel) (by decide +kernel)
theorem gs_18 : Cond.selects "Grammarsmith$Facts" (⟨"Grammarsmith$Facts", "findPredictions", "()V"⟩ : MethodName) ⟨"Grammarsmith$Facts", "findPredictions", "()V"⟩ ∈ gx_tb := gx_oks (by decide +kernel) (by decide +kernel)
theorem gs_19 : Cond.selects "Grammarsmith$Facts" (⟨"Grammarsmith$Facts", "findItems", "()V"⟩ : MethodName) ⟨"Grammarsmith$Facts", "findItems", "()V"⟩ ∈ gx_tb := gx_oks (by decide +kernel) (by decide +kernel)
theorem gs_2 : Cond.selects "Grammarsmith$Facts" (⟨"Grammarsmith$Facts", "beginnings", "(II)I"⟩ : MethodName) ⟨"Grammarsmith$Facts", "beginnings", "(II)I"⟩ ∈ gx_tb := gx_oks (by decide +kernel) (by decide +kernel)
theorem gs_20 : Cond.selects "Grammarsmith$Automaton" (⟨"Grammarsmith$Automaton", "addState", "(I)I"⟩ : MethodName) ⟨"Grammarsmith$Automaton", "addState", "(I)I"⟩ ∈ gx_tb := gx_oks (by decide +kernel) (by decide +kernel)
theorem gs_21 : Cond.selects "Grammarsmith$Automaton" (⟨"Grammarsmith$Automaton", "complete", "(I)V"⟩ : MethodName) ⟨"Grammarsmith$Automaton", "complete", "(I)V"⟩ ∈ gx_tb := gx_oks (by decide +kernel) (by decide +kernel)
theorem gs_22 : Cond.selects "Grammarsmith$Automaton" (⟨"Grammarsmith$Automaton", "addItems", "(II)Z"⟩ : MethodName) ⟨"Grammarsmith$Automaton", "addItems", "(II)Z"⟩ ∈ gx_tb := gx_oks (by decide +kernel) (by decide +kernel)
theorem gs_23 : Cond.selects "Grammarsmith$Automaton" (⟨"Grammarsmith$Automaton", "widen", "(III)Z"⟩ : MethodName) ⟨"Grammarsmith$Automaton", "widen", "(III)Z"⟩ ∈ gx_tb := gx_oks (by decide +kernel) (by decide +kernel)
theorem gs_24 : Cond.selects "Grammarsmith$Automaton" (⟨"Grammarsmith$Automaton", "leave", "(I)V"⟩ : MethodName) ⟨"Grammarsmith$Automaton", "leave", "(I)V"⟩ ∈ gx_tb := gx_oks (by decide +kernel) (by decide +kernel)
theorem gs_25 : Cond.selects "Grammarsmith$Automaton" (⟨"Grammarsmith$Automaton", "symbolsInFront", "(I)I"⟩ : MethodName) ⟨"Grammarsmith$Automaton", "symbolsInFront", "(I)I"⟩ ∈ gx_tb := gx_oks (by decide +kernel) (by decide +kernel)
theorem gs_26 : Cond.selects "Grammarsmith$Automaton" (⟨"Grammarsmith$Automaton", "advance", "(II)V"⟩ : MethodName) ⟨"Grammarsmith$Automaton", "advance", "(II)V"⟩ ∈ gx_tb := gx_oks (by decide +kernel) (by decide +kernel)
theorem gs_27 : Cond.selects "Grammarsmith$Automaton" (⟨"Grammarsmith$Automaton", "findState", "(I)I"⟩ : MethodName) ⟨"Grammarsmith$Automaton", "findState", "(I)I"⟩ ∈ gx_tb := gx_oks (by decide +kernel) (by decide +kernel)
theorem gs_28 : Cond.selects "Grammarsmith$Automaton" (⟨"Grammarsmith$Automaton", "beginsFresh", "(I)Z"⟩ : MethodName) ⟨"Grammarsmith$Automaton", "beginsFresh", "(I)Z"⟩ ∈ gx_tb := gx_oks (by decide +kernel) (by decide +kernel)
theorem gs_29 : Cond.selects "Grammarsmith$Automaton" (⟨"Grammarsmith$Automaton", "mergeInto", "(I)V"⟩ : MethodName) ⟨"Grammarsmith$Automaton", "mergeInto", "(I)V"⟩ ∈ gx_tb := gx_oks (by decide +kernel) (by decide +kernel)
theorem gs_3 : Cond.selects "Grammarsmith$Facts" (⟨"Grammarsmith$Facts", "beginOf", "(I)I"⟩ : MethodName) ⟨"Grammarsmith$Facts", "beginOf", "(I)I"⟩ ∈ gx_tb := gx_oks (by decide +kernel) (by decide +kernel)
theorem gs_30 : Cond.selects "Grammarsmith$PredictiveTable" (⟨"Grammarsmith$PredictiveTable", "cellsWith", "(I)I"⟩ : MethodName) ⟨"Grammarsmith$PredictiveTable", "cellsWith", "(I)I"⟩ ∈ gx_tb := gx_oks (by decide +kernel) (by decide +kernel)
theorem gs_31 : Cond.selects "Grammarsmith$PredictiveTable" (⟨"Grammarsmith$PredictiveTable", "countIn", "(II)I"⟩ : MethodName) ⟨"Grammarsmith$PredictiveTable", "countIn", "(II)I"⟩ ∈ gx_tb := gx_oks (by decide +kernel) (by decide +kernel)
theorem gs_32 : Cond.selects "Grammarsmith$PredictiveTable" (⟨"Grammarsmith$PredictiveTable", "isIn", "(III)Z"⟩ : MethodName) ⟨"Grammarsmith$PredictiveTable", "isIn", "(III)Z"⟩ ∈ gx_tb := gx_oks (by decide +kernel) (by decide +kernel)
theorem gs_33 : Cond.selects "Grammarsmith$StateTable" (⟨"Grammarsmith$StateTable", "cellsInConflict", "(Z)I"⟩ : MethodName) ⟨"Grammarsmith$StateTable", "cellsInConflict", "(Z)I"⟩ ∈ gx_tb := gx_oks (by decide +kernel) (by decide +kernel)
theorem gs_34 : Cond.selects "Grammarsmith$StateTable" (⟨"Grammarsmith$StateTable", "readCell", "(II)V"⟩ : MethodName) ⟨"Grammarsmith$StateTable", "readCell", "(II)V"⟩ ∈ gx_tb := gx_oks (by decide +kernel) (by decide +kernel)
theorem gs_35 : Cond.selects "Grammarsmith$StateTable" (⟨"Grammarsmith$StateTable", "reducedBy", "(II)I"⟩ : MethodName) ⟨"Grammarsmith$StateTable", "reducedBy", "(II)I"⟩ ∈ gx_tb := gx_oks (by decide +kernel) (by decide +kernel)
theorem gs_36 : Cond.selects "Grammarsmith$StateTable" (⟨"Grammarsmith$StateTable", "isConflict", "()Z"⟩ : MethodName) ⟨"Grammarsmith$StateTable", "isConflict", "()Z"⟩ ∈ gx_tb := gx_oks (by decide +kernel) (by decide +kernel)
theorem gs_37 : Cond.selects "Grammarsmith$StateTable" (⟨"Grammarsmith$StateTable", "isSettled", "(I)Z"⟩ : MethodName) ⟨"Grammarsmith$StateTable", "isSettled", "(I)Z"⟩ ∈ gx_tb := gx_oks (by decide +kernel) (by decide +kernel)
theorem gs_38 : Cond.selects "Grammarsmith$StateTable" (⟨"Grammarsmith$StateTable", "levelOf", "(I)I"⟩ : MethodName) ⟨"Grammarsmith$StateTable", "levelOf", "(I)I"⟩ ∈ gx_tb := gx_oks (by decide +kernel) (by decide +kernel)
theorem gs_39 : Cond.selects "Grammarsmith$StateTable" (⟨"Grammarsmith$StateTable", "levelOfLowest", "()I"⟩ : MethodName) ⟨"Grammarsmith$StateTable", "levelOfLowest", "()I"⟩ ∈ gx_tb := gx_oks (by decide +kernel) (by decide +kernel)
theorem gs_4 : Cond.selects "Grammarsmith$Facts" (⟨"Grammarsmith$Facts", "findBehinds", "()V"⟩ : MethodName) ⟨"Grammarsmith$Facts", "findBehinds", "()V"⟩ ∈ gx_tb := gx_oks (by decide +kernel) (by decide +kernel)
theorem gs_41 : Cond.selects "Grammarsmith$RuleReader" (⟨"Grammarsmith$RuleReader", "wrap", "(LGrammarsmith$Grammar;CI)Z"⟩ : MethodName) ⟨"Grammarsmith$RuleReader", "wrap", "(LGrammarsmith$Grammar;CI)Z"⟩ ∈ gx_tb := gx_oks (by decide +kernel) (by decide +kernel)
theorem gs_42 : Cond.selects "Grammarsmith$RuleReader" (⟨"Grammarsmith$RuleReader", "push", "(I)Z"⟩ : MethodName) ⟨"Grammarsmith$RuleReader", "push", "(I)Z"⟩ ∈ gx_tb := gx_oks (by decide +kernel) (by decide +kernel)
theorem gs_43 : Cond.selects "Grammarsmith$RuleReader" (⟨"Grammarsmith$RuleReader", "closeBracket", "(LGrammarsmith$Grammar;)Z"⟩ : MethodName) ⟨"Grammarsmith$RuleReader", "closeBracket", "(LGrammarsmith$Grammar;)Z"⟩ ∈ gx_tb := gx_oks (by decide +kernel) (by decide +kernel)
theorem gs_44 : Cond.selects "Grammarsmith$RuleReader" (⟨"Grammarsmith$RuleReader", "release", "(LGrammarsmith$Grammar;II)Z"⟩ : MethodName) ⟨"Grammarsmith$RuleReader", "release", "(LGrammarsmith$Grammar;II)Z"⟩ ∈ gx_tb := gx_oks (by decide +kernel) (by decide +kernel)
theorem gs_45 : Cond.selects "Grammarsmith" (⟨"Grammarsmith", "forget", "()V"⟩ : MethodName) ⟨"Grammarsmith", "forget", "()V"⟩ ∈ gx_tb := gx_oks (by decide +kernel) (by decide +kernel)
theorem gs_46 : Cond.selects "Grammarsmith$PredictiveTable" (⟨"Grammarsmith$PredictiveTable", "push", "(I)V"⟩ : MethodName) ⟨"Grammarsmith$PredictiveTable", "push", "(I)V"⟩ ∈ gx_tb := gx_oks (by decide +kernel) (by decide +kernel)
theorem gs_47 : Cond.selects "Grammarsmith$PredictiveTable" (⟨"Grammarsmith$PredictiveTable", "worthOfTree", "()I"⟩ : MethodName) ⟨"Grammarsmith$PredictiveTable", "worthOfTree", "()I"⟩ ∈ gx_tb := gx_oks (by decide +kernel) (by decide +kernel)
theorem gs_48 : Cond.selects "Grammarsmith$PredictiveTable" (⟨"Grammarsmith$PredictiveTable", "pop", "()I"⟩ : MethodName) ⟨"Grammarsmith$PredictiveTable", "pop", "()I"⟩ ∈ gx_tb := gx_oks (by decide +kernel) (by decide +kernel)
theorem gs_49 : Cond.selects "Grammarsmith$PredictiveTable" (⟨"Grammarsmith$PredictiveTable", "next", "()I"⟩ : MethodName) ⟨"Grammarsmith$PredictiveTable", "next", "()I"⟩ ∈ gx_tb := gx_oks (by decide +kernel) (by decide +kernel)
theorem gs_5 : Cond.selects "Grammarsmith$Facts" (⟨"Grammarsmith$Facts", "widenBehinds", "(I)Z"⟩ : MethodName) ⟨"Grammarsmith$Facts", "widenBehinds", "(I)Z"⟩ ∈ gx_tb := gx_oks (by decide +kernel) (by decide +kernel)
theorem gs_50 : Cond.selects "Grammarsmith$PredictiveTable" (⟨"Grammarsmith$PredictiveTable", "lowestIn", "(II)I"⟩ : MethodName) ⟨"Grammarsmith$PredictiveTable", "lowestIn", "(II)I"⟩ ∈ gx_tb := gx_oks (by decide +kernel) (by decide +kernel)
theorem gs_51 : Cond.selects "Grammarsmith$PredictiveTable" (⟨"Grammarsmith$PredictiveTable", "apply", "(I)V"⟩ : MethodName) ⟨"Grammarsmith$PredictiveTable", "apply", "(I)V"⟩ ∈ gx_tb := gx_oks (by decide +kernel) (by decide +kernel)
theorem gs_52 : Cond.selects "Grammarsmith$StateTable" (⟨"Grammarsmith$StateTable", "push", "(II)V"⟩ : MethodName) ⟨"Grammarsmith$StateTable", "push", "(II)V"⟩ ∈ gx_tb := gx_oks (by decide +kernel) (by decide +kernel)
theorem gs_53 : Cond.selects "Grammarsmith$StateTable" (⟨"Grammarsmith$StateTable", "state", "()I"⟩ : MethodName) ⟨"Grammarsmith$StateTable", "state", "()I"⟩ ∈ gx_tb := gx_oks (by decide +kernel) (by decide +kernel)
theorem gs_54 : Cond.selects "Grammarsmith$StateTable" (⟨"Grammarsmith$StateTable", "action", "(II)I"⟩ : MethodName) ⟨"Grammarsmith$StateTable", "action", "(II)I"⟩ ∈ gx_tb := gx_oks (by decide +kernel) (by decide +kernel)
theorem gs_55 : Cond.selects "Grammarsmith$StateTable" (⟨"Grammarsmith$StateTable", "settledAction", "(I)I"⟩ : MethodName) ⟨"Grammarsmith$StateTable", "settledAction", "(I)I"⟩ ∈ gx_tb := gx_oks (by decide +kernel) (by decide +kernel)
theorem gs_56 : Cond.selects "Grammarsmith$StateTable" (⟨"Grammarsmith$StateTable", "worthOfTop", "()I"⟩ : MethodName) ⟨"Grammarsmith$StateTable", "worthOfTop", "()I"⟩ ∈ gx_tb := gx_oks (by decide +kernel) (by decide +kernel)
theorem gs_57 : Cond.selects "Grammarsmith$StateTable" (⟨"Grammarsmith$StateTable", "reduce", "(I)V"⟩ : MethodName) ⟨"Grammarsmith$StateTable", "reduce", "(I)V"⟩ ∈ gx_tb := gx_oks (by decide +kernel) (by decide +kernel)
theorem gs_58 : Cond.selects "GrammarsmithModel" (⟨"GrammarsmithModel", "goes", "(ZZZ)Z"⟩ : MethodName) ⟨"GrammarsmithModel", "goes", "(ZZZ)Z"⟩ ∈ gx_tb := gx_oks (by decide +kernel) (by decide +kernel)
theorem gs_59 : Cond.selects "GrammarsmithModel" (⟨"GrammarsmithModel", "faultOf", "()I"⟩ : MethodName) ⟨"GrammarsmithModel", "faultOf", "()I"⟩ ∈ gx_tb := gx_oks (by decide +kernel) (by decide +kernel)
theorem gs_6 : Cond.selects "Grammarsmith$Facts" (⟨"Grammarsmith$Facts", "findReached", "()V"⟩ : MethodName) ⟨"Grammarsmith$Facts", "findReached", "()V"⟩ ∈ gx_tb := gx_oks (by decide +kernel) (by decide +kernel)
theorem gs_60 : Cond.selects "GrammarsmithModel" (⟨"GrammarsmithModel", "enters", "()Z"⟩ : MethodName) ⟨"GrammarsmithModel", "enters", "()Z"⟩ ∈ gx_tb := gx_oks (by decide +kernel) (by decide +kernel)
theorem gs_61 : Cond.selects "GrammarsmithModel" (⟨"GrammarsmithModel", "reads", "()Z"⟩ : MethodName) ⟨"GrammarsmithModel", "reads", "()Z"⟩ ∈ gx_tb := gx_oks (by decide +kernel) (by decide +kernel)
theorem gs_62 : Cond.selects "GrammarsmithModel" (⟨"GrammarsmithModel", "stands", "(II)Z"⟩ : MethodName) ⟨"GrammarsmithModel", "stands", "(II)Z"⟩ ∈ gx_tb := gx_oks (by decide +kernel) (by decide +kernel)
theorem gs_63 : Cond.selects "GrammarsmithModel" (⟨"GrammarsmithModel", "helper", "()I"⟩ : MethodName) ⟨"GrammarsmithModel", "helper", "()I"⟩ ∈ gx_tb := gx_oks (by decide +kernel) (by decide +kernel)
theorem gs_64 : Cond.selects "GrammarsmithModel" (⟨"GrammarsmithModel", "adds", "(III)Z"⟩ : MethodName) ⟨"GrammarsmithModel", "adds", "(III)Z"⟩ ∈ gx_tb := gx_oks (by decide +kernel) (by decide +kernel)
theorem gs_65 : Cond.selects "GrammarsmithModel" (⟨"GrammarsmithModel", "closes", "()Z"⟩ : MethodName) ⟨"GrammarsmithModel", "closes", "()Z"⟩ ∈ gx_tb := gx_oks (by decide +kernel) (by decide +kernel)
theorem gs_66 : Cond.selects "GrammarsmithModel" (⟨"GrammarsmithModel", "addsAll", "(II)Z"⟩ : MethodName) ⟨"GrammarsmithModel", "addsAll", "(II)Z"⟩ ∈ gx_tb := gx_oks (by decide +kernel) (by decide +kernel)
theorem gs_67 : Cond.selects "GrammarsmithModel" (⟨"GrammarsmithModel", "changed", "()V"⟩ : MethodName) ⟨"GrammarsmithModel", "changed", "()V"⟩ ∈ gx_tb := gx_oks (by decide +kernel) (by decide +kernel)
theorem gs_68 : Cond.selects "GrammarsmithModel" (⟨"GrammarsmithModel", "bringsAll", "(I)Z"⟩ : MethodName) ⟨"GrammarsmithModel", "bringsAll", "(I)Z"⟩ ∈ gx_tb := gx_oks (by decide +kernel) (by decide +kernel)
theorem gs_69 : Cond.selects "GrammarsmithModel" (⟨"GrammarsmithModel", "brings", "(II)V"⟩ : MethodName) ⟨"GrammarsmithModel", "brings", "(II)V"⟩ ∈ gx_tb := gx_oks (by decide +kernel) (by decide +kernel)
theorem gs_7 : Cond.selects "Grammarsmith$Facts" (⟨"Grammarsmith$Facts", "relate", "(II)V"⟩ : MethodName) ⟨"Grammarsmith$Facts", "relate", "(II)V"⟩ ∈ gx_tb := gx_oks (by decide +kernel) (by decide +kernel)
theorem gs_70 : Cond.selects "GrammarsmithModel" (⟨"GrammarsmithModel", "symbol", "(II)I"⟩ : MethodName) ⟨"GrammarsmithModel", "symbol", "(II)I"⟩ ∈ gx_tb := gx_oks (by decide +kernel) (by decide +kernel)
theorem gs_71 : Cond.selects "GrammarsmithModel" (⟨"GrammarsmithModel", "sizeOf", "(I)I"⟩ : MethodName) ⟨"GrammarsmithModel", "sizeOf", "(I)I"⟩ ∈ gx_tb := gx_oks (by decide +kernel) (by decide +kernel)
theorem gs_72 : Cond.selects "GrammarsmithModel" (⟨"GrammarsmithModel", "finds", "()V"⟩ : MethodName) ⟨"GrammarsmithModel", "finds", "()V"⟩ ∈ gx_tb := gx_oks (by decide +kernel) (by decide +kernel)
theorem gs_73 : Cond.selects "GrammarsmithModel" (⟨"GrammarsmithModel", "findsMore", "()Z"⟩ : MethodName) ⟨"GrammarsmithModel", "findsMore", "()Z"⟩ ∈ gx_tb := gx_oks (by decide +kernel) (by decide +kernel)
theorem gs_74 : Cond.selects "GrammarsmithModel" (⟨"GrammarsmithModel", "lead", "(I)I"⟩ : MethodName) ⟨"GrammarsmithModel", "lead", "(I)I"⟩ ∈ gx_tb := gx_oks (by decide +kernel) (by decide +kernel)
theorem gs_75 : Cond.selects "GrammarsmithModel" (⟨"GrammarsmithModel", "firstFrom", "(II)I"⟩ : MethodName) ⟨"GrammarsmithModel", "firstFrom", "(II)I"⟩ ∈ gx_tb := gx_oks (by decide +kernel) (by decide +kernel)
theorem gs_76 : Cond.selects "GrammarsmithModel" (⟨"GrammarsmithModel", "isEmptyFrom", "(II)Z"⟩ : MethodName) ⟨"GrammarsmithModel", "isEmptyFrom", "(II)Z"⟩ ∈ gx_tb := gx_oks (by decide +kernel) (by decide +kernel)
theorem gs_77 : Cond.selects "GrammarsmithModel" (⟨"GrammarsmithModel", "findsBehind", "()Z"⟩ : MethodName) ⟨"GrammarsmithModel", "findsBehind", "()Z"⟩ ∈ gx_tb := gx_oks (by decide +kernel) (by decide +kernel)
theorem gs_78 : Cond.selects "GrammarsmithModel" (⟨"GrammarsmithModel", "findsShort", "(I)Z"⟩ : MethodName) ⟨"GrammarsmithModel", "findsShort", "(I)Z"⟩ ∈ gx_tb := gx_oks (by decide +kernel) (by decide +kernel)
theorem gs_79 : Cond.selects "GrammarsmithModel" (⟨"GrammarsmithModel", "leadsAll", "()V"⟩ : MethodName) ⟨"GrammarsmithModel", "leadsAll", "()V"⟩ ∈ gx_tb := gx_oks (by decide +kernel) (by decide +kernel)
theorem gs_8 : Cond.selects "Grammarsmith$Facts" (⟨"Grammarsmith$Facts", "closeRelation", "()V"⟩ : MethodName) ⟨"Grammarsmith$Facts", "closeRelation", "()V"⟩ ∈ gx_tb := gx_oks (by decide +kernel) (by decide +kernel)
theorem gs_80 : Cond.selects "GrammarsmithModel" (⟨"GrammarsmithModel", "states", "(I)I"⟩ : MethodName) ⟨"GrammarsmithModel", "states", "(I)I"⟩ ∈ gx_tb := gx_oks (by decide +kernel) (by decide +kernel)
theorem gs_81 : Cond.selects "GrammarsmithModel" (⟨"GrammarsmithModel", "wholes", "()V"⟩ : MethodName) ⟨"GrammarsmithModel", "wholes", "()V"⟩ ∈ gx_tb := gx_oks (by decide +kernel) (by decide +kernel)
theorem gs_82 : Cond.selects "GrammarsmithModel" (⟨"GrammarsmithModel", "makes", "([I[IZ)I"⟩ : MethodName) ⟨"GrammarsmithModel", "makes", "([I[IZ)I"⟩ ∈ gx_tb := gx_oks (by decide +kernel) (by decide +kernel)
theorem gs_83 : Cond.selects "GrammarsmithModel" (⟨"GrammarsmithModel", "numbers", "()V"⟩ : MethodName) ⟨"GrammarsmithModel", "numbers", "()V"⟩ ∈ gx_tb := gx_oks (by decide +kernel) (by decide +kernel)
theorem gs_84 : Cond.selects "GrammarsmithModel" (⟨"GrammarsmithModel", "closure", "([II)V"⟩ : MethodName) ⟨"GrammarsmithModel", "closure", "([II)V"⟩ ∈ gx_tb := gx_oks (by decide +kernel) (by decide +kernel)
theorem gs_85 : Cond.selects "GrammarsmithModel" (⟨"GrammarsmithModel", "opensAll", "([II)Z"⟩ : MethodName) ⟨"GrammarsmithModel", "opensAll", "([II)Z"⟩ ∈ gx_tb := gx_oks (by decide +kernel) (by decide +kernel)
theorem gs_86 : Cond.selects "GrammarsmithModel" (⟨"GrammarsmithModel", "opens", "([IIII)Z"⟩ : MethodName) ⟨"GrammarsmithModel", "opens", "([IIII)Z"⟩ ∈ gx_tb := gx_oks (by decide +kernel) (by decide +kernel)
theorem gs_87 : Cond.selects "GrammarsmithModel" (⟨"GrammarsmithModel", "steps", "([III)Z"⟩ : MethodName) ⟨"GrammarsmithModel", "steps", "([III)Z"⟩ ∈ gx_tb := gx_oks (by decide +kernel) (by decide +kernel)
theorem gs_88 : Cond.selects "GrammarsmithModel" (⟨"GrammarsmithModel", "findState", "([IIZ)I"⟩ : MethodName) ⟨"GrammarsmithModel", "findState", "([IIZ)I"⟩ ∈ gx_tb := gx_oks (by decide +kernel) (by decide +kernel)
theorem gs_89 : Cond.selects "GrammarsmithModel" (⟨"GrammarsmithModel", "merges", "()V"⟩ : MethodName) ⟨"GrammarsmithModel", "merges", "()V"⟩ ∈ gx_tb := gx_oks (by decide +kernel) (by decide +kernel)
theorem gs_9 : Cond.selects "Grammarsmith$Facts" (⟨"Grammarsmith$Facts", "findLeftRecursive", "()V"⟩ : MethodName) ⟨"Grammarsmith$Facts", "findLeftRecursive", "()V"⟩ ∈ gx_tb := gx_oks (by decide +kernel) (by decide +kernel)
theorem gs_90 : Cond.selects "GrammarsmithModel" (⟨"GrammarsmithModel", "spreads", "(I)Z"⟩ : MethodName) ⟨"GrammarsmithModel", "spreads", "(I)Z"⟩ ∈ gx_tb := gx_oks (by decide +kernel) (by decide +kernel)
theorem gs_91 : Cond.selects "GrammarsmithModel" (⟨"GrammarsmithModel", "predicted", "(II)I"⟩ : MethodName) ⟨"GrammarsmithModel", "predicted", "(II)I"⟩ ∈ gx_tb := gx_oks (by decide +kernel) (by decide +kernel)
theorem gs_92 : Cond.selects "GrammarsmithModel" (⟨"GrammarsmithModel", "counts", "(IZ)I"⟩ : MethodName) ⟨"GrammarsmithModel", "counts", "(IZ)I"⟩ ∈ gx_tb := gx_oks (by decide +kernel) (by decide +kernel)
theorem gs_93 : Cond.selects "GrammarsmithModel" (⟨"GrammarsmithModel", "cell", "(III)I"⟩ : MethodName) ⟨"GrammarsmithModel", "cell", "(III)I"⟩ ∈ gx_tb := gx_oks (by decide +kernel) (by decide +kernel)
theorem gs_94 : Cond.selects "GrammarsmithModel" (⟨"GrammarsmithModel", "reduces", "(IIII)Z"⟩ : MethodName) ⟨"GrammarsmithModel", "reduces", "(IIII)Z"⟩ ∈ gx_tb := gx_oks (by decide +kernel) (by decide +kernel)
theorem gs_95 : Cond.selects "GrammarsmithModel" (⟨"GrammarsmithModel", "goTo", "(III)I"⟩ : MethodName) ⟨"GrammarsmithModel", "goTo", "(III)I"⟩ ∈ gx_tb := gx_oks (by decide +kernel) (by decide +kernel)
theorem gs_96 : Cond.selects "GrammarsmithModel" (⟨"GrammarsmithModel", "lastTerminal", "(I)I"⟩ : MethodName) ⟨"GrammarsmithModel", "lastTerminal", "(I)I"⟩ ∈ gx_tb := gx_oks (by decide +kernel) (by decide +kernel)
theorem gs_97 : Cond.selects "GrammarsmithModel" (⟨"GrammarsmithModel", "levelOf", "(I)I"⟩ : MethodName) ⟨"GrammarsmithModel", "levelOf", "(I)I"⟩ ∈ gx_tb := gx_oks (by decide +kernel) (by decide +kernel)
theorem gs_98 : Cond.selects "GrammarsmithModel" (⟨"GrammarsmithModel", "parses", "(I)I"⟩ : MethodName) ⟨"GrammarsmithModel", "parses", "(I)I"⟩ ∈ gx_tb := gx_oks (by decide +kernel) (by decide +kernel)
theorem gs_99 : Cond.selects "GrammarsmithModel" (⟨"GrammarsmithModel", "derives", "()I"⟩ : MethodName) ⟨"GrammarsmithModel", "derives", "()I"⟩ ∈ gx_tb := gx_oks (by decide +kernel) (by decide +kernel)
theorem gw_0 : (Jvm.Cond.initialized "GrammarsmithLaw") ∈ gx_tb := gx_ok (List.mem_of_getElem? (i := 0) (by decide +kernel)) (by decide +kernel)
theorem gw_1 : (Jvm.Cond.initialized "Grammarsmith") ∈ gx_tb := gx_ok (List.mem_of_getElem? (i := 1) (by decide +kernel)) (by decide +kernel)
theorem gw_10 : (Jvm.Cond.initialized "Grammarsmith$StateTable") ∈ gx_tb := gx_ok (List.mem_of_getElem? (i := 10) (by decide +kernel)) (by decide +kernel)
theorem gw_1001 : (Jvm.Cond.methodLink "Grammarsmith" (140 : Nat) ({ cls := "Grammarsmith", name := "forget", desc := "()V" } : Jvm.MethodName)) ∈ gx_tb := gx_ok (List.mem_of_getElem? (i := 1001) (by decide +kernel)) (by decide +kernel)
theorem gw_1003 : (Jvm.Cond.instanceMethod ({ cls := "Grammarsmith", name := "forget", desc := "()V" } : Jvm.MethodName)) ∈ gx_tb := gx_ok (List.mem_of_getElem? (i := 1003) (by decide +kernel)) (by decide +kernel)
theorem gw_1005 : (Jvm.Cond.methodLink "Grammarsmith" (272 : Nat) ({ cls := "Grammarsmith$Facts", name := "forget", desc := "(LGrammarsmith$Grammar;)V" } : Jvm.MethodName)) ∈ gx_tb := gx_ok (List.mem_of_getElem? (i := 1005) (by decide +kernel)) (by decide +kernel)
theorem gw_1006 : (Jvm.Cond.instanceMethod ({ cls := "Grammarsmith$Facts", name := "forget", desc := "(LGrammarsmith$Grammar;)V" } : Jvm.MethodName)) ∈ gx_tb := gx_ok (List.mem_of_getElem? (i := 1006) (by decide +kernel)) (by decide +kernel)
theorem gw_1007 : (Jvm.Cond.selects "Grammarsmith$Facts" ({ cls := "Grammarsmith$Facts", name := "forget", desc := "(LGrammarsmith$Grammar;)V" } : Jvm.MethodName) ({ cls := "Grammarsmith$Facts", name := "forget", desc := "(LGrammarsmith$Grammar;)V" } : Jvm.MethodName)) ∈ gx_tb := gx_ok (List.mem_of_getElem? (i := 1007) (by decide +kernel)) (by decide +kernel)
theorem gw_1009 : (Jvm.Cond.methodLink "Grammarsmith" (274 : Nat) ({ cls := "Grammarsmith$Automaton", name := "forget", desc := "()V" } : Jvm.MethodName)) ∈ gx_tb := gx_ok (List.mem_of_getElem? (i := 1009) (by decide +kernel)) (by decide +kernel)
theorem gw_101 : (Jvm.Cond.classLink "Grammarsmith" (25 : Nat) "Grammarsmith$Facts") ∈ gx_tb := gx_ok (List.mem_of_getElem? (i := 101) (by decide +kernel)) (by decide +kernel)
theorem gw_1010 : (Jvm.Cond.instanceMethod ({ cls := "Grammarsmith$Automaton", name := "forget", desc := "()V" } : Jvm.MethodName)) ∈ gx_tb := gx_ok (List.mem_of_getElem? (i := 1010) (by decide +kernel)) (by decide +kernel)
theorem gw_1011 : (Jvm.Cond.selects "Grammarsmith$Automaton" ({ cls := "Grammarsmith$Automaton", name := "forget", desc := "()V" } : Jvm.MethodName) ({ cls := "Grammarsmith$Automaton", name := "forget", desc := "()V" } : Jvm.MethodName)) ∈ gx_tb := gx_ok (List.mem_of_getElem? (i := 1011) (by decide +kernel)) (by decide +kernel)
theorem gw_1013 : (Jvm.Cond.methodLink "GrammarsmithLaw" (115 : Nat) ({ cls := "GrammarsmithLaw", name := "undo", desc := "(LGrammarsmith;[J)I" } : Jvm.MethodName)) ∈ gx_tb := gx_ok (List.mem_of_getElem? (i := 1013) (by decide +kernel)) (by decide +kernel)
theorem gw_1014 : (Jvm.Cond.static ({ cls := "GrammarsmithLaw", name := "undo", desc := "(LGrammarsmith;[J)I" } : Jvm.MethodName)) ∈ gx_tb := gx_ok (List.mem_of_getElem? (i := 1014) (by decide +kernel)) (by decide +kernel)
theorem gw_1016 : (Jvm.Cond.methodLink "GrammarsmithLaw" (21 : Nat) ({ cls := "Grammarsmith", name := "undo", desc := "()I" } : Jvm.MethodName)) ∈ gx_tb := gx_ok (List.mem_of_getElem? (i := 1016) (by decide +kernel)) (by decide +kernel)
theorem gw_1017 : (Jvm.Cond.instanceMethod ({ cls := "Grammarsmith", name := "undo", desc := "()I" } : Jvm.MethodName)) ∈ gx_tb := gx_ok (List.mem_of_getElem? (i := 1017) (by decide +kernel)) (by decide +kernel)
theorem gw_1018 : (Jvm.Cond.selects "Grammarsmith" ({ cls := "Grammarsmith", name := "undo", desc := "()I" } : Jvm.MethodName) ({ cls := "Grammarsmith", name := "undo", desc := "()I" } : Jvm.MethodName)) ∈ gx_tb := gx_ok (List.mem_of_getElem? (i := 1018) (by decide +kernel)) (by decide +kernel)
theorem gw_102 : (Jvm.Cond.instantiable "Grammarsmith$Facts" (14 : Nat)) ∈ gx_tb := gx_ok (List.mem_of_getElem? (i := 102) (by decide +kernel)) (by decide +kernel)
theorem gw_1020 : (Jvm.Cond.methodLink "Grammarsmith" (146 : Nat) ({ cls := "Grammarsmith$Grammar", name := "dropLastRule", desc := "()Z" } : Jvm.MethodName)) ∈ gx_tb := gx_ok (List.mem_of_getElem? (i := 1020) (by decide +kernel)) (by decide +kernel)
theorem gw_1021 : (Jvm.Cond.instanceMethod ({ cls := "Grammarsmith$Grammar", name := "dropLastRule", desc := "()Z" } : Jvm.MethodName)) ∈ gx_tb := gx_ok (List.mem_of_getElem? (i := 1021) (by decide +kernel)) (by decide +kernel)
theorem gw_1022 : (Jvm.Cond.selects "Grammarsmith$Grammar" ({ cls := "Grammarsmith$Grammar", name := "dropLastRule", desc := "()Z" } : Jvm.MethodName) ({ cls := "Grammarsmith$Grammar", name := "dropLastRule", desc := "()Z" } : Jvm.MethodName)) ∈ gx_tb := gx_ok (List.mem_of_getElem? (i := 1022) (by decide +kernel)) (by decide +kernel)
theorem gw_1025 : (Jvm.Cond.methodLink "GrammarsmithLaw" (118 : Nat) ({ cls := "GrammarsmithLaw", name := "use", desc := "(LGrammarsmith;I[J)I" } : Jvm.MethodName)) ∈ gx_tb := gx_ok (List.mem_of_getElem? (i := 1025) (by decide +kernel)) (by decide +kernel)
theorem gw_1026 : (Jvm.Cond.static ({ cls := "GrammarsmithLaw", name := "use", desc := "(LGrammarsmith;I[J)I" } : Jvm.MethodName)) ∈ gx_tb := gx_ok (List.mem_of_getElem? (i := 1026) (by decide +kernel)) (by decide +kernel)
theorem gw_1028 : (Jvm.Cond.classLink "GrammarsmithLaw" (28 : Nat) "java/lang/IndexOutOfBoundsException") ∈ gx_tb := gx_ok (List.mem_of_getElem? (i := 1028) (by decide +kernel)) (by decide +kernel)
theorem gw_1029 : (Jvm.Cond.methodLink "GrammarsmithLaw" (24 : Nat) ({ cls := "Grammarsmith", name := "use", desc := "(I)I" } : Jvm.MethodName)) ∈ gx_tb := gx_ok (List.mem_of_getElem? (i := 1029) (by decide +kernel)) (by decide +kernel)
theorem gw_103 : (Jvm.Cond.methodLink "Grammarsmith" (27 : Nat) ({ cls := "Grammarsmith$Facts", name := "<init>", desc := "(LGrammarsmith$Grammar;)V" } : Jvm.MethodName)) ∈ gx_tb := gx_ok (List.mem_of_getElem? (i := 103) (by decide +kernel)) (by decide +kernel)
theorem gw_1030 : (Jvm.Cond.instanceMethod ({ cls := "Grammarsmith", name := "use", desc := "(I)I" } : Jvm.MethodName)) ∈ gx_tb := gx_ok (List.mem_of_getElem? (i := 1030) (by decide +kernel)) (by decide +kernel)
theorem gw_1031 : (Jvm.Cond.selects "Grammarsmith" ({ cls := "Grammarsmith", name := "use", desc := "(I)I" } : Jvm.MethodName) ({ cls := "Grammarsmith", name := "use", desc := "(I)I" } : Jvm.MethodName)) ∈ gx_tb := gx_ok (List.mem_of_getElem? (i := 1031) (by decide +kernel)) (by decide +kernel)
theorem gw_104 : (Jvm.Cond.instanceMethod ({ cls := "Grammarsmith$Facts", name := "<init>", desc := "(LGrammarsmith$Grammar;)V" } : Jvm.MethodName)) ∈ gx_tb := gx_ok (List.mem_of_getElem? (i := 104) (by decide +kernel)) (by decide +kernel)
theorem gw_1049 : (Jvm.Cond.methodLink "GrammarsmithLaw" (122 : Nat) ({ cls := "GrammarsmithLaw", name := "bring", desc := "(LGrammarsmith;I[J)I" } : Jvm.MethodName)) ∈ gx_tb := gx_ok (List.mem_of_getElem? (i := 1049) (by decide +kernel)) (by decide +kernel)
theorem gw_1050 : (Jvm.Cond.static ({ cls := "GrammarsmithLaw", name := "bring", desc := "(LGrammarsmith;I[J)I" } : Jvm.MethodName)) ∈ gx_tb := gx_ok (List.mem_of_getElem? (i := 1050) (by decide +kernel)) (by decide +kernel)
theorem gw_1052 : (Jvm.Cond.methodLink "GrammarsmithLaw" (30 : Nat) ({ cls := "Grammarsmith", name := "bring", desc := "(I)I" } : Jvm.MethodName)) ∈ gx_tb := gx_ok (List.mem_of_getElem? (i := 1052) (by decide +kernel)) (by decide +kernel)
theorem gw_1053 : (Jvm.Cond.instanceMethod ({ cls := "Grammarsmith", name := "bring", desc := "(I)I" } : Jvm.MethodName)) ∈ gx_tb := gx_ok (List.mem_of_getElem? (i := 1053) (by decide +kernel)) (by decide +kernel)
theorem gw_1054 : (Jvm.Cond.selects "Grammarsmith" ({ cls := "Grammarsmith", name := "bring", desc := "(I)I" } : Jvm.MethodName) ({ cls := "Grammarsmith", name := "bring", desc := "(I)I" } : Jvm.MethodName)) ∈ gx_tb := gx_ok (List.mem_of_getElem? (i := 1054) (by decide +kernel)) (by decide +kernel)
theorem gw_1057 : (Jvm.Cond.methodLink "Grammarsmith" (162 : Nat) ({ cls := "Grammarsmith$Grammar", name := "admitAll", desc := "(LGrammarsmith$Grammar;I)Z" } : Jvm.MethodName)) ∈ gx_tb := gx_ok (List.mem_of_getElem? (i := 1057) (by decide +kernel)) (by decide +kernel)
theorem gw_1058 : (Jvm.Cond.instanceMethod ({ cls := "Grammarsmith$Grammar", name := "admitAll", desc := "(LGrammarsmith$Grammar;I)Z" } : Jvm.MethodName)) ∈ gx_tb := gx_ok (List.mem_of_getElem? (i := 1058) (by decide +kernel)) (by decide +kernel)
theorem gw_1059 : (Jvm.Cond.selects "Grammarsmith$Grammar" ({ cls := "Grammarsmith$Grammar", name := "admitAll", desc := "(LGrammarsmith$Grammar;I)Z" } : Jvm.MethodName) ({ cls := "Grammarsmith$Grammar", name := "admitAll", desc := "(LGrammarsmith$Grammar;I)Z" } : Jvm.MethodName)) ∈ gx_tb := gx_ok (List.mem_of_getElem? (i := 1059) (by decide +kernel)) (by decide +kernel)
theorem gw_106 : (Jvm.Cond.methodLink "Grammarsmith$Facts" (3 : Nat) ({ cls := "java/lang/Object", name := "<init>", desc := "()V" } : Jvm.MethodName)) ∈ gx_tb := gx_ok (List.mem_of_getElem? (i := 106) (by decide +kernel)) (by decide +kernel)
theorem gw_1061 : (Jvm.Cond.methodLink "Grammarsmith$Grammar" (82 : Nat) ({ cls := "Grammarsmith$Grammar", name := "\x61dmit", desc := "(LGrammarsmith$RuleText;)Z" } : Jvm.MethodName)) ∈ gx_tb := gx_ok (List.mem_of_getElem? (i := 1061) (by decide +kernel)) (by decide +kernel)
theorem gw_1063 : (Jvm.Cond.methodLink "Grammarsmith" (168 : Nat) ({ cls := "Grammarsmith$Grammar", name := "rules", desc := "()I" } : Jvm.MethodName)) ∈ gx_tb := gx_ok (List.mem_of_getElem? (i := 1063) (by decide +kernel)) (by decide +kernel)
theorem gw_1064 : (Jvm.Cond.instanceMethod ({ cls := "Grammarsmith$Grammar", name := "rules", desc := "()I" } : Jvm.MethodName)) ∈ gx_tb := gx_ok (List.mem_of_getElem? (i := 1064) (by decide +kernel)) (by decide +kernel)
theorem gw_1065 : (Jvm.Cond.selects "Grammarsmith$Grammar" ({ cls := "Grammarsmith$Grammar", name := "rules", desc := "()I" } : Jvm.MethodName) ({ cls := "Grammarsmith$Grammar", name := "rules", desc := "()I" } : Jvm.MethodName)) ∈ gx_tb := gx_ok (List.mem_of_getElem? (i := 1065) (by decide +kernel)) (by decide +kernel)
theorem gw_1067 : (Jvm.Cond.methodLink "GrammarsmithLaw" (125 : Nat) ({ cls := "GrammarsmithLaw", name := "start", desc := "(LGrammarsmith;I[J)I" } : Jvm.MethodName)) ∈ gx_tb := gx_ok (List.mem_of_getElem? (i := 1067) (by decide +kernel)) (by decide +kernel)
theorem gw_1068 : (Jvm.Cond.static ({ cls := "GrammarsmithLaw", name := "start", desc := "(LGrammarsmith;I[J)I" } : Jvm.MethodName)) ∈ gx_tb := gx_ok (List.mem_of_getElem? (i := 1068) (by decide +kernel)) (by decide +kernel)
theorem gw_107 : (Jvm.Cond.fieldLink "Grammarsmith$Facts" (37 : Nat) "Grammarsmith$Facts" "grammar" "LGrammarsmith$Grammar;") ∈ gx_tb := gx_ok (List.mem_of_getElem? (i := 107) (by decide +kernel)) (by decide +kernel)
theorem gw_1070 : (Jvm.Cond.methodLink "GrammarsmithLaw" (33 : Nat) ({ cls := "Grammarsmith", name := "start", desc := "(I)I" } : Jvm.MethodName)) ∈ gx_tb := gx_ok (List.mem_of_getElem? (i := 1070) (by decide +kernel)) (by decide +kernel)
theorem gw_1071 : (Jvm.Cond.instanceMethod ({ cls := "Grammarsmith", name := "start", desc := "(I)I" } : Jvm.MethodName)) ∈ gx_tb := gx_ok (List.mem_of_getElem? (i := 1071) (by decide +kernel)) (by decide +kernel)
theorem gw_1072 : (Jvm.Cond.selects "Grammarsmith" ({ cls := "Grammarsmith", name := "start", desc := "(I)I" } : Jvm.MethodName) ({ cls := "Grammarsmith", name := "start", desc := "(I)I" } : Jvm.MethodName)) ∈ gx_tb := gx_ok (List.mem_of_getElem? (i := 1072) (by decide +kernel)) (by decide +kernel)
theorem gw_1075 : (Jvm.Cond.methodLink "Grammarsmith" (176 : Nat) ({ cls := "Grammarsmith$Grammar", name := "setTop", desc := "(I)V" } : Jvm.MethodName)) ∈ gx_tb := gx_ok (List.mem_of_getElem? (i := 1075) (by decide +kernel)) (by decide +kernel)
theorem gw_1076 : (Jvm.Cond.instanceMethod ({ cls := "Grammarsmith$Grammar", name := "setTop", desc := "(I)V" } : Jvm.MethodName)) ∈ gx_tb := gx_ok (List.mem_of_getElem? (i := 1076) (by decide +kernel)) (by decide +kernel)
theorem gw_1077 : (Jvm.Cond.selects "Grammarsmith$Grammar" ({ cls := "Grammarsmith$Grammar", name := "setTop", desc := "(I)V" } : Jvm.MethodName) ({ cls := "Grammarsmith$Grammar", name := "setTop", desc := "(I)V" } : Jvm.MethodName)) ∈ gx_tb := gx_ok (List.mem_of_getElem? (i := 1077) (by decide +kernel)) (by decide +kernel)
theorem gw_1079 : (Jvm.Cond.methodLink "GrammarsmithLaw" (128 : Nat) ({ cls := "GrammarsmithLaw", name := "level", desc := "(LGrammarsmith;III[J)I" } : Jvm.MethodName)) ∈ gx_tb := gx_ok (List.mem_of_getElem? (i := 1079) (by decide +kernel)) (by decide +kernel)
theorem gw_108 : (Jvm.Cond.fieldLink "Grammarsmith$Facts" (41 : Nat) "Grammarsmith$Facts" "known" "Z") ∈ gx_tb := gx_ok (List.mem_of_getElem? (i := 108) (by decide +kernel)) (by decide +kernel)
theorem gw_1080 : (Jvm.Cond.static ({ cls := "GrammarsmithLaw", name := "level", desc := "(LGrammarsmith;III[J)I" } : Jvm.MethodName)) ∈ gx_tb := gx_ok (List.mem_of_getElem? (i := 1080) (by decide +kernel)) (by decide +kernel)
theorem gw_1082 : (Jvm.Cond.methodLink "GrammarsmithLaw" (36 : Nat) ({ cls := "Grammarsmith", name := "level", desc := "(III)I" } : Jvm.MethodName)) ∈ gx_tb := gx_ok (List.mem_of_getElem? (i := 1082) (by decide +kernel)) (by decide +kernel)
theorem gw_1083 : (Jvm.Cond.instanceMethod ({ cls := "Grammarsmith", name := "level", desc := "(III)I" } : Jvm.MethodName)) ∈ gx_tb := gx_ok (List.mem_of_getElem? (i := 1083) (by decide +kernel)) (by decide +kernel)
theorem gw_1084 : (Jvm.Cond.selects "Grammarsmith" ({ cls := "Grammarsmith", name := "level", desc := "(III)I" } : Jvm.MethodName) ({ cls := "Grammarsmith", name := "level", desc := "(III)I" } : Jvm.MethodName)) ∈ gx_tb := gx_ok (List.mem_of_getElem? (i := 1084) (by decide +kernel)) (by decide +kernel)
theorem gw_1086 : (Jvm.Cond.methodLink "Grammarsmith" (180 : Nat) ({ cls := "Grammarsmith", name := "isTerminal", desc := "(I)Z" } : Jvm.MethodName)) ∈ gx_tb := gx_ok (List.mem_of_getElem? (i := 1086) (by decide +kernel)) (by decide +kernel)
theorem gw_1089 : (Jvm.Cond.methodLink "GrammarsmithLaw" (136 : Nat) ({ cls := "GrammarsmithLaw", name := "left", desc := "(LGrammarsmith;I[J)I" } : Jvm.MethodName)) ∈ gx_tb := gx_ok (List.mem_of_getElem? (i := 1089) (by decide +kernel)) (by decide +kernel)
theorem gw_109 : (Jvm.Cond.fieldLink "Grammarsmith$Facts" (79 : Nat) "Grammarsmith$Facts" "reached" "I") ∈ gx_tb := gx_ok (List.mem_of_getElem? (i := 109) (by decide +kernel)) (by decide +kernel)
theorem gw_1090 : (Jvm.Cond.static ({ cls := "GrammarsmithLaw", name := "left", desc := "(LGrammarsmith;I[J)I" } : Jvm.MethodName)) ∈ gx_tb := gx_ok (List.mem_of_getElem? (i := 1090) (by decide +kernel)) (by decide +kernel)
theorem gw_1092 : (Jvm.Cond.methodLink "GrammarsmithLaw" (40 : Nat) ({ cls := "Grammarsmith", name := "left", desc := "(I)I" } : Jvm.MethodName)) ∈ gx_tb := gx_ok (List.mem_of_getElem? (i := 1092) (by decide +kernel)) (by decide +kernel)
theorem gw_1093 : (Jvm.Cond.instanceMethod ({ cls := "Grammarsmith", name := "left", desc := "(I)I" } : Jvm.MethodName)) ∈ gx_tb := gx_ok (List.mem_of_getElem? (i := 1093) (by decide +kernel)) (by decide +kernel)
theorem gw_1094 : (Jvm.Cond.selects "Grammarsmith" ({ cls := "Grammarsmith", name := "left", desc := "(I)I" } : Jvm.MethodName) ({ cls := "Grammarsmith", name := "left", desc := "(I)I" } : Jvm.MethodName)) ∈ gx_tb := gx_ok (List.mem_of_getElem? (i := 1094) (by decide +kernel)) (by decide +kernel)
theorem gw_1097 : (Jvm.Cond.methodLink "Grammarsmith" (190 : Nat) ({ cls := "Grammarsmith$Grammar", name := "owner", desc := "(I)I" } : Jvm.MethodName)) ∈ gx_tb := gx_ok (List.mem_of_getElem? (i := 1097) (by decide +kernel)) (by decide +kernel)
theorem gw_1098 : (Jvm.Cond.methodLink "GrammarsmithLaw" (139 : Nat) ({ cls := "GrammarsmithLaw", name := "right", desc := "(LGrammarsmith;II[J)I" } : Jvm.MethodName)) ∈ gx_tb := gx_ok (List.mem_of_getElem? (i := 1098) (by decide +kernel)) (by decide +kernel)
theorem gw_1099 : (Jvm.Cond.static ({ cls := "GrammarsmithLaw", name := "right", desc := "(LGrammarsmith;II[J)I" } : Jvm.MethodName)) ∈ gx_tb := gx_ok (List.mem_of_getElem? (i := 1099) (by decide +kernel)) (by decide +kernel)
theorem gw_11 : (Jvm.Cond.initialized "Grammarsmith$Chart") ∈ gx_tb := gx_ok (List.mem_of_getElem? (i := 11) (by decide +kernel)) (by decide +kernel)
theorem gw_110 : (Jvm.Cond.fieldLink "Grammarsmith$Facts" (87 : Nat) "Grammarsmith$Facts" "leftRecursive" "I") ∈ gx_tb := gx_ok (List.mem_of_getElem? (i := 110) (by decide +kernel)) (by decide +kernel)
theorem gw_1101 : (Jvm.Cond.methodLink "GrammarsmithLaw" (43 : Nat) ({ cls := "Grammarsmith", name := "right", desc := "(II)I" } : Jvm.MethodName)) ∈ gx_tb := gx_ok (List.mem_of_getElem? (i := 1101) (by decide +kernel)) (by decide +kernel)
theorem gw_1102 : (Jvm.Cond.instanceMethod ({ cls := "Grammarsmith", name := "right", desc := "(II)I" } : Jvm.MethodName)) ∈ gx_tb := gx_ok (List.mem_of_getElem? (i := 1102) (by decide +kernel)) (by decide +kernel)
theorem gw_1103 : (Jvm.Cond.selects "Grammarsmith" ({ cls := "Grammarsmith", name := "right", desc := "(II)I" } : Jvm.MethodName) ({ cls := "Grammarsmith", name := "right", desc := "(II)I" } : Jvm.MethodName)) ∈ gx_tb := gx_ok (List.mem_of_getElem? (i := 1103) (by decide +kernel)) (by decide +kernel)
theorem gw_1106 : (Jvm.Cond.methodLink "Grammarsmith" (196 : Nat) ({ cls := "Grammarsmith$Grammar", name := "symbol", desc := "(II)I" } : Jvm.MethodName)) ∈ gx_tb := gx_ok (List.mem_of_getElem? (i := 1106) (by decide +kernel)) (by decide +kernel)
theorem gw_1107 : (Jvm.Cond.methodLink "GrammarsmithLaw" (143 : Nat) ({ cls := "GrammarsmithLaw", name := "isNullable", desc := "(LGrammarsmith;I[J)I" } : Jvm.MethodName)) ∈ gx_tb := gx_ok (List.mem_of_getElem? (i := 1107) (by decide +kernel)) (by decide +kernel)
theorem gw_1108 : (Jvm.Cond.static ({ cls := "GrammarsmithLaw", name := "isNullable", desc := "(LGrammarsmith;I[J)I" } : Jvm.MethodName)) ∈ gx_tb := gx_ok (List.mem_of_getElem? (i := 1108) (by decide +kernel)) (by decide +kernel)
theorem gw_111 : (Jvm.Cond.fieldLink "Grammarsmith$Facts" (90 : Nat) "Grammarsmith$Facts" "circular" "I") ∈ gx_tb := gx_ok (List.mem_of_getElem? (i := 111) (by decide +kernel)) (by decide +kernel)
theorem gw_1110 : (Jvm.Cond.methodLink "GrammarsmithLaw" (47 : Nat) ({ cls := "Grammarsmith", name := "isNullable", desc := "(I)Z" } : Jvm.MethodName)) ∈ gx_tb := gx_ok (List.mem_of_getElem? (i := 1110) (by decide +kernel)) (by decide +kernel)
theorem gw_1111 : (Jvm.Cond.instanceMethod ({ cls := "Grammarsmith", name := "isNullable", desc := "(I)Z" } : Jvm.MethodName)) ∈ gx_tb := gx_ok (List.mem_of_getElem? (i := 1111) (by decide +kernel)) (by decide +kernel)
theorem gw_1112 : (Jvm.Cond.selects "Grammarsmith" ({ cls := "Grammarsmith", name := "isNullable", desc := "(I)Z" } : Jvm.MethodName) ({ cls := "Grammarsmith", name := "isNullable", desc := "(I)Z" } : Jvm.MethodName)) ∈ gx_tb := gx_ok (List.mem_of_getElem? (i := 1112) (by decide +kernel)) (by decide +kernel)
theorem gw_1114 : (Jvm.Cond.methodLink "Grammarsmith" (200 : Nat) ({ cls := "Grammarsmith", name := "requireNonterminal", desc := "(I)V" } : Jvm.MethodName)) ∈ gx_tb := gx_ok (List.mem_of_getElem? (i := 1114) (by decide +kernel)) (by decide +kernel)
theorem gw_1115 : (Jvm.Cond.static ({ cls := "Grammarsmith", name := "requireNonterminal", desc := "(I)V" } : Jvm.MethodName)) ∈ gx_tb := gx_ok (List.mem_of_getElem? (i := 1115) (by decide +kernel)) (by decide +kernel)
theorem gw_1117 : (Jvm.Cond.methodLink "Grammarsmith" (206 : Nat) ({ cls := "Grammarsmith$Facts", name := "vanishes", desc := "(I)Z" } : Jvm.MethodName)) ∈ gx_tb := gx_ok (List.mem_of_getElem? (i := 1117) (by decide +kernel)) (by decide +kernel)
theorem gw_1118 : (Jvm.Cond.instanceMethod ({ cls := "Grammarsmith$Facts", name := "vanishes", desc := "(I)Z" } : Jvm.MethodName)) ∈ gx_tb := gx_ok (List.mem_of_getElem? (i := 1118) (by decide +kernel)) (by decide +kernel)
theorem gw_1119 : (Jvm.Cond.selects "Grammarsmith$Facts" ({ cls := "Grammarsmith$Facts", name := "vanishes", desc := "(I)Z" } : Jvm.MethodName) ({ cls := "Grammarsmith$Facts", name := "vanishes", desc := "(I)Z" } : Jvm.MethodName)) ∈ gx_tb := gx_ok (List.mem_of_getElem? (i := 1119) (by decide +kernel)) (by decide +kernel)
theorem gw_112 : (Jvm.Cond.fieldLink "Grammarsmith$Facts" (9 : Nat) "Grammarsmith$Facts" "begins" "[I") ∈ gx_tb := gx_ok (List.mem_of_getElem? (i := 112) (by decide +kernel)) (by decide +kernel)
theorem gw_1121 : (Jvm.Cond.methodLink "GrammarsmithLaw" (146 : Nat) ({ cls := "GrammarsmithLaw", name := "first", desc := "(LGrammarsmith;I[J)I" } : Jvm.MethodName)) ∈ gx_tb := gx_ok (List.mem_of_getElem? (i := 1121) (by decide +kernel)) (by decide +kernel)
theorem gw_1122 : (Jvm.Cond.static ({ cls := "GrammarsmithLaw", name := "first", desc := "(LGrammarsmith;I[J)I" } : Jvm.MethodName)) ∈ gx_tb := gx_ok (List.mem_of_getElem? (i := 1122) (by decide +kernel)) (by decide +kernel)
theorem gw_1124 : (Jvm.Cond.methodLink "GrammarsmithLaw" (51 : Nat) ({ cls := "Grammarsmith", name := "first", desc := "(I)I" } : Jvm.MethodName)) ∈ gx_tb := gx_ok (List.mem_of_getElem? (i := 1124) (by decide +kernel)) (by decide +kernel)
theorem gw_1125 : (Jvm.Cond.instanceMethod ({ cls := "Grammarsmith", name := "first", desc := "(I)I" } : Jvm.MethodName)) ∈ gx_tb := gx_ok (List.mem_of_getElem? (i := 1125) (by decide +kernel)) (by decide +kernel)
theorem gw_1126 : (Jvm.Cond.selects "Grammarsmith" ({ cls := "Grammarsmith", name := "first", desc := "(I)I" } : Jvm.MethodName) ({ cls := "Grammarsmith", name := "first", desc := "(I)I" } : Jvm.MethodName)) ∈ gx_tb := gx_ok (List.mem_of_getElem? (i := 1126) (by decide +kernel)) (by decide +kernel)
theorem gw_1128 : (Jvm.Cond.methodLink "Grammarsmith" (209 : Nat) ({ cls := "Grammarsmith$Facts", name := "firsts", desc := "(I)I" } : Jvm.MethodName)) ∈ gx_tb := gx_ok (List.mem_of_getElem? (i := 1128) (by decide +kernel)) (by decide +kernel)
theorem gw_1129 : (Jvm.Cond.instanceMethod ({ cls := "Grammarsmith$Facts", name := "firsts", desc := "(I)I" } : Jvm.MethodName)) ∈ gx_tb := gx_ok (List.mem_of_getElem? (i := 1129) (by decide +kernel)) (by decide +kernel)
theorem gw_113 : (Jvm.Cond.fieldLink "Grammarsmith$Facts" (15 : Nat) "Grammarsmith$Facts" "behinds" "[I") ∈ gx_tb := gx_ok (List.mem_of_getElem? (i := 113) (by decide +kernel)) (by decide +kernel)
theorem gw_1130 : (Jvm.Cond.selects "Grammarsmith$Facts" ({ cls := "Grammarsmith$Facts", name := "firsts", desc := "(I)I" } : Jvm.MethodName) ({ cls := "Grammarsmith$Facts", name := "firsts", desc := "(I)I" } : Jvm.MethodName)) ∈ gx_tb := gx_ok (List.mem_of_getElem? (i := 1130) (by decide +kernel)) (by decide +kernel)
theorem gw_1132 : (Jvm.Cond.methodLink "GrammarsmithLaw" (149 : Nat) ({ cls := "GrammarsmithLaw", name := "follow", desc := "(LGrammarsmith;I[J)I" } : Jvm.MethodName)) ∈ gx_tb := gx_ok (List.mem_of_getElem? (i := 1132) (by decide +kernel)) (by decide +kernel)
theorem gw_1133 : (Jvm.Cond.static ({ cls := "GrammarsmithLaw", name := "follow", desc := "(LGrammarsmith;I[J)I" } : Jvm.MethodName)) ∈ gx_tb := gx_ok (List.mem_of_getElem? (i := 1133) (by decide +kernel)) (by decide +kernel)
theorem gw_1135 : (Jvm.Cond.methodLink "GrammarsmithLaw" (54 : Nat) ({ cls := "Grammarsmith", name := "follow", desc := "(I)I" } : Jvm.MethodName)) ∈ gx_tb := gx_ok (List.mem_of_getElem? (i := 1135) (by decide +kernel)) (by decide +kernel)
theorem gw_1136 : (Jvm.Cond.instanceMethod ({ cls := "Grammarsmith", name := "follow", desc := "(I)I" } : Jvm.MethodName)) ∈ gx_tb := gx_ok (List.mem_of_getElem? (i := 1136) (by decide +kernel)) (by decide +kernel)
theorem gw_1137 : (Jvm.Cond.selects "Grammarsmith" ({ cls := "Grammarsmith", name := "follow", desc := "(I)I" } : Jvm.MethodName) ({ cls := "Grammarsmith", name := "follow", desc := "(I)I" } : Jvm.MethodName)) ∈ gx_tb := gx_ok (List.mem_of_getElem? (i := 1137) (by decide +kernel)) (by decide +kernel)
theorem gw_1139 : (Jvm.Cond.methodLink "Grammarsmith" (212 : Nat) ({ cls := "Grammarsmith$Facts", name := "behind", desc := "(I)I" } : Jvm.MethodName)) ∈ gx_tb := gx_ok (List.mem_of_getElem? (i := 1139) (by decide +kernel)) (by decide +kernel)
theorem gw_114 : (Jvm.Cond.fieldLink "Grammarsmith$Facts" (18 : Nat) "Grammarsmith$Facts" "predictions" "[I") ∈ gx_tb := gx_ok (List.mem_of_getElem? (i := 114) (by decide +kernel)) (by decide +kernel)
theorem gw_1140 : (Jvm.Cond.methodLink "GrammarsmithLaw" (152 : Nat) ({ cls := "GrammarsmithLaw", name := "uses", desc := "(LGrammarsmith;I[J)I" } : Jvm.MethodName)) ∈ gx_tb := gx_ok (List.mem_of_getElem? (i := 1140) (by decide +kernel)) (by decide +kernel)
theorem gw_1141 : (Jvm.Cond.static ({ cls := "GrammarsmithLaw", name := "uses", desc := "(LGrammarsmith;I[J)I" } : Jvm.MethodName)) ∈ gx_tb := gx_ok (List.mem_of_getElem? (i := 1141) (by decide +kernel)) (by decide +kernel)
theorem gw_1143 : (Jvm.Cond.methodLink "GrammarsmithLaw" (57 : Nat) ({ cls := "Grammarsmith", name := "uses", desc := "(I)I" } : Jvm.MethodName)) ∈ gx_tb := gx_ok (List.mem_of_getElem? (i := 1143) (by decide +kernel)) (by decide +kernel)
theorem gw_1144 : (Jvm.Cond.instanceMethod ({ cls := "Grammarsmith", name := "uses", desc := "(I)I" } : Jvm.MethodName)) ∈ gx_tb := gx_ok (List.mem_of_getElem? (i := 1144) (by decide +kernel)) (by decide +kernel)
theorem gw_1145 : (Jvm.Cond.selects "Grammarsmith" ({ cls := "Grammarsmith", name := "uses", desc := "(I)I" } : Jvm.MethodName) ({ cls := "Grammarsmith", name := "uses", desc := "(I)I" } : Jvm.MethodName)) ∈ gx_tb := gx_ok (List.mem_of_getElem? (i := 1145) (by decide +kernel)) (by decide +kernel)
theorem gw_1147 : (Jvm.Cond.methodLink "Grammarsmith" (218 : Nat) ({ cls := "Grammarsmith$Facts", name := "isReached", desc := "(I)Z" } : Jvm.MethodName)) ∈ gx_tb := gx_ok (List.mem_of_getElem? (i := 1147) (by decide +kernel)) (by decide +kernel)
theorem gw_1148 : (Jvm.Cond.instanceMethod ({ cls := "Grammarsmith$Facts", name := "isReached", desc := "(I)Z" } : Jvm.MethodName)) ∈ gx_tb := gx_ok (List.mem_of_getElem? (i := 1148) (by decide +kernel)) (by decide +kernel)
theorem gw_1149 : (Jvm.Cond.selects "Grammarsmith$Facts" ({ cls := "Grammarsmith$Facts", name := "isReached", desc := "(I)Z" } : Jvm.MethodName) ({ cls := "Grammarsmith$Facts", name := "isReached", desc := "(I)Z" } : Jvm.MethodName)) ∈ gx_tb := gx_ok (List.mem_of_getElem? (i := 1149) (by decide +kernel)) (by decide +kernel)
theorem gw_115 : (Jvm.Cond.fieldLink "Grammarsmith$Facts" (21 : Nat) "Grammarsmith$Facts" "leasts" "[I") ∈ gx_tb := gx_ok (List.mem_of_getElem? (i := 115) (by decide +kernel)) (by decide +kernel)
theorem gw_1151 : (Jvm.Cond.methodLink "GrammarsmithLaw" (155 : Nat) ({ cls := "GrammarsmithLaw", name := "isLeftRecursive", desc := "(LGrammarsmith;I[J)I" } : Jvm.MethodName)) ∈ gx_tb := gx_ok (List.mem_of_getElem? (i := 1151) (by decide +kernel)) (by decide +kernel)
theorem gw_1152 : (Jvm.Cond.static ({ cls := "GrammarsmithLaw", name := "isLeftRecursive", desc := "(LGrammarsmith;I[J)I" } : Jvm.MethodName)) ∈ gx_tb := gx_ok (List.mem_of_getElem? (i := 1152) (by decide +kernel)) (by decide +kernel)
theorem gw_1154 : (Jvm.Cond.methodLink "GrammarsmithLaw" (60 : Nat) ({ cls := "Grammarsmith", name := "isLeftRecursive", desc := "(I)Z" } : Jvm.MethodName)) ∈ gx_tb := gx_ok (List.mem_of_getElem? (i := 1154) (by decide +kernel)) (by decide +kernel)
theorem gw_1155 : (Jvm.Cond.instanceMethod ({ cls := "Grammarsmith", name := "isLeftRecursive", desc := "(I)Z" } : Jvm.MethodName)) ∈ gx_tb := gx_ok (List.mem_of_getElem? (i := 1155) (by decide +kernel)) (by decide +kernel)
theorem gw_1156 : (Jvm.Cond.selects "Grammarsmith" ({ cls := "Grammarsmith", name := "isLeftRecursive", desc := "(I)Z" } : Jvm.MethodName) ({ cls := "Grammarsmith", name := "isLeftRecursive", desc := "(I)Z" } : Jvm.MethodName)) ∈ gx_tb := gx_ok (List.mem_of_getElem? (i := 1156) (by decide +kernel)) (by decide +kernel)
theorem gw_1158 : (Jvm.Cond.methodLink "Grammarsmith" (221 : Nat) ({ cls := "Grammarsmith$Facts", name := "beginsItself", desc := "(I)Z" } : Jvm.MethodName)) ∈ gx_tb := gx_ok (List.mem_of_getElem? (i := 1158) (by decide +kernel)) (by decide +kernel)
theorem gw_1159 : (Jvm.Cond.instanceMethod ({ cls := "Grammarsmith$Facts", name := "beginsItself", desc := "(I)Z" } : Jvm.MethodName)) ∈ gx_tb := gx_ok (List.mem_of_getElem? (i := 1159) (by decide +kernel)) (by decide +kernel)
theorem gw_116 : (Jvm.Cond.fieldLink "Grammarsmith$Facts" (24 : Nat) "Grammarsmith$Facts" "spellings" "[J") ∈ gx_tb := gx_ok (List.mem_of_getElem? (i := 116) (by decide +kernel)) (by decide +kernel)
theorem gw_1160 : (Jvm.Cond.selects "Grammarsmith$Facts" ({ cls := "Grammarsmith$Facts", name := "beginsItself", desc := "(I)Z" } : Jvm.MethodName) ({ cls := "Grammarsmith$Facts", name := "beginsItself", desc := "(I)Z" } : Jvm.MethodName)) ∈ gx_tb := gx_ok (List.mem_of_getElem? (i := 1160) (by decide +kernel)) (by decide +kernel)
theorem gw_1162 : (Jvm.Cond.methodLink "GrammarsmithLaw" (158 : Nat) ({ cls := "GrammarsmithLaw", name := "shortest", desc := "(LGrammarsmith;I[J)I" } : Jvm.MethodName)) ∈ gx_tb := gx_ok (List.mem_of_getElem? (i := 1162) (by decide +kernel)) (by decide +kernel)
theorem gw_1163 : (Jvm.Cond.static ({ cls := "GrammarsmithLaw", name := "shortest", desc := "(LGrammarsmith;I[J)I" } : Jvm.MethodName)) ∈ gx_tb := gx_ok (List.mem_of_getElem? (i := 1163) (by decide +kernel)) (by decide +kernel)
theorem gw_1165 : (Jvm.Cond.methodLink "GrammarsmithLaw" (63 : Nat) ({ cls := "Grammarsmith", name := "shortest", desc := "(I)I" } : Jvm.MethodName)) ∈ gx_tb := gx_ok (List.mem_of_getElem? (i := 1165) (by decide +kernel)) (by decide +kernel)
theorem gw_1166 : (Jvm.Cond.instanceMethod ({ cls := "Grammarsmith", name := "shortest", desc := "(I)I" } : Jvm.MethodName)) ∈ gx_tb := gx_ok (List.mem_of_getElem? (i := 1166) (by decide +kernel)) (by decide +kernel)
theorem gw_1167 : (Jvm.Cond.selects "Grammarsmith" ({ cls := "Grammarsmith", name := "shortest", desc := "(I)I" } : Jvm.MethodName) ({ cls := "Grammarsmith", name := "shortest", desc := "(I)I" } : Jvm.MethodName)) ∈ gx_tb := gx_ok (List.mem_of_getElem? (i := 1167) (by decide +kernel)) (by decide +kernel)
theorem gw_1169 : (Jvm.Cond.methodLink "Grammarsmith" (224 : Nat) ({ cls := "Grammarsmith$Facts", name := "least", desc := "(I)I" } : Jvm.MethodName)) ∈ gx_tb := gx_ok (List.mem_of_getElem? (i := 1169) (by decide +kernel)) (by decide +kernel)
theorem gw_117 : (Jvm.Cond.fieldLink "Grammarsmith$Facts" (160 : Nat) "Grammarsmith$Facts" "spelt" "I") ∈ gx_tb := gx_ok (List.mem_of_getElem? (i := 117) (by decide +kernel)) (by decide +kernel)
theorem gw_1170 : (Jvm.Cond.methodLink "GrammarsmithLaw" (161 : Nat) ({ cls := "GrammarsmithLaw", name := "sentence", desc := "(LGrammarsmith;II[J)I" } : Jvm.MethodName)) ∈ gx_tb := gx_ok (List.mem_of_getElem? (i := 1170) (by decide +kernel)) (by decide +kernel)
theorem gw_1171 : (Jvm.Cond.static ({ cls := "GrammarsmithLaw", name := "sentence", desc := "(LGrammarsmith;II[J)I" } : Jvm.MethodName)) ∈ gx_tb := gx_ok (List.mem_of_getElem? (i := 1171) (by decide +kernel)) (by decide +kernel)
theorem gw_1173 : (Jvm.Cond.methodLink "GrammarsmithLaw" (66 : Nat) ({ cls := "Grammarsmith", name := "sentence", desc := "(II)I" } : Jvm.MethodName)) ∈ gx_tb := gx_ok (List.mem_of_getElem? (i := 1173) (by decide +kernel)) (by decide +kernel)
theorem gw_1174 : (Jvm.Cond.instanceMethod ({ cls := "Grammarsmith", name := "sentence", desc := "(II)I" } : Jvm.MethodName)) ∈ gx_tb := gx_ok (List.mem_of_getElem? (i := 1174) (by decide +kernel)) (by decide +kernel)
theorem gw_1175 : (Jvm.Cond.selects "Grammarsmith" ({ cls := "Grammarsmith", name := "sentence", desc := "(II)I" } : Jvm.MethodName) ({ cls := "Grammarsmith", name := "sentence", desc := "(II)I" } : Jvm.MethodName)) ∈ gx_tb := gx_ok (List.mem_of_getElem? (i := 1175) (by decide +kernel)) (by decide +kernel)
theorem gw_1179 : (Jvm.Cond.methodLink "Grammarsmith" (231 : Nat) ({ cls := "Grammarsmith$Facts", name := "spelled", desc := "(II)I" } : Jvm.MethodName)) ∈ gx_tb := gx_ok (List.mem_of_getElem? (i := 1179) (by decide +kernel)) (by decide +kernel)
theorem gw_118 : (Jvm.Cond.fieldLink "Grammarsmith$Facts" (28 : Nat) "Grammarsmith$Facts" "relation" "[I") ∈ gx_tb := gx_ok (List.mem_of_getElem? (i := 118) (by decide +kernel)) (by decide +kernel)
theorem gw_1180 : (Jvm.Cond.instanceMethod ({ cls := "Grammarsmith$Facts", name := "spelled", desc := "(II)I" } : Jvm.MethodName)) ∈ gx_tb := gx_ok (List.mem_of_getElem? (i := 1180) (by decide +kernel)) (by decide +kernel)
theorem gw_1181 : (Jvm.Cond.selects "Grammarsmith$Facts" ({ cls := "Grammarsmith$Facts", name := "spelled", desc := "(II)I" } : Jvm.MethodName) ({ cls := "Grammarsmith$Facts", name := "spelled", desc := "(II)I" } : Jvm.MethodName)) ∈ gx_tb := gx_ok (List.mem_of_getElem? (i := 1181) (by decide +kernel)) (by decide +kernel)
theorem gw_1183 : (Jvm.Cond.methodLink "GrammarsmithLaw" (164 : Nat) ({ cls := "GrammarsmithLaw", name := "size", desc := "(LGrammarsmith;I[J)I" } : Jvm.MethodName)) ∈ gx_tb := gx_ok (List.mem_of_getElem? (i := 1183) (by decide +kernel)) (by decide +kernel)
theorem gw_1184 : (Jvm.Cond.static ({ cls := "GrammarsmithLaw", name := "size", desc := "(LGrammarsmith;I[J)I" } : Jvm.MethodName)) ∈ gx_tb := gx_ok (List.mem_of_getElem? (i := 1184) (by decide +kernel)) (by decide +kernel)
theorem gw_1186 : (Jvm.Cond.methodLink "GrammarsmithLaw" (69 : Nat) ({ cls := "Grammarsmith", name := "size", desc := "(I)I" } : Jvm.MethodName)) ∈ gx_tb := gx_ok (List.mem_of_getElem? (i := 1186) (by decide +kernel)) (by decide +kernel)
theorem gw_1187 : (Jvm.Cond.instanceMethod ({ cls := "Grammarsmith", name := "size", desc := "(I)I" } : Jvm.MethodName)) ∈ gx_tb := gx_ok (List.mem_of_getElem? (i := 1187) (by decide +kernel)) (by decide +kernel)
theorem gw_1188 : (Jvm.Cond.selects "Grammarsmith" ({ cls := "Grammarsmith", name := "size", desc := "(I)I" } : Jvm.MethodName) ({ cls := "Grammarsmith", name := "size", desc := "(I)I" } : Jvm.MethodName)) ∈ gx_tb := gx_ok (List.mem_of_getElem? (i := 1188) (by decide +kernel)) (by decide +kernel)
theorem gw_119 : (Jvm.Cond.fieldLink "Grammarsmith$Facts" (31 : Nat) "Grammarsmith$Facts" "fronts" "[I") ∈ gx_tb := gx_ok (List.mem_of_getElem? (i := 119) (by decide +kernel)) (by decide +kernel)
theorem gw_1190 : (Jvm.Cond.methodLink "Grammarsmith" (234 : Nat) ({ cls := "Grammarsmith", name := "requireKind", desc := "(I)V" } : Jvm.MethodName)) ∈ gx_tb := gx_ok (List.mem_of_getElem? (i := 1190) (by decide +kernel)) (by decide +kernel)
theorem gw_1191 : (Jvm.Cond.static ({ cls := "Grammarsmith", name := "requireKind", desc := "(I)V" } : Jvm.MethodName)) ∈ gx_tb := gx_ok (List.mem_of_getElem? (i := 1191) (by decide +kernel)) (by decide +kernel)
theorem gw_1194 : (Jvm.Cond.methodLink "GrammarsmithLaw" (167 : Nat) ({ cls := "GrammarsmithLaw", name := "conflicts", desc := "(LGrammarsmith;I[J)I" } : Jvm.MethodName)) ∈ gx_tb := gx_ok (List.mem_of_getElem? (i := 1194) (by decide +kernel)) (by decide +kernel)
theorem gw_1195 : (Jvm.Cond.static ({ cls := "GrammarsmithLaw", name := "conflicts", desc := "(LGrammarsmith;I[J)I" } : Jvm.MethodName)) ∈ gx_tb := gx_ok (List.mem_of_getElem? (i := 1195) (by decide +kernel)) (by decide +kernel)
theorem gw_1197 : (Jvm.Cond.methodLink "GrammarsmithLaw" (72 : Nat) ({ cls := "Grammarsmith", name := "conflicts", desc := "(I)I" } : Jvm.MethodName)) ∈ gx_tb := gx_ok (List.mem_of_getElem? (i := 1197) (by decide +kernel)) (by decide +kernel)
theorem gw_1198 : (Jvm.Cond.instanceMethod ({ cls := "Grammarsmith", name := "conflicts", desc := "(I)I" } : Jvm.MethodName)) ∈ gx_tb := gx_ok (List.mem_of_getElem? (i := 1198) (by decide +kernel)) (by decide +kernel)
theorem gw_1199 : (Jvm.Cond.selects "Grammarsmith" ({ cls := "Grammarsmith", name := "conflicts", desc := "(I)I" } : Jvm.MethodName) ({ cls := "Grammarsmith", name := "conflicts", desc := "(I)I" } : Jvm.MethodName)) ∈ gx_tb := gx_ok (List.mem_of_getElem? (i := 1199) (by decide +kernel)) (by decide +kernel)
theorem gw_12 : (Jvm.Cond.initialized "Grammarsmith$CountingChart") ∈ gx_tb := gx_ok (List.mem_of_getElem? (i := 12) (by decide +kernel)) (by decide +kernel)
theorem gw_120 : (Jvm.Cond.fieldLink "Grammarsmith$Facts" (34 : Nat) "Grammarsmith$Facts" "rests" "[I") ∈ gx_tb := gx_ok (List.mem_of_getElem? (i := 120) (by decide +kernel)) (by decide +kernel)
theorem gw_1201 : (Jvm.Cond.methodLink "GrammarsmithLaw" (170 : Nat) ({ cls := "GrammarsmithLaw", name := "settled", desc := "(LGrammarsmith;I[J)I" } : Jvm.MethodName)) ∈ gx_tb := gx_ok (List.mem_of_getElem? (i := 1201) (by decide +kernel)) (by decide +kernel)
theorem gw_1202 : (Jvm.Cond.static ({ cls := "GrammarsmithLaw", name := "settled", desc := "(LGrammarsmith;I[J)I" } : Jvm.MethodName)) ∈ gx_tb := gx_ok (List.mem_of_getElem? (i := 1202) (by decide +kernel)) (by decide +kernel)
theorem gw_1204 : (Jvm.Cond.methodLink "GrammarsmithLaw" (75 : Nat) ({ cls := "Grammarsmith", name := "settled", desc := "(I)I" } : Jvm.MethodName)) ∈ gx_tb := gx_ok (List.mem_of_getElem? (i := 1204) (by decide +kernel)) (by decide +kernel)
theorem gw_1205 : (Jvm.Cond.instanceMethod ({ cls := "Grammarsmith", name := "settled", desc := "(I)I" } : Jvm.MethodName)) ∈ gx_tb := gx_ok (List.mem_of_getElem? (i := 1205) (by decide +kernel)) (by decide +kernel)
theorem gw_1206 : (Jvm.Cond.selects "Grammarsmith" ({ cls := "Grammarsmith", name := "settled", desc := "(I)I" } : Jvm.MethodName) ({ cls := "Grammarsmith", name := "settled", desc := "(I)I" } : Jvm.MethodName)) ∈ gx_tb := gx_ok (List.mem_of_getElem? (i := 1206) (by decide +kernel)) (by decide +kernel)
theorem gw_1208 : (Jvm.Cond.methodLink "GrammarsmithLaw" (177 : Nat) ({ cls := "GrammarsmithLaw", name := "put", desc := "(LGrammarsmith;II[J)I" } : Jvm.MethodName)) ∈ gx_tb := gx_ok (List.mem_of_getElem? (i := 1208) (by decide +kernel)) (by decide +kernel)
theorem gw_1209 : (Jvm.Cond.static ({ cls := "GrammarsmithLaw", name := "put", desc := "(LGrammarsmith;II[J)I" } : Jvm.MethodName)) ∈ gx_tb := gx_ok (List.mem_of_getElem? (i := 1209) (by decide +kernel)) (by decide +kernel)
theorem gw_1211 : (Jvm.Cond.methodLink "GrammarsmithLaw" (78 : Nat) ({ cls := "Grammarsmith", name := "put", desc := "(II)I" } : Jvm.MethodName)) ∈ gx_tb := gx_ok (List.mem_of_getElem? (i := 1211) (by decide +kernel)) (by decide +kernel)
theorem gw_1212 : (Jvm.Cond.instanceMethod ({ cls := "Grammarsmith", name := "put", desc := "(II)I" } : Jvm.MethodName)) ∈ gx_tb := gx_ok (List.mem_of_getElem? (i := 1212) (by decide +kernel)) (by decide +kernel)
theorem gw_1213 : (Jvm.Cond.selects "Grammarsmith" ({ cls := "Grammarsmith", name := "put", desc := "(II)I" } : Jvm.MethodName) ({ cls := "Grammarsmith", name := "put", desc := "(II)I" } : Jvm.MethodName)) ∈ gx_tb := gx_ok (List.mem_of_getElem? (i := 1213) (by decide +kernel)) (by decide +kernel)
theorem gw_1217 : (Jvm.Cond.methodLink "GrammarsmithLaw" (180 : Nat) ({ cls := "GrammarsmithLaw", name := "cut", desc := "(LGrammarsmith;I[J)I" } : Jvm.MethodName)) ∈ gx_tb := gx_ok (List.mem_of_getElem? (i := 1217) (by decide +kernel)) (by decide +kernel)
theorem gw_1218 : (Jvm.Cond.static ({ cls := "GrammarsmithLaw", name := "cut", desc := "(LGrammarsmith;I[J)I" } : Jvm.MethodName)) ∈ gx_tb := gx_ok (List.mem_of_getElem? (i := 1218) (by decide +kernel)) (by decide +kernel)
theorem gw_1220 : (Jvm.Cond.methodLink "GrammarsmithLaw" (81 : Nat) ({ cls := "Grammarsmith", name := "cut", desc := "(I)I" } : Jvm.MethodName)) ∈ gx_tb := gx_ok (List.mem_of_getElem? (i := 1220) (by decide +kernel)) (by decide +kernel)
theorem gw_1221 : (Jvm.Cond.instanceMethod ({ cls := "Grammarsmith", name := "cut", desc := "(I)I" } : Jvm.MethodName)) ∈ gx_tb := gx_ok (List.mem_of_getElem? (i := 1221) (by decide +kernel)) (by decide +kernel)
theorem gw_1222 : (Jvm.Cond.selects "Grammarsmith" ({ cls := "Grammarsmith", name := "cut", desc := "(I)I" } : Jvm.MethodName) ({ cls := "Grammarsmith", name := "cut", desc := "(I)I" } : Jvm.MethodName)) ∈ gx_tb := gx_ok (List.mem_of_getElem? (i := 1222) (by decide +kernel)) (by decide +kernel)
theorem gw_1224 : (Jvm.Cond.methodLink "GrammarsmithLaw" (183 : Nat) ({ cls := "GrammarsmithLaw", name := "parse", desc := "(LGrammarsmith;I[J)I" } : Jvm.MethodName)) ∈ gx_tb := gx_ok (List.mem_of_getElem? (i := 1224) (by decide +kernel)) (by decide +kernel)
theorem gw_1225 : (Jvm.Cond.static ({ cls := "GrammarsmithLaw", name := "parse", desc := "(LGrammarsmith;I[J)I" } : Jvm.MethodName)) ∈ gx_tb := gx_ok (List.mem_of_getElem? (i := 1225) (by decide +kernel)) (by decide +kernel)
theorem gw_1227 : (Jvm.Cond.methodLink "GrammarsmithLaw" (84 : Nat) ({ cls := "Grammarsmith", name := "parse", desc := "(I)I" } : Jvm.MethodName)) ∈ gx_tb := gx_ok (List.mem_of_getElem? (i := 1227) (by decide +kernel)) (by decide +kernel)
theorem gw_1228 : (Jvm.Cond.instanceMethod ({ cls := "Grammarsmith", name := "parse", desc := "(I)I" } : Jvm.MethodName)) ∈ gx_tb := gx_ok (List.mem_of_getElem? (i := 1228) (by decide +kernel)) (by decide +kernel)
theorem gw_1229 : (Jvm.Cond.selects "Grammarsmith" ({ cls := "Grammarsmith", name := "parse", desc := "(I)I" } : Jvm.MethodName) ({ cls := "Grammarsmith", name := "parse", desc := "(I)I" } : Jvm.MethodName)) ∈ gx_tb := gx_ok (List.mem_of_getElem? (i := 1229) (by decide +kernel)) (by decide +kernel)
theorem gw_1231 : (Jvm.Cond.methodLink "Grammarsmith" (259 : Nat) ({ cls := "Grammarsmith$Table", name := "run", desc := "()I" } : Jvm.MethodName)) ∈ gx_tb := gx_ok (List.mem_of_getElem? (i := 1231) (by decide +kernel)) (by decide +kernel)
theorem gw_1233 : (Jvm.Cond.sameMethod "Grammarsmith$Table" "Grammarsmith$Table" "run" "()I") ∈ gx_tb := gx_ok (List.mem_of_getElem? (i := 1233) (by decide +kernel)) (by decide +kernel)
theorem gw_1234 : (Jvm.Cond.selects "Grammarsmith$PredictiveTable" ({ cls := "Grammarsmith$Table", name := "run", desc := "()I" } : Jvm.MethodName) ({ cls := "Grammarsmith$PredictiveTable", name := "run", desc := "()I" } : Jvm.MethodName)) ∈ gx_tb := gx_ok (List.mem_of_getElem? (i := 1234) (by decide +kernel)) (by decide +kernel)
theorem gw_1235 : (Jvm.Cond.instanceMethod ({ cls := "Grammarsmith$PredictiveTable", name := "run", desc := "()I" } : Jvm.MethodName)) ∈ gx_tb := gx_ok (List.mem_of_getElem? (i := 1235) (by decide +kernel)) (by decide +kernel)
theorem gw_1237 : (Jvm.Cond.methodLink "Grammarsmith$PredictiveTable" (42 : Nat) ({ cls := "Grammarsmith$Grammar", name := "top", desc := "()I" } : Jvm.MethodName)) ∈ gx_tb := gx_ok (List.mem_of_getElem? (i := 1237) (by decide +kernel)) (by decide +kernel)
theorem gw_1238 : (Jvm.Cond.methodLink "Grammarsmith$PredictiveTable" (48 : Nat) ({ cls := "Grammarsmith$PredictiveTable", name := "push", desc := "(I)V" } : Jvm.MethodName)) ∈ gx_tb := gx_ok (List.mem_of_getElem? (i := 1238) (by decide +kernel)) (by decide +kernel)
theorem gw_1240 : (Jvm.Cond.instanceMethod ({ cls := "Grammarsmith$PredictiveTable", name := "push", desc := "(I)V" } : Jvm.MethodName)) ∈ gx_tb := gx_ok (List.mem_of_getElem? (i := 1240) (by decide +kernel)) (by decide +kernel)
theorem gw_1243 : (Jvm.Cond.static ({ cls := "Grammarsmith", name := "lookAt", desc := "([II)I" } : Jvm.MethodName)) ∈ gx_tb := gx_ok (List.mem_of_getElem? (i := 1243) (by decide +kernel)) (by decide +kernel)
theorem gw_1245 : (Jvm.Cond.methodLink "Grammarsmith$PredictiveTable" (56 : Nat) ({ cls := "Grammarsmith$PredictiveTable", name := "worthOfTree", desc := "()I" } : Jvm.MethodName)) ∈ gx_tb := gx_ok (List.mem_of_getElem? (i := 1245) (by decide +kernel)) (by decide +kernel)
theorem gw_1247 : (Jvm.Cond.instanceMethod ({ cls := "Grammarsmith$PredictiveTable", name := "worthOfTree", desc := "()I" } : Jvm.MethodName)) ∈ gx_tb := gx_ok (List.mem_of_getElem? (i := 1247) (by decide +kernel)) (by decide +kernel)
theorem gw_1249 : (Jvm.Cond.methodLink "Grammarsmith$PredictiveTable" (108 : Nat) ({ cls := "java/lang/Math", name := "min", desc := "(II)I" } : Jvm.MethodName)) ∈ gx_tb := gx_ok (List.mem_of_getElem? (i := 1249) (by decide +kernel)) (by decide +kernel)
theorem gw_1250 : (Jvm.Cond.methodLink "Grammarsmith$PredictiveTable" (102 : Nat) ({ cls := "Grammarsmith$Grammar", name := "length", desc := "(I)I" } : Jvm.MethodName)) ∈ gx_tb := gx_ok (List.mem_of_getElem? (i := 1250) (by decide +kernel)) (by decide +kernel)
theorem gw_1251 : (Jvm.Cond.methodLink "Grammarsmith$PredictiveTable" (105 : Nat) ({ cls := "Grammarsmith$Grammar", name := "symbol", desc := "(II)I" } : Jvm.MethodName)) ∈ gx_tb := gx_ok (List.mem_of_getElem? (i := 1251) (by decide +kernel)) (by decide +kernel)
theorem gw_1253 : (Jvm.Cond.methodLink "Grammarsmith$PredictiveTable" (76 : Nat) ({ cls := "Grammarsmith$PredictiveTable", name := "pop", desc := "()I" } : Jvm.MethodName)) ∈ gx_tb := gx_ok (List.mem_of_getElem? (i := 1253) (by decide +kernel)) (by decide +kernel)
theorem gw_1255 : (Jvm.Cond.instanceMethod ({ cls := "Grammarsmith$PredictiveTable", name := "pop", desc := "()I" } : Jvm.MethodName)) ∈ gx_tb := gx_ok (List.mem_of_getElem? (i := 1255) (by decide +kernel)) (by decide +kernel)
theorem gw_1257 : (Jvm.Cond.methodLink "Grammarsmith$PredictiveTable" (62 : Nat) ({ cls := "Grammarsmith$PredictiveTable", name := "next", desc := "()I" } : Jvm.MethodName)) ∈ gx_tb := gx_ok (List.mem_of_getElem? (i := 1257) (by decide +kernel)) (by decide +kernel)
theorem gw_1259 : (Jvm.Cond.instanceMethod ({ cls := "Grammarsmith$PredictiveTable", name := "next", desc := "()I" } : Jvm.MethodName)) ∈ gx_tb := gx_ok (List.mem_of_getElem? (i := 1259) (by decide +kernel)) (by decide +kernel)
theorem gw_1261 : (Jvm.Cond.methodLink "Grammarsmith$PredictiveTable" (59 : Nat) ({ cls := "Grammarsmith$PredictiveTable", name := "keepWorth", desc := "(I)V" } : Jvm.MethodName)) ∈ gx_tb := gx_ok (List.mem_of_getElem? (i := 1261) (by decide +kernel)) (by decide +kernel)
theorem gw_1262 : (Jvm.Cond.sameMethod "Grammarsmith$PredictiveTable" "Grammarsmith$Table" "keepWorth" "(I)V") ∈ gx_tb := gx_ok (List.mem_of_getElem? (i := 1262) (by decide +kernel)) (by decide +kernel)
theorem gw_1264 : (Jvm.Cond.selects "Grammarsmith$PredictiveTable" ({ cls := "Grammarsmith$PredictiveTable", name := "keepWorth", desc := "(I)V" } : Jvm.MethodName) ({ cls := "Grammarsmith$Table", name := "keepWorth", desc := "(I)V" } : Jvm.MethodName)) ∈ gx_tb := gx_ok (List.mem_of_getElem? (i := 1264) (by decide +kernel)) (by decide +kernel)
theorem gw_1265 : (Jvm.Cond.instanceMethod ({ cls := "Grammarsmith$Table", name := "keepWorth", desc := "(I)V" } : Jvm.MethodName)) ∈ gx_tb := gx_ok (List.mem_of_getElem? (i := 1265) (by decide +kernel)) (by decide +kernel)
theorem gw_1268 : (Jvm.Cond.methodLink "Grammarsmith$PredictiveTable" (69 : Nat) ({ cls := "Grammarsmith$PredictiveTable", name := "lowestIn", desc := "(II)I" } : Jvm.MethodName)) ∈ gx_tb := gx_ok (List.mem_of_getElem? (i := 1268) (by decide +kernel)) (by decide +kernel)
theorem gw_1270 : (Jvm.Cond.instanceMethod ({ cls := "Grammarsmith$PredictiveTable", name := "lowestIn", desc := "(II)I" } : Jvm.MethodName)) ∈ gx_tb := gx_ok (List.mem_of_getElem? (i := 1270) (by decide +kernel)) (by decide +kernel)
theorem gw_1272 : (Jvm.Cond.methodLink "Grammarsmith$PredictiveTable" (79 : Nat) ({ cls := "Grammarsmith$PredictiveTable", name := "apply", desc := "(I)V" } : Jvm.MethodName)) ∈ gx_tb := gx_ok (List.mem_of_getElem? (i := 1272) (by decide +kernel)) (by decide +kernel)
theorem gw_1274 : (Jvm.Cond.instanceMethod ({ cls := "Grammarsmith$PredictiveTable", name := "apply", desc := "(I)V" } : Jvm.MethodName)) ∈ gx_tb := gx_ok (List.mem_of_getElem? (i := 1274) (by decide +kernel)) (by decide +kernel)
theorem gw_1276 : (Jvm.Cond.selects "Grammarsmith$StateTable" ({ cls := "Grammarsmith$Table", name := "run", desc := "()I" } : Jvm.MethodName) ({ cls := "Grammarsmith$StateTable", name := "run", desc := "()I" } : Jvm.MethodName)) ∈ gx_tb := gx_ok (List.mem_of_getElem? (i := 1276) (by decide +kernel)) (by decide +kernel)
theorem gw_1277 : (Jvm.Cond.instanceMethod ({ cls := "Grammarsmith$StateTable", name := "run", desc := "()I" } : Jvm.MethodName)) ∈ gx_tb := gx_ok (List.mem_of_getElem? (i := 1277) (by decide +kernel)) (by decide +kernel)
theorem gw_1279 : (Jvm.Cond.methodLink "Grammarsmith$StateTable" (49 : Nat) ({ cls := "Grammarsmith$StateTable", name := "push", desc := "(II)V" } : Jvm.MethodName)) ∈ gx_tb := gx_ok (List.mem_of_getElem? (i := 1279) (by decide +kernel)) (by decide +kernel)
theorem gw_1281 : (Jvm.Cond.instanceMethod ({ cls := "Grammarsmith$StateTable", name := "push", desc := "(II)V" } : Jvm.MethodName)) ∈ gx_tb := gx_ok (List.mem_of_getElem? (i := 1281) (by decide +kernel)) (by decide +kernel)
theorem gw_1284 : (Jvm.Cond.methodLink "Grammarsmith$StateTable" (57 : Nat) ({ cls := "Grammarsmith$StateTable", name := "state", desc := "()I" } : Jvm.MethodName)) ∈ gx_tb := gx_ok (List.mem_of_getElem? (i := 1284) (by decide +kernel)) (by decide +kernel)
theorem gw_1286 : (Jvm.Cond.instanceMethod ({ cls := "Grammarsmith$StateTable", name := "state", desc := "()I" } : Jvm.MethodName)) ∈ gx_tb := gx_ok (List.mem_of_getElem? (i := 1286) (by decide +kernel)) (by decide +kernel)
theorem gw_1288 : (Jvm.Cond.methodLink "Grammarsmith$StateTable" (60 : Nat) ({ cls := "Grammarsmith$StateTable", name := "action", desc := "(II)I" } : Jvm.MethodName)) ∈ gx_tb := gx_ok (List.mem_of_getElem? (i := 1288) (by decide +kernel)) (by decide +kernel)
theorem gw_1290 : (Jvm.Cond.instanceMethod ({ cls := "Grammarsmith$StateTable", name := "action", desc := "(II)I" } : Jvm.MethodName)) ∈ gx_tb := gx_ok (List.mem_of_getElem? (i := 1290) (by decide +kernel)) (by decide +kernel)
theorem gw_1292 : (Jvm.Cond.methodLink "Grammarsmith$StateTable" (147 : Nat) ({ cls := "Grammarsmith$StateTable", name := "settledAction", desc := "(I)I" } : Jvm.MethodName)) ∈ gx_tb := gx_ok (List.mem_of_getElem? (i := 1292) (by decide +kernel)) (by decide +kernel)
theorem gw_1294 : (Jvm.Cond.instanceMethod ({ cls := "Grammarsmith$StateTable", name := "settledAction", desc := "(I)I" } : Jvm.MethodName)) ∈ gx_tb := gx_ok (List.mem_of_getElem? (i := 1294) (by decide +kernel)) (by decide +kernel)
theorem gw_1296 : (Jvm.Cond.methodLink "Grammarsmith$StateTable" (64 : Nat) ({ cls := "Grammarsmith$StateTable", name := "worthOfTop", desc := "()I" } : Jvm.MethodName)) ∈ gx_tb := gx_ok (List.mem_of_getElem? (i := 1296) (by decide +kernel)) (by decide +kernel)
theorem gw_1298 : (Jvm.Cond.instanceMethod ({ cls := "Grammarsmith$StateTable", name := "worthOfTop", desc := "()I" } : Jvm.MethodName)) ∈ gx_tb := gx_ok (List.mem_of_getElem? (i := 1298) (by decide +kernel)) (by decide +kernel)
theorem gw_13 : (Jvm.Cond.initialized "Grammarsmith$RepairingChart") ∈ gx_tb := gx_ok (List.mem_of_getElem? (i := 13) (by decide +kernel)) (by decide +kernel)
theorem gw_1300 : (Jvm.Cond.methodLink "Grammarsmith$StateTable" (67 : Nat) ({ cls := "Grammarsmith$StateTable", name := "keepWorth", desc := "(I)V" } : Jvm.MethodName)) ∈ gx_tb := gx_ok (List.mem_of_getElem? (i := 1300) (by decide +kernel)) (by decide +kernel)
theorem gw_1301 : (Jvm.Cond.sameMethod "Grammarsmith$StateTable" "Grammarsmith$Table" "keepWorth" "(I)V") ∈ gx_tb := gx_ok (List.mem_of_getElem? (i := 1301) (by decide +kernel)) (by decide +kernel)
theorem gw_1302 : (Jvm.Cond.selects "Grammarsmith$StateTable" ({ cls := "Grammarsmith$StateTable", name := "keepWorth", desc := "(I)V" } : Jvm.MethodName) ({ cls := "Grammarsmith$Table", name := "keepWorth", desc := "(I)V" } : Jvm.MethodName)) ∈ gx_tb := gx_ok (List.mem_of_getElem? (i := 1302) (by decide +kernel)) (by decide +kernel)
theorem gw_1303 : (Jvm.Cond.methodLink "Grammarsmith$StateTable" (74 : Nat) ({ cls := "Grammarsmith$StateTable", name := "reduce", desc := "(I)V" } : Jvm.MethodName)) ∈ gx_tb := gx_ok (List.mem_of_getElem? (i := 1303) (by decide +kernel)) (by decide +kernel)
theorem gw_1305 : (Jvm.Cond.instanceMethod ({ cls := "Grammarsmith$StateTable", name := "reduce", desc := "(I)V" } : Jvm.MethodName)) ∈ gx_tb := gx_ok (List.mem_of_getElem? (i := 1305) (by decide +kernel)) (by decide +kernel)
theorem gw_1307 : (Jvm.Cond.methodLink "GrammarsmithLaw" (186 : Nat) ({ cls := "GrammarsmithLaw", name := "value", desc := "(LGrammarsmith;I[J)I" } : Jvm.MethodName)) ∈ gx_tb := gx_ok (List.mem_of_getElem? (i := 1307) (by decide +kernel)) (by decide +kernel)
theorem gw_1308 : (Jvm.Cond.static ({ cls := "GrammarsmithLaw", name := "value", desc := "(LGrammarsmith;I[J)I" } : Jvm.MethodName)) ∈ gx_tb := gx_ok (List.mem_of_getElem? (i := 1308) (by decide +kernel)) (by decide +kernel)
theorem gw_1310 : (Jvm.Cond.methodLink "GrammarsmithLaw" (87 : Nat) ({ cls := "Grammarsmith", name := "value", desc := "(I)I" } : Jvm.MethodName)) ∈ gx_tb := gx_ok (List.mem_of_getElem? (i := 1310) (by decide +kernel)) (by decide +kernel)
theorem gw_1311 : (Jvm.Cond.instanceMethod ({ cls := "Grammarsmith", name := "value", desc := "(I)I" } : Jvm.MethodName)) ∈ gx_tb := gx_ok (List.mem_of_getElem? (i := 1311) (by decide +kernel)) (by decide +kernel)
theorem gw_1312 : (Jvm.Cond.selects "Grammarsmith" ({ cls := "Grammarsmith", name := "value", desc := "(I)I" } : Jvm.MethodName) ({ cls := "Grammarsmith", name := "value", desc := "(I)I" } : Jvm.MethodName)) ∈ gx_tb := gx_ok (List.mem_of_getElem? (i := 1312) (by decide +kernel)) (by decide +kernel)
theorem gw_1315 : (Jvm.Cond.methodLink "Grammarsmith" (264 : Nat) ({ cls := "Grammarsmith$Table", name := "worth", desc := "()I" } : Jvm.MethodName)) ∈ gx_tb := gx_ok (List.mem_of_getElem? (i := 1315) (by decide +kernel)) (by decide +kernel)
theorem gw_1316 : (Jvm.Cond.instanceMethod ({ cls := "Grammarsmith$Table", name := "worth", desc := "()I" } : Jvm.MethodName)) ∈ gx_tb := gx_ok (List.mem_of_getElem? (i := 1316) (by decide +kernel)) (by decide +kernel)
theorem gw_1317 : (Jvm.Cond.sameMethod "Grammarsmith$Table" "Grammarsmith$Table" "worth" "()I") ∈ gx_tb := gx_ok (List.mem_of_getElem? (i := 1317) (by decide +kernel)) (by decide +kernel)
theorem gw_1318 : (Jvm.Cond.selects "Grammarsmith$PredictiveTable" ({ cls := "Grammarsmith$Table", name := "worth", desc := "()I" } : Jvm.MethodName) ({ cls := "Grammarsmith$Table", name := "worth", desc := "()I" } : Jvm.MethodName)) ∈ gx_tb := gx_ok (List.mem_of_getElem? (i := 1318) (by decide +kernel)) (by decide +kernel)
theorem gw_1319 : (Jvm.Cond.selects "Grammarsmith$StateTable" ({ cls := "Grammarsmith$Table", name := "worth", desc := "()I" } : Jvm.MethodName) ({ cls := "Grammarsmith$Table", name := "worth", desc := "()I" } : Jvm.MethodName)) ∈ gx_tb := gx_ok (List.mem_of_getElem? (i := 1319) (by decide +kernel)) (by decide +kernel)
theorem gw_1321 : (Jvm.Cond.classLink "GrammarsmithLaw" (91 : Nat) "GrammarsmithModel") ∈ gx_tb := gx_ok (List.mem_of_getElem? (i := 1321) (by decide +kernel)) (by decide +kernel)
theorem gw_1322 : (Jvm.Cond.instantiable "GrammarsmithModel" (45 : Nat)) ∈ gx_tb := gx_ok (List.mem_of_getElem? (i := 1322) (by decide +kernel)) (by decide +kernel)
theorem gw_1323 : (Jvm.Cond.methodLink "GrammarsmithLaw" (93 : Nat) ({ cls := "GrammarsmithModel", name := "<init>", desc := "()V" } : Jvm.MethodName)) ∈ gx_tb := gx_ok (List.mem_of_getElem? (i := 1323) (by decide +kernel)) (by decide +kernel)
theorem gw_1324 : (Jvm.Cond.instanceMethod ({ cls := "GrammarsmithModel", name := "<init>", desc := "()V" } : Jvm.MethodName)) ∈ gx_tb := gx_ok (List.mem_of_getElem? (i := 1324) (by decide +kernel)) (by decide +kernel)
theorem gw_1326 : (Jvm.Cond.methodLink "GrammarsmithModel" (1 : Nat) ({ cls := "java/lang/Object", name := "<init>", desc := "()V" } : Jvm.MethodName)) ∈ gx_tb := gx_ok (List.mem_of_getElem? (i := 1326) (by decide +kernel)) (by decide +kernel)
theorem gw_1327 : (Jvm.Cond.fieldLink "GrammarsmithModel" (7 : Nat) "GrammarsmithModel" "left" "[I") ∈ gx_tb := gx_ok (List.mem_of_getElem? (i := 1327) (by decide +kernel)) (by decide +kernel)
theorem gw_1328 : (Jvm.Cond.fieldLink "GrammarsmithModel" (13 : Nat) "GrammarsmithModel" "length" "[I") ∈ gx_tb := gx_ok (List.mem_of_getElem? (i := 1328) (by decide +kernel)) (by decide +kernel)
theorem gw_1329 : (Jvm.Cond.fieldLink "GrammarsmithModel" (16 : Nat) "GrammarsmithModel" "right" "[I") ∈ gx_tb := gx_ok (List.mem_of_getElem? (i := 1329) (by decide +kernel)) (by decide +kernel)
theorem gw_1330 : (Jvm.Cond.fieldLink "GrammarsmithModel" (19 : Nat) "GrammarsmithModel" "many" "[I") ∈ gx_tb := gx_ok (List.mem_of_getElem? (i := 1330) (by decide +kernel)) (by decide +kernel)
theorem gw_1331 : (Jvm.Cond.fieldLink "GrammarsmithModel" (22 : Nat) "GrammarsmithModel" "rules" "[I") ∈ gx_tb := gx_ok (List.mem_of_getElem? (i := 1331) (by decide +kernel)) (by decide +kernel)
theorem gw_1332 : (Jvm.Cond.fieldLink "GrammarsmithModel" (25 : Nat) "GrammarsmithModel" "ruleFrom" "[I") ∈ gx_tb := gx_ok (List.mem_of_getElem? (i := 1332) (by decide +kernel)) (by decide +kernel)
theorem gw_1333 : (Jvm.Cond.fieldLink "GrammarsmithModel" (28 : Nat) "GrammarsmithModel" "ruleLength" "[I") ∈ gx_tb := gx_ok (List.mem_of_getElem? (i := 1333) (by decide +kernel)) (by decide +kernel)
theorem gw_1334 : (Jvm.Cond.fieldLink "GrammarsmithModel" (31 : Nat) "GrammarsmithModel" "ruleText" "[I") ∈ gx_tb := gx_ok (List.mem_of_getElem? (i := 1334) (by decide +kernel)) (by decide +kernel)
theorem gw_1335 : (Jvm.Cond.fieldLink "GrammarsmithModel" (34 : Nat) "GrammarsmithModel" "start" "[I") ∈ gx_tb := gx_ok (List.mem_of_getElem? (i := 1335) (by decide +kernel)) (by decide +kernel)
theorem gw_1336 : (Jvm.Cond.fieldLink "GrammarsmithModel" (139 : Nat) "GrammarsmithModel" "used" "I") ∈ gx_tb := gx_ok (List.mem_of_getElem? (i := 1336) (by decide +kernel)) (by decide +kernel)
theorem gw_1337 : (Jvm.Cond.fieldLink "GrammarsmithModel" (37 : Nat) "GrammarsmithModel" "level" "[I") ∈ gx_tb := gx_ok (List.mem_of_getElem? (i := 1337) (by decide +kernel)) (by decide +kernel)
theorem gw_1338 : (Jvm.Cond.fieldLink "GrammarsmithModel" (40 : Nat) "GrammarsmithModel" "side" "[I") ∈ gx_tb := gx_ok (List.mem_of_getElem? (i := 1338) (by decide +kernel)) (by decide +kernel)
theorem gw_1339 : (Jvm.Cond.fieldLink "GrammarsmithModel" (43 : Nat) "GrammarsmithModel" "text" "[I") ∈ gx_tb := gx_ok (List.mem_of_getElem? (i := 1339) (by decide +kernel)) (by decide +kernel)
theorem gw_1340 : (Jvm.Cond.fieldLink "GrammarsmithModel" (128 : Nat) "GrammarsmithModel" "letters" "I") ∈ gx_tb := gx_ok (List.mem_of_getElem? (i := 1340) (by decide +kernel)) (by decide +kernel)
theorem gw_1341 : (Jvm.Cond.fieldLink "GrammarsmithModel" (46 : Nat) "GrammarsmithModel" "row" "[I") ∈ gx_tb := gx_ok (List.mem_of_getElem? (i := 1341) (by decide +kernel)) (by decide +kernel)
theorem gw_1342 : (Jvm.Cond.fieldLink "GrammarsmithModel" (142 : Nat) "GrammarsmithModel" "rowLength" "I") ∈ gx_tb := gx_ok (List.mem_of_getElem? (i := 1342) (by decide +kernel)) (by decide +kernel)
theorem gw_1343 : (Jvm.Cond.fieldLink "GrammarsmithModel" (49 : Nat) "GrammarsmithModel" "word" "[I") ∈ gx_tb := gx_ok (List.mem_of_getElem? (i := 1343) (by decide +kernel)) (by decide +kernel)
theorem gw_1344 : (Jvm.Cond.fieldLink "GrammarsmithModel" (299 : Nat) "GrammarsmithModel" "words" "I") ∈ gx_tb := gx_ok (List.mem_of_getElem? (i := 1344) (by decide +kernel)) (by decide +kernel)
theorem gw_1345 : (Jvm.Cond.fieldLink "GrammarsmithModel" (190 : Nat) "GrammarsmithModel" "nullable" "I") ∈ gx_tb := gx_ok (List.mem_of_getElem? (i := 1345) (by decide +kernel)) (by decide +kernel)
theorem gw_1346 : (Jvm.Cond.fieldLink "GrammarsmithModel" (52 : Nat) "GrammarsmithModel" "first" "[I") ∈ gx_tb := gx_ok (List.mem_of_getElem? (i := 1346) (by decide +kernel)) (by decide +kernel)
theorem gw_1347 : (Jvm.Cond.fieldLink "GrammarsmithModel" (55 : Nat) "GrammarsmithModel" "behind" "[I") ∈ gx_tb := gx_ok (List.mem_of_getElem? (i := 1347) (by decide +kernel)) (by decide +kernel)
theorem gw_1348 : (Jvm.Cond.fieldLink "GrammarsmithModel" (58 : Nat) "GrammarsmithModel" "short_" "[I") ∈ gx_tb := gx_ok (List.mem_of_getElem? (i := 1348) (by decide +kernel)) (by decide +kernel)
theorem gw_1349 : (Jvm.Cond.fieldLink "GrammarsmithModel" (61 : Nat) "GrammarsmithModel" "shortText" "[J") ∈ gx_tb := gx_ok (List.mem_of_getElem? (i := 1349) (by decide +kernel)) (by decide +kernel)
theorem gw_1350 : (Jvm.Cond.fieldLink "GrammarsmithModel" (65 : Nat) "GrammarsmithModel" "leads" "[I") ∈ gx_tb := gx_ok (List.mem_of_getElem? (i := 1350) (by decide +kernel)) (by decide +kernel)
theorem gw_1351 : (Jvm.Cond.fieldLink "GrammarsmithModel" (68 : Nat) "GrammarsmithModel" "from" "[I") ∈ gx_tb := gx_ok (List.mem_of_getElem? (i := 1351) (by decide +kernel)) (by decide +kernel)
theorem gw_1352 : (Jvm.Cond.fieldLink "GrammarsmithModel" (221 : Nat) "GrammarsmithModel" "items" "I") ∈ gx_tb := gx_ok (List.mem_of_getElem? (i := 1352) (by decide +kernel)) (by decide +kernel)
theorem gw_1353 : (Jvm.Cond.fieldLink "GrammarsmithModel" (71 : Nat) "GrammarsmithModel" "fresh" "[I") ∈ gx_tb := gx_ok (List.mem_of_getElem? (i := 1353) (by decide +kernel)) (by decide +kernel)
theorem gw_1354 : (Jvm.Cond.fieldLink "GrammarsmithModel" (74 : Nat) "GrammarsmithModel" "merged" "[I") ∈ gx_tb := gx_ok (List.mem_of_getElem? (i := 1354) (by decide +kernel)) (by decide +kernel)
theorem gw_1355 : (Jvm.Cond.fieldLink "GrammarsmithModel" (77 : Nat) "GrammarsmithModel" "goMerged" "[I") ∈ gx_tb := gx_ok (List.mem_of_getElem? (i := 1355) (by decide +kernel)) (by decide +kernel)
theorem gw_1356 : (Jvm.Cond.fieldLink "GrammarsmithModel" (254 : Nat) "GrammarsmithModel" "mergedStates" "I") ∈ gx_tb := gx_ok (List.mem_of_getElem? (i := 1356) (by decide +kernel)) (by decide +kernel)
theorem gw_1357 : (Jvm.Cond.fieldLink "GrammarsmithModel" (80 : Nat) "GrammarsmithModel" "whole" "[I") ∈ gx_tb := gx_ok (List.mem_of_getElem? (i := 1357) (by decide +kernel)) (by decide +kernel)
theorem gw_1358 : (Jvm.Cond.fieldLink "GrammarsmithModel" (83 : Nat) "GrammarsmithModel" "goWhole" "[I") ∈ gx_tb := gx_ok (List.mem_of_getElem? (i := 1358) (by decide +kernel)) (by decide +kernel)
theorem gw_1359 : (Jvm.Cond.fieldLink "GrammarsmithModel" (260 : Nat) "GrammarsmithModel" "wholeStates" "I") ∈ gx_tb := gx_ok (List.mem_of_getElem? (i := 1359) (by decide +kernel)) (by decide +kernel)
theorem gw_1360 : (Jvm.Cond.fieldLink "GrammarsmithModel" (108 : Nat) "GrammarsmithModel" "isFound" "Z") ∈ gx_tb := gx_ok (List.mem_of_getElem? (i := 1360) (by decide +kernel)) (by decide +kernel)
theorem gw_1361 : (Jvm.Cond.fieldLink "GrammarsmithModel" (112 : Nat) "GrammarsmithModel" "isMerged" "Z") ∈ gx_tb := gx_ok (List.mem_of_getElem? (i := 1361) (by decide +kernel)) (by decide +kernel)
theorem gw_1362 : (Jvm.Cond.fieldLink "GrammarsmithModel" (115 : Nat) "GrammarsmithModel" "isWhole" "Z") ∈ gx_tb := gx_ok (List.mem_of_getElem? (i := 1362) (by decide +kernel)) (by decide +kernel)
theorem gw_1363 : (Jvm.Cond.fieldLink "GrammarsmithModel" (86 : Nat) "GrammarsmithModel" "stack" "[I") ∈ gx_tb := gx_ok (List.mem_of_getElem? (i := 1363) (by decide +kernel)) (by decide +kernel)
theorem gw_1364 : (Jvm.Cond.fieldLink "GrammarsmithModel" (89 : Nat) "GrammarsmithModel" "values" "[I") ∈ gx_tb := gx_ok (List.mem_of_getElem? (i := 1364) (by decide +kernel)) (by decide +kernel)
theorem gw_1365 : (Jvm.Cond.fieldLink "GrammarsmithModel" (302 : Nat) "GrammarsmithModel" "top" "I") ∈ gx_tb := gx_ok (List.mem_of_getElem? (i := 1365) (by decide +kernel)) (by decide +kernel)
theorem gw_1366 : (Jvm.Cond.fieldLink "GrammarsmithModel" (305 : Nat) "GrammarsmithModel" "value" "I") ∈ gx_tb := gx_ok (List.mem_of_getElem? (i := 1366) (by decide +kernel)) (by decide +kernel)
theorem gw_1367 : (Jvm.Cond.fieldLink "GrammarsmithModel" (92 : Nat) "GrammarsmithModel" "event" "[I") ∈ gx_tb := gx_ok (List.mem_of_getElem? (i := 1367) (by decide +kernel)) (by decide +kernel)
theorem gw_1368 : (Jvm.Cond.fieldLink "GrammarsmithModel" (95 : Nat) "GrammarsmithModel" "chart" "[I") ∈ gx_tb := gx_ok (List.mem_of_getElem? (i := 1368) (by decide +kernel)) (by decide +kernel)
theorem gw_1369 : (Jvm.Cond.fieldLink "GrammarsmithModel" (98 : Nat) "GrammarsmithModel" "line" "[I") ∈ gx_tb := gx_ok (List.mem_of_getElem? (i := 1369) (by decide +kernel)) (by decide +kernel)
theorem gw_1370 : (Jvm.Cond.fieldLink "GrammarsmithModel" (101 : Nat) "GrammarsmithModel" "line2" "[I") ∈ gx_tb := gx_ok (List.mem_of_getElem? (i := 1370) (by decide +kernel)) (by decide +kernel)
theorem gw_1371 : (Jvm.Cond.fieldLink "GrammarsmithModel" (104 : Nat) "GrammarsmithModel" "thrown" "I") ∈ gx_tb := gx_ok (List.mem_of_getElem? (i := 1371) (by decide +kernel)) (by decide +kernel)
theorem gw_14 : (Jvm.Cond.initialized "GrammarsmithModel") ∈ gx_tb := gx_ok (List.mem_of_getElem? (i := 14) (by decide +kernel)) (by decide +kernel)
theorem gw_1463 : (Jvm.Cond.methodLink "GrammarsmithLaw" (100 : Nat) ({ cls := "GrammarsmithModel", name := "thrown", desc := "()I" } : Jvm.MethodName)) ∈ gx_tb := gx_ok (List.mem_of_getElem? (i := 1463) (by decide +kernel)) (by decide +kernel)
theorem gw_1464 : (Jvm.Cond.instanceMethod ({ cls := "GrammarsmithModel", name := "thrown", desc := "()I" } : Jvm.MethodName)) ∈ gx_tb := gx_ok (List.mem_of_getElem? (i := 1464) (by decide +kernel)) (by decide +kernel)
theorem gw_1465 : (Jvm.Cond.selects "GrammarsmithModel" ({ cls := "GrammarsmithModel", name := "thrown", desc := "()I" } : Jvm.MethodName) ({ cls := "GrammarsmithModel", name := "thrown", desc := "()I" } : Jvm.MethodName)) ∈ gx_tb := gx_ok (List.mem_of_getElem? (i := 1465) (by decide +kernel)) (by decide +kernel)
theorem gw_1467 : (Jvm.Cond.methodLink "GrammarsmithLaw" (99 : Nat) ({ cls := "GrammarsmithModel", name := "type", desc := "(C)I" } : Jvm.MethodName)) ∈ gx_tb := gx_ok (List.mem_of_getElem? (i := 1467) (by decide +kernel)) (by decide +kernel)
theorem gw_1468 : (Jvm.Cond.instanceMethod ({ cls := "GrammarsmithModel", name := "type", desc := "(C)I" } : Jvm.MethodName)) ∈ gx_tb := gx_ok (List.mem_of_getElem? (i := 1468) (by decide +kernel)) (by decide +kernel)
theorem gw_1469 : (Jvm.Cond.selects "GrammarsmithModel" ({ cls := "GrammarsmithModel", name := "type", desc := "(C)I" } : Jvm.MethodName) ({ cls := "GrammarsmithModel", name := "type", desc := "(C)I" } : Jvm.MethodName)) ∈ gx_tb := gx_ok (List.mem_of_getElem? (i := 1469) (by decide +kernel)) (by decide +kernel)
theorem gw_1471 : (Jvm.Cond.methodLink "GrammarsmithModel" (118 : Nat) ({ cls := "GrammarsmithModel", name := "isTerminal", desc := "(I)Z" } : Jvm.MethodName)) ∈ gx_tb := gx_ok (List.mem_of_getElem? (i := 1471) (by decide +kernel)) (by decide +kernel)
theorem gw_1472 : (Jvm.Cond.static ({ cls := "GrammarsmithModel", name := "isTerminal", desc := "(I)Z" } : Jvm.MethodName)) ∈ gx_tb := gx_ok (List.mem_of_getElem? (i := 1472) (by decide +kernel)) (by decide +kernel)
theorem gw_1474 : (Jvm.Cond.methodLink "GrammarsmithModel" (122 : Nat) ({ cls := "GrammarsmithModel", name := "isName", desc := "(I)Z" } : Jvm.MethodName)) ∈ gx_tb := gx_ok (List.mem_of_getElem? (i := 1474) (by decide +kernel)) (by decide +kernel)
theorem gw_1475 : (Jvm.Cond.static ({ cls := "GrammarsmithModel", name := "isName", desc := "(I)Z" } : Jvm.MethodName)) ∈ gx_tb := gx_ok (List.mem_of_getElem? (i := 1475) (by decide +kernel)) (by decide +kernel)
theorem gw_1477 : (Jvm.Cond.methodLink "GrammarsmithModel" (125 : Nat) ({ cls := "GrammarsmithModel", name := "isTail", desc := "(I)Z" } : Jvm.MethodName)) ∈ gx_tb := gx_ok (List.mem_of_getElem? (i := 1477) (by decide +kernel)) (by decide +kernel)
theorem gw_1478 : (Jvm.Cond.static ({ cls := "GrammarsmithModel", name := "isTail", desc := "(I)Z" } : Jvm.MethodName)) ∈ gx_tb := gx_ok (List.mem_of_getElem? (i := 1478) (by decide +kernel)) (by decide +kernel)
theorem gw_1480 : (Jvm.Cond.methodLink "GrammarsmithModel" (131 : Nat) ({ cls := "GrammarsmithModel", name := "goes", desc := "(ZZZ)Z" } : Jvm.MethodName)) ∈ gx_tb := gx_ok (List.mem_of_getElem? (i := 1480) (by decide +kernel)) (by decide +kernel)
theorem gw_1482 : (Jvm.Cond.instanceMethod ({ cls := "GrammarsmithModel", name := "goes", desc := "(ZZZ)Z" } : Jvm.MethodName)) ∈ gx_tb := gx_ok (List.mem_of_getElem? (i := 1482) (by decide +kernel)) (by decide +kernel)
theorem gw_1484 : (Jvm.Cond.methodLink "GrammarsmithLaw" (106 : Nat) ({ cls := "GrammarsmithModel", name := "wipe", desc := "()I" } : Jvm.MethodName)) ∈ gx_tb := gx_ok (List.mem_of_getElem? (i := 1484) (by decide +kernel)) (by decide +kernel)
theorem gw_1485 : (Jvm.Cond.instanceMethod ({ cls := "GrammarsmithModel", name := "wipe", desc := "()I" } : Jvm.MethodName)) ∈ gx_tb := gx_ok (List.mem_of_getElem? (i := 1485) (by decide +kernel)) (by decide +kernel)
theorem gw_1486 : (Jvm.Cond.selects "GrammarsmithModel" ({ cls := "GrammarsmithModel", name := "wipe", desc := "()I" } : Jvm.MethodName) ({ cls := "GrammarsmithModel", name := "wipe", desc := "()I" } : Jvm.MethodName)) ∈ gx_tb := gx_ok (List.mem_of_getElem? (i := 1486) (by decide +kernel)) (by decide +kernel)
theorem gw_1488 : (Jvm.Cond.methodLink "GrammarsmithLaw" (110 : Nat) ({ cls := "GrammarsmithModel", name := "fault", desc := "()I" } : Jvm.MethodName)) ∈ gx_tb := gx_ok (List.mem_of_getElem? (i := 1488) (by decide +kernel)) (by decide +kernel)
theorem gw_1489 : (Jvm.Cond.instanceMethod ({ cls := "GrammarsmithModel", name := "fault", desc := "()I" } : Jvm.MethodName)) ∈ gx_tb := gx_ok (List.mem_of_getElem? (i := 1489) (by decide +kernel)) (by decide +kernel)
theorem gw_1490 : (Jvm.Cond.selects "GrammarsmithModel" ({ cls := "GrammarsmithModel", name := "fault", desc := "()I" } : Jvm.MethodName) ({ cls := "GrammarsmithModel", name := "fault", desc := "()I" } : Jvm.MethodName)) ∈ gx_tb := gx_ok (List.mem_of_getElem? (i := 1490) (by decide +kernel)) (by decide +kernel)
theorem gw_1492 : (Jvm.Cond.methodLink "GrammarsmithModel" (135 : Nat) ({ cls := "GrammarsmithModel", name := "faultOf", desc := "()I" } : Jvm.MethodName)) ∈ gx_tb := gx_ok (List.mem_of_getElem? (i := 1492) (by decide +kernel)) (by decide +kernel)
theorem gw_1494 : (Jvm.Cond.instanceMethod ({ cls := "GrammarsmithModel", name := "faultOf", desc := "()I" } : Jvm.MethodName)) ∈ gx_tb := gx_ok (List.mem_of_getElem? (i := 1494) (by decide +kernel)) (by decide +kernel)
theorem gw_1496 : (Jvm.Cond.methodLink "GrammarsmithLaw" (114 : Nat) ({ cls := "GrammarsmithModel", name := "enter", desc := "()I" } : Jvm.MethodName)) ∈ gx_tb := gx_ok (List.mem_of_getElem? (i := 1496) (by decide +kernel)) (by decide +kernel)
theorem gw_1497 : (Jvm.Cond.instanceMethod ({ cls := "GrammarsmithModel", name := "enter", desc := "()I" } : Jvm.MethodName)) ∈ gx_tb := gx_ok (List.mem_of_getElem? (i := 1497) (by decide +kernel)) (by decide +kernel)
theorem gw_1498 : (Jvm.Cond.selects "GrammarsmithModel" ({ cls := "GrammarsmithModel", name := "enter", desc := "()I" } : Jvm.MethodName) ({ cls := "GrammarsmithModel", name := "enter", desc := "()I" } : Jvm.MethodName)) ∈ gx_tb := gx_ok (List.mem_of_getElem? (i := 1498) (by decide +kernel)) (by decide +kernel)
theorem gw_150 : (Jvm.Cond.arrayClass Jvm.ClassFile.FieldType.long) ∈ gx_tb := gx_ok (List.mem_of_getElem? (i := 150) (by decide +kernel)) (by decide +kernel)
theorem gw_1500 : (Jvm.Cond.methodLink "GrammarsmithModel" (169 : Nat) ({ cls := "GrammarsmithModel", name := "enters", desc := "()Z" } : Jvm.MethodName)) ∈ gx_tb := gx_ok (List.mem_of_getElem? (i := 1500) (by decide +kernel)) (by decide +kernel)
theorem gw_1502 : (Jvm.Cond.instanceMethod ({ cls := "GrammarsmithModel", name := "enters", desc := "()Z" } : Jvm.MethodName)) ∈ gx_tb := gx_ok (List.mem_of_getElem? (i := 1502) (by decide +kernel)) (by decide +kernel)
theorem gw_1504 : (Jvm.Cond.methodLink "GrammarsmithModel" (163 : Nat) ({ cls := "GrammarsmithModel", name := "reads", desc := "()Z" } : Jvm.MethodName)) ∈ gx_tb := gx_ok (List.mem_of_getElem? (i := 1504) (by decide +kernel)) (by decide +kernel)
theorem gw_1506 : (Jvm.Cond.instanceMethod ({ cls := "GrammarsmithModel", name := "reads", desc := "()Z" } : Jvm.MethodName)) ∈ gx_tb := gx_ok (List.mem_of_getElem? (i := 1506) (by decide +kernel)) (by decide +kernel)
theorem gw_1508 : (Jvm.Cond.methodLink "GrammarsmithModel" (156 : Nat) ({ cls := "GrammarsmithModel", name := "stands", desc := "(II)Z" } : Jvm.MethodName)) ∈ gx_tb := gx_ok (List.mem_of_getElem? (i := 1508) (by decide +kernel)) (by decide +kernel)
theorem gw_151 : (Jvm.Cond.classLink "Grammarsmith" (30 : Nat) "Grammarsmith$Automaton") ∈ gx_tb := gx_ok (List.mem_of_getElem? (i := 151) (by decide +kernel)) (by decide +kernel)
theorem gw_1510 : (Jvm.Cond.instanceMethod ({ cls := "GrammarsmithModel", name := "stands", desc := "(II)Z" } : Jvm.MethodName)) ∈ gx_tb := gx_ok (List.mem_of_getElem? (i := 1510) (by decide +kernel)) (by decide +kernel)
theorem gw_1512 : (Jvm.Cond.methodLink "GrammarsmithModel" (149 : Nat) ({ cls := "GrammarsmithModel", name := "helper", desc := "()I" } : Jvm.MethodName)) ∈ gx_tb := gx_ok (List.mem_of_getElem? (i := 1512) (by decide +kernel)) (by decide +kernel)
theorem gw_1514 : (Jvm.Cond.instanceMethod ({ cls := "GrammarsmithModel", name := "helper", desc := "()I" } : Jvm.MethodName)) ∈ gx_tb := gx_ok (List.mem_of_getElem? (i := 1514) (by decide +kernel)) (by decide +kernel)
theorem gw_1516 : (Jvm.Cond.methodLink "GrammarsmithModel" (145 : Nat) ({ cls := "GrammarsmithModel", name := "adds", desc := "(III)Z" } : Jvm.MethodName)) ∈ gx_tb := gx_ok (List.mem_of_getElem? (i := 1516) (by decide +kernel)) (by decide +kernel)
theorem gw_1518 : (Jvm.Cond.instanceMethod ({ cls := "GrammarsmithModel", name := "adds", desc := "(III)Z" } : Jvm.MethodName)) ∈ gx_tb := gx_ok (List.mem_of_getElem? (i := 1518) (by decide +kernel)) (by decide +kernel)
theorem gw_152 : (Jvm.Cond.instantiable "Grammarsmith$Automaton" (10 : Nat)) ∈ gx_tb := gx_ok (List.mem_of_getElem? (i := 152) (by decide +kernel)) (by decide +kernel)
theorem gw_1520 : (Jvm.Cond.methodLink "GrammarsmithModel" (159 : Nat) ({ cls := "GrammarsmithModel", name := "closes", desc := "()Z" } : Jvm.MethodName)) ∈ gx_tb := gx_ok (List.mem_of_getElem? (i := 1520) (by decide +kernel)) (by decide +kernel)
theorem gw_1522 : (Jvm.Cond.instanceMethod ({ cls := "GrammarsmithModel", name := "closes", desc := "()Z" } : Jvm.MethodName)) ∈ gx_tb := gx_ok (List.mem_of_getElem? (i := 1522) (by decide +kernel)) (by decide +kernel)
theorem gw_1524 : (Jvm.Cond.methodLink "GrammarsmithModel" (152 : Nat) ({ cls := "GrammarsmithModel", name := "addsAll", desc := "(II)Z" } : Jvm.MethodName)) ∈ gx_tb := gx_ok (List.mem_of_getElem? (i := 1524) (by decide +kernel)) (by decide +kernel)
theorem gw_1526 : (Jvm.Cond.instanceMethod ({ cls := "GrammarsmithModel", name := "addsAll", desc := "(II)Z" } : Jvm.MethodName)) ∈ gx_tb := gx_ok (List.mem_of_getElem? (i := 1526) (by decide +kernel)) (by decide +kernel)
theorem gw_1528 : (Jvm.Cond.methodLink "GrammarsmithModel" (166 : Nat) ({ cls := "GrammarsmithModel", name := "changed", desc := "()V" } : Jvm.MethodName)) ∈ gx_tb := gx_ok (List.mem_of_getElem? (i := 1528) (by decide +kernel)) (by decide +kernel)
theorem gw_153 : (Jvm.Cond.methodLink "Grammarsmith" (32 : Nat) ({ cls := "Grammarsmith$Automaton", name := "<init>", desc := "(LGrammarsmith$Facts;Z)V" } : Jvm.MethodName)) ∈ gx_tb := gx_ok (List.mem_of_getElem? (i := 153) (by decide +kernel)) (by decide +kernel)
theorem gw_1530 : (Jvm.Cond.instanceMethod ({ cls := "GrammarsmithModel", name := "changed", desc := "()V" } : Jvm.MethodName)) ∈ gx_tb := gx_ok (List.mem_of_getElem? (i := 1530) (by decide +kernel)) (by decide +kernel)
theorem gw_1532 : (Jvm.Cond.methodLink "GrammarsmithLaw" (117 : Nat) ({ cls := "GrammarsmithModel", name := "undo", desc := "()I" } : Jvm.MethodName)) ∈ gx_tb := gx_ok (List.mem_of_getElem? (i := 1532) (by decide +kernel)) (by decide +kernel)
theorem gw_1533 : (Jvm.Cond.instanceMethod ({ cls := "GrammarsmithModel", name := "undo", desc := "()I" } : Jvm.MethodName)) ∈ gx_tb := gx_ok (List.mem_of_getElem? (i := 1533) (by decide +kernel)) (by decide +kernel)
theorem gw_1534 : (Jvm.Cond.selects "GrammarsmithModel" ({ cls := "GrammarsmithModel", name := "undo", desc := "()I" } : Jvm.MethodName) ({ cls := "GrammarsmithModel", name := "undo", desc := "()I" } : Jvm.MethodName)) ∈ gx_tb := gx_ok (List.mem_of_getElem? (i := 1534) (by decide +kernel)) (by decide +kernel)
theorem gw_1536 : (Jvm.Cond.methodLink "GrammarsmithLaw" (121 : Nat) ({ cls := "GrammarsmithModel", name := "use", desc := "(I)I" } : Jvm.MethodName)) ∈ gx_tb := gx_ok (List.mem_of_getElem? (i := 1536) (by decide +kernel)) (by decide +kernel)
theorem gw_1537 : (Jvm.Cond.instanceMethod ({ cls := "GrammarsmithModel", name := "use", desc := "(I)I" } : Jvm.MethodName)) ∈ gx_tb := gx_ok (List.mem_of_getElem? (i := 1537) (by decide +kernel)) (by decide +kernel)
theorem gw_1538 : (Jvm.Cond.selects "GrammarsmithModel" ({ cls := "GrammarsmithModel", name := "use", desc := "(I)I" } : Jvm.MethodName) ({ cls := "GrammarsmithModel", name := "use", desc := "(I)I" } : Jvm.MethodName)) ∈ gx_tb := gx_ok (List.mem_of_getElem? (i := 1538) (by decide +kernel)) (by decide +kernel)
theorem gw_154 : (Jvm.Cond.instanceMethod ({ cls := "Grammarsmith$Automaton", name := "<init>", desc := "(LGrammarsmith$Facts;Z)V" } : Jvm.MethodName)) ∈ gx_tb := gx_ok (List.mem_of_getElem? (i := 154) (by decide +kernel)) (by decide +kernel)
theorem gw_1540 : (Jvm.Cond.methodLink "GrammarsmithModel" (172 : Nat) ({ cls := "GrammarsmithModel", name := "isBelow", desc := "(II)Z" } : Jvm.MethodName)) ∈ gx_tb := gx_ok (List.mem_of_getElem? (i := 1540) (by decide +kernel)) (by decide +kernel)
theorem gw_1541 : (Jvm.Cond.static ({ cls := "GrammarsmithModel", name := "isBelow", desc := "(II)Z" } : Jvm.MethodName)) ∈ gx_tb := gx_ok (List.mem_of_getElem? (i := 1541) (by decide +kernel)) (by decide +kernel)
theorem gw_1543 : (Jvm.Cond.methodLink "GrammarsmithLaw" (124 : Nat) ({ cls := "GrammarsmithModel", name := "bring", desc := "(I)I" } : Jvm.MethodName)) ∈ gx_tb := gx_ok (List.mem_of_getElem? (i := 1543) (by decide +kernel)) (by decide +kernel)
theorem gw_1544 : (Jvm.Cond.instanceMethod ({ cls := "GrammarsmithModel", name := "bring", desc := "(I)I" } : Jvm.MethodName)) ∈ gx_tb := gx_ok (List.mem_of_getElem? (i := 1544) (by decide +kernel)) (by decide +kernel)
theorem gw_1545 : (Jvm.Cond.selects "GrammarsmithModel" ({ cls := "GrammarsmithModel", name := "bring", desc := "(I)I" } : Jvm.MethodName) ({ cls := "GrammarsmithModel", name := "bring", desc := "(I)I" } : Jvm.MethodName)) ∈ gx_tb := gx_ok (List.mem_of_getElem? (i := 1545) (by decide +kernel)) (by decide +kernel)
theorem gw_1547 : (Jvm.Cond.methodLink "GrammarsmithModel" (179 : Nat) ({ cls := "GrammarsmithModel", name := "bringsAll", desc := "(I)Z" } : Jvm.MethodName)) ∈ gx_tb := gx_ok (List.mem_of_getElem? (i := 1547) (by decide +kernel)) (by decide +kernel)
theorem gw_1549 : (Jvm.Cond.instanceMethod ({ cls := "GrammarsmithModel", name := "bringsAll", desc := "(I)Z" } : Jvm.MethodName)) ∈ gx_tb := gx_ok (List.mem_of_getElem? (i := 1549) (by decide +kernel)) (by decide +kernel)
theorem gw_1551 : (Jvm.Cond.methodLink "GrammarsmithModel" (175 : Nat) ({ cls := "GrammarsmithModel", name := "brings", desc := "(II)V" } : Jvm.MethodName)) ∈ gx_tb := gx_ok (List.mem_of_getElem? (i := 1551) (by decide +kernel)) (by decide +kernel)
theorem gw_1553 : (Jvm.Cond.instanceMethod ({ cls := "GrammarsmithModel", name := "brings", desc := "(II)V" } : Jvm.MethodName)) ∈ gx_tb := gx_ok (List.mem_of_getElem? (i := 1553) (by decide +kernel)) (by decide +kernel)
theorem gw_1555 : (Jvm.Cond.methodLink "GrammarsmithLaw" (127 : Nat) ({ cls := "GrammarsmithModel", name := "start", desc := "(I)I" } : Jvm.MethodName)) ∈ gx_tb := gx_ok (List.mem_of_getElem? (i := 1555) (by decide +kernel)) (by decide +kernel)
theorem gw_1556 : (Jvm.Cond.instanceMethod ({ cls := "GrammarsmithModel", name := "start", desc := "(I)I" } : Jvm.MethodName)) ∈ gx_tb := gx_ok (List.mem_of_getElem? (i := 1556) (by decide +kernel)) (by decide +kernel)
theorem gw_1557 : (Jvm.Cond.selects "GrammarsmithModel" ({ cls := "GrammarsmithModel", name := "start", desc := "(I)I" } : Jvm.MethodName) ({ cls := "GrammarsmithModel", name := "start", desc := "(I)I" } : Jvm.MethodName)) ∈ gx_tb := gx_ok (List.mem_of_getElem? (i := 1557) (by decide +kernel)) (by decide +kernel)
theorem gw_1559 : (Jvm.Cond.methodLink "GrammarsmithLaw" (131 : Nat) ({ cls := "GrammarsmithModel", name := "level", desc := "(III)I" } : Jvm.MethodName)) ∈ gx_tb := gx_ok (List.mem_of_getElem? (i := 1559) (by decide +kernel)) (by decide +kernel)
theorem gw_156 : (Jvm.Cond.methodLink "Grammarsmith$Automaton" (3 : Nat) ({ cls := "java/lang/Object", name := "<init>", desc := "()V" } : Jvm.MethodName)) ∈ gx_tb := gx_ok (List.mem_of_getElem? (i := 156) (by decide +kernel)) (by decide +kernel)
theorem gw_1560 : (Jvm.Cond.instanceMethod ({ cls := "GrammarsmithModel", name := "level", desc := "(III)I" } : Jvm.MethodName)) ∈ gx_tb := gx_ok (List.mem_of_getElem? (i := 1560) (by decide +kernel)) (by decide +kernel)
theorem gw_1561 : (Jvm.Cond.selects "GrammarsmithModel" ({ cls := "GrammarsmithModel", name := "level", desc := "(III)I" } : Jvm.MethodName) ({ cls := "GrammarsmithModel", name := "level", desc := "(III)I" } : Jvm.MethodName)) ∈ gx_tb := gx_ok (List.mem_of_getElem? (i := 1561) (by decide +kernel)) (by decide +kernel)
theorem gw_1563 : (Jvm.Cond.methodLink "GrammarsmithLaw" (135 : Nat) ({ cls := "GrammarsmithModel", name := "productions", desc := "()I" } : Jvm.MethodName)) ∈ gx_tb := gx_ok (List.mem_of_getElem? (i := 1563) (by decide +kernel)) (by decide +kernel)
theorem gw_1564 : (Jvm.Cond.instanceMethod ({ cls := "GrammarsmithModel", name := "productions", desc := "()I" } : Jvm.MethodName)) ∈ gx_tb := gx_ok (List.mem_of_getElem? (i := 1564) (by decide +kernel)) (by decide +kernel)
theorem gw_1565 : (Jvm.Cond.selects "GrammarsmithModel" ({ cls := "GrammarsmithModel", name := "productions", desc := "()I" } : Jvm.MethodName) ({ cls := "GrammarsmithModel", name := "productions", desc := "()I" } : Jvm.MethodName)) ∈ gx_tb := gx_ok (List.mem_of_getElem? (i := 1565) (by decide +kernel)) (by decide +kernel)
theorem gw_1567 : (Jvm.Cond.methodLink "GrammarsmithLaw" (138 : Nat) ({ cls := "GrammarsmithModel", name := "left", desc := "(I)I" } : Jvm.MethodName)) ∈ gx_tb := gx_ok (List.mem_of_getElem? (i := 1567) (by decide +kernel)) (by decide +kernel)
theorem gw_1568 : (Jvm.Cond.instanceMethod ({ cls := "GrammarsmithModel", name := "left", desc := "(I)I" } : Jvm.MethodName)) ∈ gx_tb := gx_ok (List.mem_of_getElem? (i := 1568) (by decide +kernel)) (by decide +kernel)
theorem gw_1569 : (Jvm.Cond.selects "GrammarsmithModel" ({ cls := "GrammarsmithModel", name := "left", desc := "(I)I" } : Jvm.MethodName) ({ cls := "GrammarsmithModel", name := "left", desc := "(I)I" } : Jvm.MethodName)) ∈ gx_tb := gx_ok (List.mem_of_getElem? (i := 1569) (by decide +kernel)) (by decide +kernel)
theorem gw_157 : (Jvm.Cond.fieldLink "Grammarsmith$Automaton" (28 : Nat) "Grammarsmith$Automaton" "facts" "LGrammarsmith$Facts;") ∈ gx_tb := gx_ok (List.mem_of_getElem? (i := 157) (by decide +kernel)) (by decide +kernel)
theorem gw_1571 : (Jvm.Cond.methodLink "GrammarsmithLaw" (142 : Nat) ({ cls := "GrammarsmithModel", name := "right", desc := "(II)I" } : Jvm.MethodName)) ∈ gx_tb := gx_ok (List.mem_of_getElem? (i := 1571) (by decide +kernel)) (by decide +kernel)
theorem gw_1572 : (Jvm.Cond.instanceMethod ({ cls := "GrammarsmithModel", name := "right", desc := "(II)I" } : Jvm.MethodName)) ∈ gx_tb := gx_ok (List.mem_of_getElem? (i := 1572) (by decide +kernel)) (by decide +kernel)
theorem gw_1573 : (Jvm.Cond.selects "GrammarsmithModel" ({ cls := "GrammarsmithModel", name := "right", desc := "(II)I" } : Jvm.MethodName) ({ cls := "GrammarsmithModel", name := "right", desc := "(II)I" } : Jvm.MethodName)) ∈ gx_tb := gx_ok (List.mem_of_getElem? (i := 1573) (by decide +kernel)) (by decide +kernel)
theorem gw_1575 : (Jvm.Cond.methodLink "GrammarsmithModel" (182 : Nat) ({ cls := "GrammarsmithModel", name := "symbol", desc := "(II)I" } : Jvm.MethodName)) ∈ gx_tb := gx_ok (List.mem_of_getElem? (i := 1575) (by decide +kernel)) (by decide +kernel)
theorem gw_1577 : (Jvm.Cond.instanceMethod ({ cls := "GrammarsmithModel", name := "symbol", desc := "(II)I" } : Jvm.MethodName)) ∈ gx_tb := gx_ok (List.mem_of_getElem? (i := 1577) (by decide +kernel)) (by decide +kernel)
theorem gw_1579 : (Jvm.Cond.methodLink "GrammarsmithModel" (186 : Nat) ({ cls := "GrammarsmithModel", name := "sizeOf", desc := "(I)I" } : Jvm.MethodName)) ∈ gx_tb := gx_ok (List.mem_of_getElem? (i := 1579) (by decide +kernel)) (by decide +kernel)
theorem gw_158 : (Jvm.Cond.fieldLink "Grammarsmith$Automaton" (32 : Nat) "Grammarsmith$Automaton" "merges" "Z") ∈ gx_tb := gx_ok (List.mem_of_getElem? (i := 158) (by decide +kernel)) (by decide +kernel)
theorem gw_1581 : (Jvm.Cond.instanceMethod ({ cls := "GrammarsmithModel", name := "sizeOf", desc := "(I)I" } : Jvm.MethodName)) ∈ gx_tb := gx_ok (List.mem_of_getElem? (i := 1581) (by decide +kernel)) (by decide +kernel)
theorem gw_1583 : (Jvm.Cond.methodLink "GrammarsmithLaw" (145 : Nat) ({ cls := "GrammarsmithModel", name := "isNullable", desc := "(I)Z" } : Jvm.MethodName)) ∈ gx_tb := gx_ok (List.mem_of_getElem? (i := 1583) (by decide +kernel)) (by decide +kernel)
theorem gw_1584 : (Jvm.Cond.instanceMethod ({ cls := "GrammarsmithModel", name := "isNullable", desc := "(I)Z" } : Jvm.MethodName)) ∈ gx_tb := gx_ok (List.mem_of_getElem? (i := 1584) (by decide +kernel)) (by decide +kernel)
theorem gw_1585 : (Jvm.Cond.selects "GrammarsmithModel" ({ cls := "GrammarsmithModel", name := "isNullable", desc := "(I)Z" } : Jvm.MethodName) ({ cls := "GrammarsmithModel", name := "isNullable", desc := "(I)Z" } : Jvm.MethodName)) ∈ gx_tb := gx_ok (List.mem_of_getElem? (i := 1585) (by decide +kernel)) (by decide +kernel)
theorem gw_1587 : (Jvm.Cond.methodLink "GrammarsmithModel" (216 : Nat) ({ cls := "GrammarsmithModel", name := "finds", desc := "()V" } : Jvm.MethodName)) ∈ gx_tb := gx_ok (List.mem_of_getElem? (i := 1587) (by decide +kernel)) (by decide +kernel)
theorem gw_1589 : (Jvm.Cond.instanceMethod ({ cls := "GrammarsmithModel", name := "finds", desc := "()V" } : Jvm.MethodName)) ∈ gx_tb := gx_ok (List.mem_of_getElem? (i := 1589) (by decide +kernel)) (by decide +kernel)
theorem gw_159 : (Jvm.Cond.fieldLink "Grammarsmith$Automaton" (36 : Nat) "Grammarsmith$Automaton" "built" "Z") ∈ gx_tb := gx_ok (List.mem_of_getElem? (i := 159) (by decide +kernel)) (by decide +kernel)
theorem gw_1591 : (Jvm.Cond.methodLink "GrammarsmithModel" (204 : Nat) ({ cls := "GrammarsmithModel", name := "findsMore", desc := "()Z" } : Jvm.MethodName)) ∈ gx_tb := gx_ok (List.mem_of_getElem? (i := 1591) (by decide +kernel)) (by decide +kernel)
theorem gw_1593 : (Jvm.Cond.instanceMethod ({ cls := "GrammarsmithModel", name := "findsMore", desc := "()Z" } : Jvm.MethodName)) ∈ gx_tb := gx_ok (List.mem_of_getElem? (i := 1593) (by decide +kernel)) (by decide +kernel)
theorem gw_1595 : (Jvm.Cond.methodLink "GrammarsmithModel" (193 : Nat) ({ cls := "GrammarsmithModel", name := "lead", desc := "(I)I" } : Jvm.MethodName)) ∈ gx_tb := gx_ok (List.mem_of_getElem? (i := 1595) (by decide +kernel)) (by decide +kernel)
theorem gw_1597 : (Jvm.Cond.instanceMethod ({ cls := "GrammarsmithModel", name := "lead", desc := "(I)I" } : Jvm.MethodName)) ∈ gx_tb := gx_ok (List.mem_of_getElem? (i := 1597) (by decide +kernel)) (by decide +kernel)
theorem gw_1599 : (Jvm.Cond.methodLink "GrammarsmithModel" (196 : Nat) ({ cls := "GrammarsmithModel", name := "firstFrom", desc := "(II)I" } : Jvm.MethodName)) ∈ gx_tb := gx_ok (List.mem_of_getElem? (i := 1599) (by decide +kernel)) (by decide +kernel)
theorem gw_160 : (Jvm.Cond.fieldLink "Grammarsmith$Automaton" (39 : Nat) "Grammarsmith$Automaton" "tooLarge" "Z") ∈ gx_tb := gx_ok (List.mem_of_getElem? (i := 160) (by decide +kernel)) (by decide +kernel)
theorem gw_1601 : (Jvm.Cond.instanceMethod ({ cls := "GrammarsmithModel", name := "firstFrom", desc := "(II)I" } : Jvm.MethodName)) ∈ gx_tb := gx_ok (List.mem_of_getElem? (i := 1601) (by decide +kernel)) (by decide +kernel)
theorem gw_1603 : (Jvm.Cond.methodLink "GrammarsmithModel" (199 : Nat) ({ cls := "GrammarsmithModel", name := "isEmptyFrom", desc := "(II)Z" } : Jvm.MethodName)) ∈ gx_tb := gx_ok (List.mem_of_getElem? (i := 1603) (by decide +kernel)) (by decide +kernel)
theorem gw_1605 : (Jvm.Cond.instanceMethod ({ cls := "GrammarsmithModel", name := "isEmptyFrom", desc := "(II)Z" } : Jvm.MethodName)) ∈ gx_tb := gx_ok (List.mem_of_getElem? (i := 1605) (by decide +kernel)) (by decide +kernel)
theorem gw_1607 : (Jvm.Cond.methodLink "GrammarsmithModel" (207 : Nat) ({ cls := "GrammarsmithModel", name := "findsBehind", desc := "()Z" } : Jvm.MethodName)) ∈ gx_tb := gx_ok (List.mem_of_getElem? (i := 1607) (by decide +kernel)) (by decide +kernel)
theorem gw_1609 : (Jvm.Cond.instanceMethod ({ cls := "GrammarsmithModel", name := "findsBehind", desc := "()Z" } : Jvm.MethodName)) ∈ gx_tb := gx_ok (List.mem_of_getElem? (i := 1609) (by decide +kernel)) (by decide +kernel)
theorem gw_161 : (Jvm.Cond.fieldLink "Grammarsmith$Automaton" (42 : Nat) "Grammarsmith$Automaton" "states" "I") ∈ gx_tb := gx_ok (List.mem_of_getElem? (i := 161) (by decide +kernel)) (by decide +kernel)
theorem gw_1611 : (Jvm.Cond.methodLink "GrammarsmithModel" (210 : Nat) ({ cls := "GrammarsmithModel", name := "findsShort", desc := "(I)Z" } : Jvm.MethodName)) ∈ gx_tb := gx_ok (List.mem_of_getElem? (i := 1611) (by decide +kernel)) (by decide +kernel)
theorem gw_1613 : (Jvm.Cond.instanceMethod ({ cls := "GrammarsmithModel", name := "findsShort", desc := "(I)Z" } : Jvm.MethodName)) ∈ gx_tb := gx_ok (List.mem_of_getElem? (i := 1613) (by decide +kernel)) (by decide +kernel)
theorem gw_1615 : (Jvm.Cond.constantLong "GrammarsmithModel" (202 : Nat) (8 : Int64)) ∈ gx_tb := gx_ok (List.mem_of_getElem? (i := 1615) (by decide +kernel)) (by decide +kernel)
theorem gw_1616 : (Jvm.Cond.methodLink "GrammarsmithModel" (213 : Nat) ({ cls := "GrammarsmithModel", name := "leadsAll", desc := "()V" } : Jvm.MethodName)) ∈ gx_tb := gx_ok (List.mem_of_getElem? (i := 1616) (by decide +kernel)) (by decide +kernel)
theorem gw_1618 : (Jvm.Cond.instanceMethod ({ cls := "GrammarsmithModel", name := "leadsAll", desc := "()V" } : Jvm.MethodName)) ∈ gx_tb := gx_ok (List.mem_of_getElem? (i := 1618) (by decide +kernel)) (by decide +kernel)
theorem gw_162 : (Jvm.Cond.fieldLink "Grammarsmith$Automaton" (9 : Nat) "Grammarsmith$Automaton" "rows" "[I") ∈ gx_tb := gx_ok (List.mem_of_getElem? (i := 162) (by decide +kernel)) (by decide +kernel)
theorem gw_1620 : (Jvm.Cond.methodLink "GrammarsmithLaw" (148 : Nat) ({ cls := "GrammarsmithModel", name := "first", desc := "(I)I" } : Jvm.MethodName)) ∈ gx_tb := gx_ok (List.mem_of_getElem? (i := 1620) (by decide +kernel)) (by decide +kernel)
theorem gw_1621 : (Jvm.Cond.instanceMethod ({ cls := "GrammarsmithModel", name := "first", desc := "(I)I" } : Jvm.MethodName)) ∈ gx_tb := gx_ok (List.mem_of_getElem? (i := 1621) (by decide +kernel)) (by decide +kernel)
theorem gw_1622 : (Jvm.Cond.selects "GrammarsmithModel" ({ cls := "GrammarsmithModel", name := "first", desc := "(I)I" } : Jvm.MethodName) ({ cls := "GrammarsmithModel", name := "first", desc := "(I)I" } : Jvm.MethodName)) ∈ gx_tb := gx_ok (List.mem_of_getElem? (i := 1622) (by decide +kernel)) (by decide +kernel)
theorem gw_1624 : (Jvm.Cond.methodLink "GrammarsmithLaw" (151 : Nat) ({ cls := "GrammarsmithModel", name := "follow", desc := "(I)I" } : Jvm.MethodName)) ∈ gx_tb := gx_ok (List.mem_of_getElem? (i := 1624) (by decide +kernel)) (by decide +kernel)
theorem gw_1625 : (Jvm.Cond.instanceMethod ({ cls := "GrammarsmithModel", name := "follow", desc := "(I)I" } : Jvm.MethodName)) ∈ gx_tb := gx_ok (List.mem_of_getElem? (i := 1625) (by decide +kernel)) (by decide +kernel)
theorem gw_1626 : (Jvm.Cond.selects "GrammarsmithModel" ({ cls := "GrammarsmithModel", name := "follow", desc := "(I)I" } : Jvm.MethodName) ({ cls := "GrammarsmithModel", name := "follow", desc := "(I)I" } : Jvm.MethodName)) ∈ gx_tb := gx_ok (List.mem_of_getElem? (i := 1626) (by decide +kernel)) (by decide +kernel)
theorem gw_1628 : (Jvm.Cond.methodLink "GrammarsmithLaw" (154 : Nat) ({ cls := "GrammarsmithModel", name := "uses", desc := "(I)I" } : Jvm.MethodName)) ∈ gx_tb := gx_ok (List.mem_of_getElem? (i := 1628) (by decide +kernel)) (by decide +kernel)
theorem gw_1629 : (Jvm.Cond.instanceMethod ({ cls := "GrammarsmithModel", name := "uses", desc := "(I)I" } : Jvm.MethodName)) ∈ gx_tb := gx_ok (List.mem_of_getElem? (i := 1629) (by decide +kernel)) (by decide +kernel)
theorem gw_163 : (Jvm.Cond.fieldLink "Grammarsmith$Automaton" (15 : Nat) "Grammarsmith$Automaton" "moves" "[I") ∈ gx_tb := gx_ok (List.mem_of_getElem? (i := 163) (by decide +kernel)) (by decide +kernel)
theorem gw_1630 : (Jvm.Cond.selects "GrammarsmithModel" ({ cls := "GrammarsmithModel", name := "uses", desc := "(I)I" } : Jvm.MethodName) ({ cls := "GrammarsmithModel", name := "uses", desc := "(I)I" } : Jvm.MethodName)) ∈ gx_tb := gx_ok (List.mem_of_getElem? (i := 1630) (by decide +kernel)) (by decide +kernel)
theorem gw_1632 : (Jvm.Cond.methodLink "GrammarsmithLaw" (157 : Nat) ({ cls := "GrammarsmithModel", name := "isLeftRecursive", desc := "(I)Z" } : Jvm.MethodName)) ∈ gx_tb := gx_ok (List.mem_of_getElem? (i := 1632) (by decide +kernel)) (by decide +kernel)
theorem gw_1633 : (Jvm.Cond.instanceMethod ({ cls := "GrammarsmithModel", name := "isLeftRecursive", desc := "(I)Z" } : Jvm.MethodName)) ∈ gx_tb := gx_ok (List.mem_of_getElem? (i := 1633) (by decide +kernel)) (by decide +kernel)
theorem gw_1634 : (Jvm.Cond.selects "GrammarsmithModel" ({ cls := "GrammarsmithModel", name := "isLeftRecursive", desc := "(I)Z" } : Jvm.MethodName) ({ cls := "GrammarsmithModel", name := "isLeftRecursive", desc := "(I)Z" } : Jvm.MethodName)) ∈ gx_tb := gx_ok (List.mem_of_getElem? (i := 1634) (by decide +kernel)) (by decide +kernel)
theorem gw_1636 : (Jvm.Cond.methodLink "GrammarsmithLaw" (160 : Nat) ({ cls := "GrammarsmithModel", name := "shortest", desc := "(I)I" } : Jvm.MethodName)) ∈ gx_tb := gx_ok (List.mem_of_getElem? (i := 1636) (by decide +kernel)) (by decide +kernel)
theorem gw_1637 : (Jvm.Cond.instanceMethod ({ cls := "GrammarsmithModel", name := "shortest", desc := "(I)I" } : Jvm.MethodName)) ∈ gx_tb := gx_ok (List.mem_of_getElem? (i := 1637) (by decide +kernel)) (by decide +kernel)
theorem gw_1638 : (Jvm.Cond.selects "GrammarsmithModel" ({ cls := "GrammarsmithModel", name := "shortest", desc := "(I)I" } : Jvm.MethodName) ({ cls := "GrammarsmithModel", name := "shortest", desc := "(I)I" } : Jvm.MethodName)) ∈ gx_tb := gx_ok (List.mem_of_getElem? (i := 1638) (by decide +kernel)) (by decide +kernel)
theorem gw_164 : (Jvm.Cond.fieldLink "Grammarsmith$Automaton" (18 : Nat) "Grammarsmith$Automaton" "entries" "[I") ∈ gx_tb := gx_ok (List.mem_of_getElem? (i := 164) (by decide +kernel)) (by decide +kernel)
theorem gw_1640 : (Jvm.Cond.methodLink "GrammarsmithLaw" (163 : Nat) ({ cls := "GrammarsmithModel", name := "sentence", desc := "(II)I" } : Jvm.MethodName)) ∈ gx_tb := gx_ok (List.mem_of_getElem? (i := 1640) (by decide +kernel)) (by decide +kernel)
theorem gw_1641 : (Jvm.Cond.instanceMethod ({ cls := "GrammarsmithModel", name := "sentence", desc := "(II)I" } : Jvm.MethodName)) ∈ gx_tb := gx_ok (List.mem_of_getElem? (i := 1641) (by decide +kernel)) (by decide +kernel)
theorem gw_1642 : (Jvm.Cond.selects "GrammarsmithModel" ({ cls := "GrammarsmithModel", name := "sentence", desc := "(II)I" } : Jvm.MethodName) ({ cls := "GrammarsmithModel", name := "sentence", desc := "(II)I" } : Jvm.MethodName)) ∈ gx_tb := gx_ok (List.mem_of_getElem? (i := 1642) (by decide +kernel)) (by decide +kernel)
theorem gw_1644 : (Jvm.Cond.constantLong "GrammarsmithModel" (219 : Nat) (7 : Int64)) ∈ gx_tb := gx_ok (List.mem_of_getElem? (i := 1644) (by decide +kernel)) (by decide +kernel)
theorem gw_1645 : (Jvm.Cond.methodLink "GrammarsmithLaw" (166 : Nat) ({ cls := "GrammarsmithModel", name := "size", desc := "(I)I" } : Jvm.MethodName)) ∈ gx_tb := gx_ok (List.mem_of_getElem? (i := 1645) (by decide +kernel)) (by decide +kernel)
theorem gw_1646 : (Jvm.Cond.instanceMethod ({ cls := "GrammarsmithModel", name := "size", desc := "(I)I" } : Jvm.MethodName)) ∈ gx_tb := gx_ok (List.mem_of_getElem? (i := 1646) (by decide +kernel)) (by decide +kernel)
theorem gw_1647 : (Jvm.Cond.selects "GrammarsmithModel" ({ cls := "GrammarsmithModel", name := "size", desc := "(I)I" } : Jvm.MethodName) ({ cls := "GrammarsmithModel", name := "size", desc := "(I)I" } : Jvm.MethodName)) ∈ gx_tb := gx_ok (List.mem_of_getElem? (i := 1647) (by decide +kernel)) (by decide +kernel)
theorem gw_1649 : (Jvm.Cond.methodLink "GrammarsmithModel" (283 : Nat) ({ cls := "GrammarsmithModel", name := "isKind", desc := "(I)Z" } : Jvm.MethodName)) ∈ gx_tb := gx_ok (List.mem_of_getElem? (i := 1649) (by decide +kernel)) (by decide +kernel)
theorem gw_165 : (Jvm.Cond.fieldLink "Grammarsmith$Automaton" (21 : Nat) "Grammarsmith$Automaton" "waiting" "[Z") ∈ gx_tb := gx_ok (List.mem_of_getElem? (i := 165) (by decide +kernel)) (by decide +kernel)
theorem gw_1650 : (Jvm.Cond.static ({ cls := "GrammarsmithModel", name := "isKind", desc := "(I)Z" } : Jvm.MethodName)) ∈ gx_tb := gx_ok (List.mem_of_getElem? (i := 1650) (by decide +kernel)) (by decide +kernel)
theorem gw_1652 : (Jvm.Cond.methodLink "GrammarsmithModel" (286 : Nat) ({ cls := "GrammarsmithModel", name := "states", desc := "(I)I" } : Jvm.MethodName)) ∈ gx_tb := gx_ok (List.mem_of_getElem? (i := 1652) (by decide +kernel)) (by decide +kernel)
theorem gw_1654 : (Jvm.Cond.instanceMethod ({ cls := "GrammarsmithModel", name := "states", desc := "(I)I" } : Jvm.MethodName)) ∈ gx_tb := gx_ok (List.mem_of_getElem? (i := 1654) (by decide +kernel)) (by decide +kernel)
theorem gw_1656 : (Jvm.Cond.methodLink "GrammarsmithModel" (263 : Nat) ({ cls := "GrammarsmithModel", name := "wholes", desc := "()V" } : Jvm.MethodName)) ∈ gx_tb := gx_ok (List.mem_of_getElem? (i := 1656) (by decide +kernel)) (by decide +kernel)
theorem gw_1658 : (Jvm.Cond.instanceMethod ({ cls := "GrammarsmithModel", name := "wholes", desc := "()V" } : Jvm.MethodName)) ∈ gx_tb := gx_ok (List.mem_of_getElem? (i := 1658) (by decide +kernel)) (by decide +kernel)
theorem gw_166 : (Jvm.Cond.fieldLink "Grammarsmith$Automaton" (25 : Nat) "Grammarsmith$Automaton" "fresh" "[I") ∈ gx_tb := gx_ok (List.mem_of_getElem? (i := 166) (by decide +kernel)) (by decide +kernel)
theorem gw_1660 : (Jvm.Cond.methodLink "GrammarsmithModel" (250 : Nat) ({ cls := "GrammarsmithModel", name := "makes", desc := "([I[IZ)I" } : Jvm.MethodName)) ∈ gx_tb := gx_ok (List.mem_of_getElem? (i := 1660) (by decide +kernel)) (by decide +kernel)
theorem gw_1662 : (Jvm.Cond.instanceMethod ({ cls := "GrammarsmithModel", name := "makes", desc := "([I[IZ)I" } : Jvm.MethodName)) ∈ gx_tb := gx_ok (List.mem_of_getElem? (i := 1662) (by decide +kernel)) (by decide +kernel)
theorem gw_1664 : (Jvm.Cond.methodLink "GrammarsmithModel" (235 : Nat) ({ cls := "GrammarsmithModel", name := "numbers", desc := "()V" } : Jvm.MethodName)) ∈ gx_tb := gx_ok (List.mem_of_getElem? (i := 1664) (by decide +kernel)) (by decide +kernel)
theorem gw_1666 : (Jvm.Cond.instanceMethod ({ cls := "GrammarsmithModel", name := "numbers", desc := "()V" } : Jvm.MethodName)) ∈ gx_tb := gx_ok (List.mem_of_getElem? (i := 1666) (by decide +kernel)) (by decide +kernel)
theorem gw_1668 : (Jvm.Cond.methodLink "GrammarsmithModel" (238 : Nat) ({ cls := "GrammarsmithModel", name := "closure", desc := "([II)V" } : Jvm.MethodName)) ∈ gx_tb := gx_ok (List.mem_of_getElem? (i := 1668) (by decide +kernel)) (by decide +kernel)
theorem gw_1670 : (Jvm.Cond.instanceMethod ({ cls := "GrammarsmithModel", name := "closure", desc := "([II)V" } : Jvm.MethodName)) ∈ gx_tb := gx_ok (List.mem_of_getElem? (i := 1670) (by decide +kernel)) (by decide +kernel)
theorem gw_1672 : (Jvm.Cond.methodLink "GrammarsmithModel" (228 : Nat) ({ cls := "GrammarsmithModel", name := "opensAll", desc := "([II)Z" } : Jvm.MethodName)) ∈ gx_tb := gx_ok (List.mem_of_getElem? (i := 1672) (by decide +kernel)) (by decide +kernel)
theorem gw_1674 : (Jvm.Cond.instanceMethod ({ cls := "GrammarsmithModel", name := "opensAll", desc := "([II)Z" } : Jvm.MethodName)) ∈ gx_tb := gx_ok (List.mem_of_getElem? (i := 1674) (by decide +kernel)) (by decide +kernel)
theorem gw_1676 : (Jvm.Cond.methodLink "GrammarsmithModel" (224 : Nat) ({ cls := "GrammarsmithModel", name := "opens", desc := "([IIII)Z" } : Jvm.MethodName)) ∈ gx_tb := gx_ok (List.mem_of_getElem? (i := 1676) (by decide +kernel)) (by decide +kernel)
theorem gw_1678 : (Jvm.Cond.instanceMethod ({ cls := "GrammarsmithModel", name := "opens", desc := "([IIII)Z" } : Jvm.MethodName)) ∈ gx_tb := gx_ok (List.mem_of_getElem? (i := 1678) (by decide +kernel)) (by decide +kernel)
theorem gw_1680 : (Jvm.Cond.methodLink "GrammarsmithModel" (242 : Nat) ({ cls := "GrammarsmithModel", name := "steps", desc := "([III)Z" } : Jvm.MethodName)) ∈ gx_tb := gx_ok (List.mem_of_getElem? (i := 1680) (by decide +kernel)) (by decide +kernel)
theorem gw_1682 : (Jvm.Cond.instanceMethod ({ cls := "GrammarsmithModel", name := "steps", desc := "([III)Z" } : Jvm.MethodName)) ∈ gx_tb := gx_ok (List.mem_of_getElem? (i := 1682) (by decide +kernel)) (by decide +kernel)
theorem gw_1684 : (Jvm.Cond.methodLink "GrammarsmithModel" (232 : Nat) ({ cls := "GrammarsmithModel", name := "index", desc := "(I)I" } : Jvm.MethodName)) ∈ gx_tb := gx_ok (List.mem_of_getElem? (i := 1684) (by decide +kernel)) (by decide +kernel)
theorem gw_1685 : (Jvm.Cond.static ({ cls := "GrammarsmithModel", name := "index", desc := "(I)I" } : Jvm.MethodName)) ∈ gx_tb := gx_ok (List.mem_of_getElem? (i := 1685) (by decide +kernel)) (by decide +kernel)
theorem gw_1687 : (Jvm.Cond.methodLink "GrammarsmithModel" (246 : Nat) ({ cls := "GrammarsmithModel", name := "findState", desc := "([IIZ)I" } : Jvm.MethodName)) ∈ gx_tb := gx_ok (List.mem_of_getElem? (i := 1687) (by decide +kernel)) (by decide +kernel)
theorem gw_1689 : (Jvm.Cond.instanceMethod ({ cls := "GrammarsmithModel", name := "findState", desc := "([IIZ)I" } : Jvm.MethodName)) ∈ gx_tb := gx_ok (List.mem_of_getElem? (i := 1689) (by decide +kernel)) (by decide +kernel)
theorem gw_1691 : (Jvm.Cond.methodLink "GrammarsmithModel" (266 : Nat) ({ cls := "GrammarsmithModel", name := "merges", desc := "()V" } : Jvm.MethodName)) ∈ gx_tb := gx_ok (List.mem_of_getElem? (i := 1691) (by decide +kernel)) (by decide +kernel)
theorem gw_1693 : (Jvm.Cond.instanceMethod ({ cls := "GrammarsmithModel", name := "merges", desc := "()V" } : Jvm.MethodName)) ∈ gx_tb := gx_ok (List.mem_of_getElem? (i := 1693) (by decide +kernel)) (by decide +kernel)
theorem gw_1695 : (Jvm.Cond.methodLink "GrammarsmithModel" (257 : Nat) ({ cls := "GrammarsmithModel", name := "spreads", desc := "(I)Z" } : Jvm.MethodName)) ∈ gx_tb := gx_ok (List.mem_of_getElem? (i := 1695) (by decide +kernel)) (by decide +kernel)
theorem gw_1697 : (Jvm.Cond.instanceMethod ({ cls := "GrammarsmithModel", name := "spreads", desc := "(I)Z" } : Jvm.MethodName)) ∈ gx_tb := gx_ok (List.mem_of_getElem? (i := 1697) (by decide +kernel)) (by decide +kernel)
theorem gw_1699 : (Jvm.Cond.methodLink "GrammarsmithModel" (289 : Nat) ({ cls := "GrammarsmithModel", name := "predicted", desc := "(II)I" } : Jvm.MethodName)) ∈ gx_tb := gx_ok (List.mem_of_getElem? (i := 1699) (by decide +kernel)) (by decide +kernel)
theorem gw_1701 : (Jvm.Cond.instanceMethod ({ cls := "GrammarsmithModel", name := "predicted", desc := "(II)I" } : Jvm.MethodName)) ∈ gx_tb := gx_ok (List.mem_of_getElem? (i := 1701) (by decide +kernel)) (by decide +kernel)
theorem gw_1703 : (Jvm.Cond.methodLink "GrammarsmithLaw" (169 : Nat) ({ cls := "GrammarsmithModel", name := "conflicts", desc := "(I)I" } : Jvm.MethodName)) ∈ gx_tb := gx_ok (List.mem_of_getElem? (i := 1703) (by decide +kernel)) (by decide +kernel)
theorem gw_1704 : (Jvm.Cond.instanceMethod ({ cls := "GrammarsmithModel", name := "conflicts", desc := "(I)I" } : Jvm.MethodName)) ∈ gx_tb := gx_ok (List.mem_of_getElem? (i := 1704) (by decide +kernel)) (by decide +kernel)
theorem gw_1705 : (Jvm.Cond.selects "GrammarsmithModel" ({ cls := "GrammarsmithModel", name := "conflicts", desc := "(I)I" } : Jvm.MethodName) ({ cls := "GrammarsmithModel", name := "conflicts", desc := "(I)I" } : Jvm.MethodName)) ∈ gx_tb := gx_ok (List.mem_of_getElem? (i := 1705) (by decide +kernel)) (by decide +kernel)
theorem gw_1707 : (Jvm.Cond.methodLink "GrammarsmithModel" (295 : Nat) ({ cls := "GrammarsmithModel", name := "counts", desc := "(IZ)I" } : Jvm.MethodName)) ∈ gx_tb := gx_ok (List.mem_of_getElem? (i := 1707) (by decide +kernel)) (by decide +kernel)
theorem gw_1709 : (Jvm.Cond.instanceMethod ({ cls := "GrammarsmithModel", name := "counts", desc := "(IZ)I" } : Jvm.MethodName)) ∈ gx_tb := gx_ok (List.mem_of_getElem? (i := 1709) (by decide +kernel)) (by decide +kernel)
theorem gw_1711 : (Jvm.Cond.methodLink "GrammarsmithModel" (292 : Nat) ({ cls := "GrammarsmithModel", name := "cell", desc := "(III)I" } : Jvm.MethodName)) ∈ gx_tb := gx_ok (List.mem_of_getElem? (i := 1711) (by decide +kernel)) (by decide +kernel)
theorem gw_1713 : (Jvm.Cond.instanceMethod ({ cls := "GrammarsmithModel", name := "cell", desc := "(III)I" } : Jvm.MethodName)) ∈ gx_tb := gx_ok (List.mem_of_getElem? (i := 1713) (by decide +kernel)) (by decide +kernel)
theorem gw_1715 : (Jvm.Cond.methodLink "GrammarsmithModel" (269 : Nat) ({ cls := "GrammarsmithModel", name := "reduces", desc := "(IIII)Z" } : Jvm.MethodName)) ∈ gx_tb := gx_ok (List.mem_of_getElem? (i := 1715) (by decide +kernel)) (by decide +kernel)
theorem gw_1717 : (Jvm.Cond.instanceMethod ({ cls := "GrammarsmithModel", name := "reduces", desc := "(IIII)Z" } : Jvm.MethodName)) ∈ gx_tb := gx_ok (List.mem_of_getElem? (i := 1717) (by decide +kernel)) (by decide +kernel)
theorem gw_1719 : (Jvm.Cond.methodLink "GrammarsmithModel" (273 : Nat) ({ cls := "GrammarsmithModel", name := "goTo", desc := "(III)I" } : Jvm.MethodName)) ∈ gx_tb := gx_ok (List.mem_of_getElem? (i := 1719) (by decide +kernel)) (by decide +kernel)
theorem gw_1721 : (Jvm.Cond.instanceMethod ({ cls := "GrammarsmithModel", name := "goTo", desc := "(III)I" } : Jvm.MethodName)) ∈ gx_tb := gx_ok (List.mem_of_getElem? (i := 1721) (by decide +kernel)) (by decide +kernel)
theorem gw_1723 : (Jvm.Cond.methodLink "GrammarsmithModel" (277 : Nat) ({ cls := "GrammarsmithModel", name := "lastTerminal", desc := "(I)I" } : Jvm.MethodName)) ∈ gx_tb := gx_ok (List.mem_of_getElem? (i := 1723) (by decide +kernel)) (by decide +kernel)
theorem gw_1725 : (Jvm.Cond.instanceMethod ({ cls := "GrammarsmithModel", name := "lastTerminal", desc := "(I)I" } : Jvm.MethodName)) ∈ gx_tb := gx_ok (List.mem_of_getElem? (i := 1725) (by decide +kernel)) (by decide +kernel)
theorem gw_1727 : (Jvm.Cond.methodLink "GrammarsmithModel" (280 : Nat) ({ cls := "GrammarsmithModel", name := "levelOf", desc := "(I)I" } : Jvm.MethodName)) ∈ gx_tb := gx_ok (List.mem_of_getElem? (i := 1727) (by decide +kernel)) (by decide +kernel)
theorem gw_1729 : (Jvm.Cond.instanceMethod ({ cls := "GrammarsmithModel", name := "levelOf", desc := "(I)I" } : Jvm.MethodName)) ∈ gx_tb := gx_ok (List.mem_of_getElem? (i := 1729) (by decide +kernel)) (by decide +kernel)
theorem gw_1731 : (Jvm.Cond.methodLink "GrammarsmithLaw" (172 : Nat) ({ cls := "GrammarsmithModel", name := "settled", desc := "(I)I" } : Jvm.MethodName)) ∈ gx_tb := gx_ok (List.mem_of_getElem? (i := 1731) (by decide +kernel)) (by decide +kernel)
theorem gw_1732 : (Jvm.Cond.instanceMethod ({ cls := "GrammarsmithModel", name := "settled", desc := "(I)I" } : Jvm.MethodName)) ∈ gx_tb := gx_ok (List.mem_of_getElem? (i := 1732) (by decide +kernel)) (by decide +kernel)
theorem gw_1733 : (Jvm.Cond.selects "GrammarsmithModel" ({ cls := "GrammarsmithModel", name := "settled", desc := "(I)I" } : Jvm.MethodName) ({ cls := "GrammarsmithModel", name := "settled", desc := "(I)I" } : Jvm.MethodName)) ∈ gx_tb := gx_ok (List.mem_of_getElem? (i := 1733) (by decide +kernel)) (by decide +kernel)
theorem gw_1735 : (Jvm.Cond.methodLink "GrammarsmithLaw" (176 : Nat) ({ cls := "GrammarsmithModel", name := "chosen", desc := "()I" } : Jvm.MethodName)) ∈ gx_tb := gx_ok (List.mem_of_getElem? (i := 1735) (by decide +kernel)) (by decide +kernel)
theorem gw_1736 : (Jvm.Cond.instanceMethod ({ cls := "GrammarsmithModel", name := "chosen", desc := "()I" } : Jvm.MethodName)) ∈ gx_tb := gx_ok (List.mem_of_getElem? (i := 1736) (by decide +kernel)) (by decide +kernel)
theorem gw_1737 : (Jvm.Cond.selects "GrammarsmithModel" ({ cls := "GrammarsmithModel", name := "chosen", desc := "()I" } : Jvm.MethodName) ({ cls := "GrammarsmithModel", name := "chosen", desc := "()I" } : Jvm.MethodName)) ∈ gx_tb := gx_ok (List.mem_of_getElem? (i := 1737) (by decide +kernel)) (by decide +kernel)
theorem gw_1739 : (Jvm.Cond.methodLink "GrammarsmithLaw" (179 : Nat) ({ cls := "GrammarsmithModel", name := "put", desc := "(II)I" } : Jvm.MethodName)) ∈ gx_tb := gx_ok (List.mem_of_getElem? (i := 1739) (by decide +kernel)) (by decide +kernel)
theorem gw_1740 : (Jvm.Cond.instanceMethod ({ cls := "GrammarsmithModel", name := "put", desc := "(II)I" } : Jvm.MethodName)) ∈ gx_tb := gx_ok (List.mem_of_getElem? (i := 1740) (by decide +kernel)) (by decide +kernel)
theorem gw_1741 : (Jvm.Cond.selects "GrammarsmithModel" ({ cls := "GrammarsmithModel", name := "put", desc := "(II)I" } : Jvm.MethodName) ({ cls := "GrammarsmithModel", name := "put", desc := "(II)I" } : Jvm.MethodName)) ∈ gx_tb := gx_ok (List.mem_of_getElem? (i := 1741) (by decide +kernel)) (by decide +kernel)
theorem gw_1743 : (Jvm.Cond.methodLink "GrammarsmithLaw" (182 : Nat) ({ cls := "GrammarsmithModel", name := "cut", desc := "(I)I" } : Jvm.MethodName)) ∈ gx_tb := gx_ok (List.mem_of_getElem? (i := 1743) (by decide +kernel)) (by decide +kernel)
theorem gw_1744 : (Jvm.Cond.instanceMethod ({ cls := "GrammarsmithModel", name := "cut", desc := "(I)I" } : Jvm.MethodName)) ∈ gx_tb := gx_ok (List.mem_of_getElem? (i := 1744) (by decide +kernel)) (by decide +kernel)
theorem gw_1745 : (Jvm.Cond.selects "GrammarsmithModel" ({ cls := "GrammarsmithModel", name := "cut", desc := "(I)I" } : Jvm.MethodName) ({ cls := "GrammarsmithModel", name := "cut", desc := "(I)I" } : Jvm.MethodName)) ∈ gx_tb := gx_ok (List.mem_of_getElem? (i := 1745) (by decide +kernel)) (by decide +kernel)
theorem gw_1747 : (Jvm.Cond.methodLink "GrammarsmithLaw" (185 : Nat) ({ cls := "GrammarsmithModel", name := "parse", desc := "(I)I" } : Jvm.MethodName)) ∈ gx_tb := gx_ok (List.mem_of_getElem? (i := 1747) (by decide +kernel)) (by decide +kernel)
theorem gw_1748 : (Jvm.Cond.instanceMethod ({ cls := "GrammarsmithModel", name := "parse", desc := "(I)I" } : Jvm.MethodName)) ∈ gx_tb := gx_ok (List.mem_of_getElem? (i := 1748) (by decide +kernel)) (by decide +kernel)
theorem gw_1749 : (Jvm.Cond.selects "GrammarsmithModel" ({ cls := "GrammarsmithModel", name := "parse", desc := "(I)I" } : Jvm.MethodName) ({ cls := "GrammarsmithModel", name := "parse", desc := "(I)I" } : Jvm.MethodName)) ∈ gx_tb := gx_ok (List.mem_of_getElem? (i := 1749) (by decide +kernel)) (by decide +kernel)
theorem gw_1751 : (Jvm.Cond.methodLink "GrammarsmithModel" (324 : Nat) ({ cls := "GrammarsmithModel", name := "parses", desc := "(I)I" } : Jvm.MethodName)) ∈ gx_tb := gx_ok (List.mem_of_getElem? (i := 1751) (by decide +kernel)) (by decide +kernel)
theorem gw_1753 : (Jvm.Cond.instanceMethod ({ cls := "GrammarsmithModel", name := "parses", desc := "(I)I" } : Jvm.MethodName)) ∈ gx_tb := gx_ok (List.mem_of_getElem? (i := 1753) (by decide +kernel)) (by decide +kernel)
theorem gw_1755 : (Jvm.Cond.methodLink "GrammarsmithModel" (318 : Nat) ({ cls := "GrammarsmithModel", name := "derives", desc := "()I" } : Jvm.MethodName)) ∈ gx_tb := gx_ok (List.mem_of_getElem? (i := 1755) (by decide +kernel)) (by decide +kernel)
theorem gw_1757 : (Jvm.Cond.instanceMethod ({ cls := "GrammarsmithModel", name := "derives", desc := "()I" } : Jvm.MethodName)) ∈ gx_tb := gx_ok (List.mem_of_getElem? (i := 1757) (by decide +kernel)) (by decide +kernel)
theorem gw_1759 : (Jvm.Cond.methodLink "GrammarsmithModel" (311 : Nat) ({ cls := "GrammarsmithModel", name := "gathers", desc := "(I)V" } : Jvm.MethodName)) ∈ gx_tb := gx_ok (List.mem_of_getElem? (i := 1759) (by decide +kernel)) (by decide +kernel)
theorem gw_1761 : (Jvm.Cond.instanceMethod ({ cls := "GrammarsmithModel", name := "gathers", desc := "(I)V" } : Jvm.MethodName)) ∈ gx_tb := gx_ok (List.mem_of_getElem? (i := 1761) (by decide +kernel)) (by decide +kernel)
theorem gw_1763 : (Jvm.Cond.methodLink "GrammarsmithModel" (315 : Nat) ({ cls := "GrammarsmithModel", name := "sizeOr", desc := "(I)I" } : Jvm.MethodName)) ∈ gx_tb := gx_ok (List.mem_of_getElem? (i := 1763) (by decide +kernel)) (by decide +kernel)
theorem gw_1765 : (Jvm.Cond.instanceMethod ({ cls := "GrammarsmithModel", name := "sizeOr", desc := "(I)I" } : Jvm.MethodName)) ∈ gx_tb := gx_ok (List.mem_of_getElem? (i := 1765) (by decide +kernel)) (by decide +kernel)
theorem gw_1767 : (Jvm.Cond.methodLink "GrammarsmithModel" (321 : Nat) ({ cls := "GrammarsmithModel", name := "runs", desc := "(I)I" } : Jvm.MethodName)) ∈ gx_tb := gx_ok (List.mem_of_getElem? (i := 1767) (by decide +kernel)) (by decide +kernel)
theorem gw_1769 : (Jvm.Cond.instanceMethod ({ cls := "GrammarsmithModel", name := "runs", desc := "(I)I" } : Jvm.MethodName)) ∈ gx_tb := gx_ok (List.mem_of_getElem? (i := 1769) (by decide +kernel)) (by decide +kernel)
theorem gw_1771 : (Jvm.Cond.methodLink "GrammarsmithModel" (308 : Nat) ({ cls := "GrammarsmithModel", name := "reduced", desc := "(II)V" } : Jvm.MethodName)) ∈ gx_tb := gx_ok (List.mem_of_getElem? (i := 1771) (by decide +kernel)) (by decide +kernel)
theorem gw_1773 : (Jvm.Cond.instanceMethod ({ cls := "GrammarsmithModel", name := "reduced", desc := "(II)V" } : Jvm.MethodName)) ∈ gx_tb := gx_ok (List.mem_of_getElem? (i := 1773) (by decide +kernel)) (by decide +kernel)
theorem gw_1775 : (Jvm.Cond.methodLink "GrammarsmithLaw" (188 : Nat) ({ cls := "GrammarsmithModel", name := "value", desc := "(I)I" } : Jvm.MethodName)) ∈ gx_tb := gx_ok (List.mem_of_getElem? (i := 1775) (by decide +kernel)) (by decide +kernel)
theorem gw_1776 : (Jvm.Cond.instanceMethod ({ cls := "GrammarsmithModel", name := "value", desc := "(I)I" } : Jvm.MethodName)) ∈ gx_tb := gx_ok (List.mem_of_getElem? (i := 1776) (by decide +kernel)) (by decide +kernel)
theorem gw_1777 : (Jvm.Cond.selects "GrammarsmithModel" ({ cls := "GrammarsmithModel", name := "value", desc := "(I)I" } : Jvm.MethodName) ({ cls := "GrammarsmithModel", name := "value", desc := "(I)I" } : Jvm.MethodName)) ∈ gx_tb := gx_ok (List.mem_of_getElem? (i := 1777) (by decide +kernel)) (by decide +kernel)
theorem gw_1779 : (Jvm.Cond.methodLink "GrammarsmithLaw" (192 : Nat) ({ cls := "GrammarsmithModel", name := "readings", desc := "()I" } : Jvm.MethodName)) ∈ gx_tb := gx_ok (List.mem_of_getElem? (i := 1779) (by decide +kernel)) (by decide +kernel)
theorem gw_1780 : (Jvm.Cond.instanceMethod ({ cls := "GrammarsmithModel", name := "readings", desc := "()I" } : Jvm.MethodName)) ∈ gx_tb := gx_ok (List.mem_of_getElem? (i := 1780) (by decide +kernel)) (by decide +kernel)
theorem gw_1781 : (Jvm.Cond.selects "GrammarsmithModel" ({ cls := "GrammarsmithModel", name := "readings", desc := "()I" } : Jvm.MethodName) ({ cls := "GrammarsmithModel", name := "readings", desc := "()I" } : Jvm.MethodName)) ∈ gx_tb := gx_ok (List.mem_of_getElem? (i := 1781) (by decide +kernel)) (by decide +kernel)
theorem gw_1783 : (Jvm.Cond.methodLink "GrammarsmithModel" (336 : Nat) ({ cls := "GrammarsmithModel", name := "counted", desc := "(II)Z" } : Jvm.MethodName)) ∈ gx_tb := gx_ok (List.mem_of_getElem? (i := 1783) (by decide +kernel)) (by decide +kernel)
theorem gw_1785 : (Jvm.Cond.instanceMethod ({ cls := "GrammarsmithModel", name := "counted", desc := "(II)Z" } : Jvm.MethodName)) ∈ gx_tb := gx_ok (List.mem_of_getElem? (i := 1785) (by decide +kernel)) (by decide +kernel)
theorem gw_1787 : (Jvm.Cond.methodLink "GrammarsmithModel" (333 : Nat) ({ cls := "GrammarsmithModel", name := "waysOf", desc := "(III)I" } : Jvm.MethodName)) ∈ gx_tb := gx_ok (List.mem_of_getElem? (i := 1787) (by decide +kernel)) (by decide +kernel)
theorem gw_1789 : (Jvm.Cond.instanceMethod ({ cls := "GrammarsmithModel", name := "waysOf", desc := "(III)I" } : Jvm.MethodName)) ∈ gx_tb := gx_ok (List.mem_of_getElem? (i := 1789) (by decide +kernel)) (by decide +kernel)
theorem gw_1791 : (Jvm.Cond.methodLink "GrammarsmithModel" (330 : Nat) ({ cls := "GrammarsmithModel", name := "ways", desc := "(III)I" } : Jvm.MethodName)) ∈ gx_tb := gx_ok (List.mem_of_getElem? (i := 1791) (by decide +kernel)) (by decide +kernel)
theorem gw_1793 : (Jvm.Cond.instanceMethod ({ cls := "GrammarsmithModel", name := "ways", desc := "(III)I" } : Jvm.MethodName)) ∈ gx_tb := gx_ok (List.mem_of_getElem? (i := 1793) (by decide +kernel)) (by decide +kernel)
theorem gw_1795 : (Jvm.Cond.methodLink "GrammarsmithModel" (327 : Nat) ({ cls := "GrammarsmithModel", name := "at", desc := "(III)I" } : Jvm.MethodName)) ∈ gx_tb := gx_ok (List.mem_of_getElem? (i := 1795) (by decide +kernel)) (by decide +kernel)
theorem gw_1796 : (Jvm.Cond.static ({ cls := "GrammarsmithModel", name := "at", desc := "(III)I" } : Jvm.MethodName)) ∈ gx_tb := gx_ok (List.mem_of_getElem? (i := 1796) (by decide +kernel)) (by decide +kernel)
theorem gw_1798 : (Jvm.Cond.methodLink "GrammarsmithLaw" (196 : Nat) ({ cls := "GrammarsmithModel", name := "repair", desc := "()I" } : Jvm.MethodName)) ∈ gx_tb := gx_ok (List.mem_of_getElem? (i := 1798) (by decide +kernel)) (by decide +kernel)
theorem gw_1799 : (Jvm.Cond.instanceMethod ({ cls := "GrammarsmithModel", name := "repair", desc := "()I" } : Jvm.MethodName)) ∈ gx_tb := gx_ok (List.mem_of_getElem? (i := 1799) (by decide +kernel)) (by decide +kernel)
theorem gw_1800 : (Jvm.Cond.selects "GrammarsmithModel" ({ cls := "GrammarsmithModel", name := "repair", desc := "()I" } : Jvm.MethodName) ({ cls := "GrammarsmithModel", name := "repair", desc := "()I" } : Jvm.MethodName)) ∈ gx_tb := gx_ok (List.mem_of_getElem? (i := 1800) (by decide +kernel)) (by decide +kernel)
theorem gw_1802 : (Jvm.Cond.methodLink "GrammarsmithModel" (345 : Nat) ({ cls := "GrammarsmithModel", name := "mended", desc := "(II)Z" } : Jvm.MethodName)) ∈ gx_tb := gx_ok (List.mem_of_getElem? (i := 1802) (by decide +kernel)) (by decide +kernel)
theorem gw_1804 : (Jvm.Cond.instanceMethod ({ cls := "GrammarsmithModel", name := "mended", desc := "(II)Z" } : Jvm.MethodName)) ∈ gx_tb := gx_ok (List.mem_of_getElem? (i := 1804) (by decide +kernel)) (by decide +kernel)
theorem gw_1806 : (Jvm.Cond.methodLink "GrammarsmithModel" (342 : Nat) ({ cls := "GrammarsmithModel", name := "editsOf", desc := "(III)I" } : Jvm.MethodName)) ∈ gx_tb := gx_ok (List.mem_of_getElem? (i := 1806) (by decide +kernel)) (by decide +kernel)
theorem gw_1808 : (Jvm.Cond.instanceMethod ({ cls := "GrammarsmithModel", name := "editsOf", desc := "(III)I" } : Jvm.MethodName)) ∈ gx_tb := gx_ok (List.mem_of_getElem? (i := 1808) (by decide +kernel)) (by decide +kernel)
theorem gw_1810 : (Jvm.Cond.methodLink "GrammarsmithModel" (339 : Nat) ({ cls := "GrammarsmithModel", name := "edits", desc := "(III)I" } : Jvm.MethodName)) ∈ gx_tb := gx_ok (List.mem_of_getElem? (i := 1810) (by decide +kernel)) (by decide +kernel)
theorem gw_1812 : (Jvm.Cond.instanceMethod ({ cls := "GrammarsmithModel", name := "edits", desc := "(III)I" } : Jvm.MethodName)) ∈ gx_tb := gx_ok (List.mem_of_getElem? (i := 1812) (by decide +kernel)) (by decide +kernel)
theorem gw_1814 : (Jvm.Cond.sameMethod "Grammarsmith$Chart" "Grammarsmith$Chart" "fill" "(II)V") ∈ gx_tb := gx_ok (List.mem_of_getElem? (i := 1814) (by decide +kernel)) (by decide +kernel)
theorem gw_1815 : (Jvm.Cond.sameMethod "Grammarsmith$Chart" "Grammarsmith$Chart" "setWhole" "(IIII)V") ∈ gx_tb := gx_ok (List.mem_of_getElem? (i := 1815) (by decide +kernel)) (by decide +kernel)
theorem gw_1816 : (Jvm.Cond.sameMethod "Grammarsmith$Chart" "Grammarsmith$Chart" "refine" "(II)Z") ∈ gx_tb := gx_ok (List.mem_of_getElem? (i := 1816) (by decide +kernel)) (by decide +kernel)
theorem gw_1817 : (Jvm.Cond.sameMethod "Grammarsmith$Chart" "Grammarsmith$Chart" "ofProduction" "(III)I") ∈ gx_tb := gx_ok (List.mem_of_getElem? (i := 1817) (by decide +kernel)) (by decide +kernel)
theorem gw_1818 : (Jvm.Cond.sameMethod "Grammarsmith$Chart" "Grammarsmith$Chart" "setPart" "(IIII)V") ∈ gx_tb := gx_ok (List.mem_of_getElem? (i := 1818) (by decide +kernel)) (by decide +kernel)
theorem gw_1819 : (Jvm.Cond.sameMethod "Grammarsmith$Chart" "Grammarsmith$Chart" "part" "(III)I") ∈ gx_tb := gx_ok (List.mem_of_getElem? (i := 1819) (by decide +kernel)) (by decide +kernel)
theorem gw_1820 : (Jvm.Cond.sameMethod "Grammarsmith$Chart" "Grammarsmith$Chart" "whole" "(III)I") ∈ gx_tb := gx_ok (List.mem_of_getElem? (i := 1820) (by decide +kernel)) (by decide +kernel)
theorem gw_188 : (Jvm.Cond.arrayClass Jvm.ClassFile.FieldType.boolean) ∈ gx_tb := gx_ok (List.mem_of_getElem? (i := 188) (by decide +kernel)) (by decide +kernel)
theorem gw_189 : (Jvm.Cond.classLink "Grammarsmith" (63 : Nat) "Grammarsmith$PredictiveTable") ∈ gx_tb := gx_ok (List.mem_of_getElem? (i := 189) (by decide +kernel)) (by decide +kernel)
theorem gw_190 : (Jvm.Cond.instantiable "Grammarsmith$PredictiveTable" (7 : Nat)) ∈ gx_tb := gx_ok (List.mem_of_getElem? (i := 190) (by decide +kernel)) (by decide +kernel)
theorem gw_191 : (Jvm.Cond.methodLink "Grammarsmith" (65 : Nat) ({ cls := "Grammarsmith$PredictiveTable", name := "<init>", desc := "(LGrammarsmith$Facts;[I)V" } : Jvm.MethodName)) ∈ gx_tb := gx_ok (List.mem_of_getElem? (i := 191) (by decide +kernel)) (by decide +kernel)
theorem gw_192 : (Jvm.Cond.instanceMethod ({ cls := "Grammarsmith$PredictiveTable", name := "<init>", desc := "(LGrammarsmith$Facts;[I)V" } : Jvm.MethodName)) ∈ gx_tb := gx_ok (List.mem_of_getElem? (i := 192) (by decide +kernel)) (by decide +kernel)
theorem gw_195 : (Jvm.Cond.instanceMethod ({ cls := "Grammarsmith$Table", name := "<init>", desc := "()V" } : Jvm.MethodName)) ∈ gx_tb := gx_ok (List.mem_of_getElem? (i := 195) (by decide +kernel)) (by decide +kernel)
theorem gw_197 : (Jvm.Cond.methodLink "Grammarsmith$Table" (1 : Nat) ({ cls := "java/lang/Object", name := "<init>", desc := "()V" } : Jvm.MethodName)) ∈ gx_tb := gx_ok (List.mem_of_getElem? (i := 197) (by decide +kernel)) (by decide +kernel)
theorem gw_198 : (Jvm.Cond.fieldLink "Grammarsmith$PredictiveTable" (18 : Nat) "Grammarsmith$PredictiveTable" "facts" "LGrammarsmith$Facts;") ∈ gx_tb := gx_ok (List.mem_of_getElem? (i := 198) (by decide +kernel)) (by decide +kernel)
theorem gw_199 : (Jvm.Cond.fieldLink "Grammarsmith$PredictiveTable" (22 : Nat) "Grammarsmith$PredictiveTable" "sentence" "[I") ∈ gx_tb := gx_ok (List.mem_of_getElem? (i := 199) (by decide +kernel)) (by decide +kernel)
theorem gw_2 : (Jvm.Cond.initialized "Grammarsmith$RuleText") ∈ gx_tb := gx_ok (List.mem_of_getElem? (i := 2) (by decide +kernel)) (by decide +kernel)
theorem gw_200 : (Jvm.Cond.fieldLink "Grammarsmith$PredictiveTable" (9 : Nat) "Grammarsmith$PredictiveTable" "stack" "[I") ∈ gx_tb := gx_ok (List.mem_of_getElem? (i := 200) (by decide +kernel)) (by decide +kernel)
theorem gw_201 : (Jvm.Cond.fieldLink "Grammarsmith$PredictiveTable" (29 : Nat) "Grammarsmith$PredictiveTable" "height" "I") ∈ gx_tb := gx_ok (List.mem_of_getElem? (i := 201) (by decide +kernel)) (by decide +kernel)
theorem gw_202 : (Jvm.Cond.fieldLink "Grammarsmith$PredictiveTable" (15 : Nat) "Grammarsmith$PredictiveTable" "applied" "[I") ∈ gx_tb := gx_ok (List.mem_of_getElem? (i := 202) (by decide +kernel)) (by decide +kernel)
theorem gw_203 : (Jvm.Cond.fieldLink "Grammarsmith$PredictiveTable" (33 : Nat) "Grammarsmith$PredictiveTable" "applications" "I") ∈ gx_tb := gx_ok (List.mem_of_getElem? (i := 203) (by decide +kernel)) (by decide +kernel)
theorem gw_204 : (Jvm.Cond.fieldLink "Grammarsmith$Table" (7 : Nat) "Grammarsmith$Table" "worth" "I") ∈ gx_tb := gx_ok (List.mem_of_getElem? (i := 204) (by decide +kernel)) (by decide +kernel)
theorem gw_21 : (Jvm.Cond.initialized "java/lang/Math") ∈ gx_tb := gx_ok (List.mem_of_getElem? (i := 21) (by decide +kernel)) (by decide +kernel)
theorem gw_22 : (Jvm.Cond.classLink "GrammarsmithLaw" (8 : Nat) "Grammarsmith") ∈ gx_tb := gx_ok (List.mem_of_getElem? (i := 22) (by decide +kernel)) (by decide +kernel)
theorem gw_220 : (Jvm.Cond.classLink "Grammarsmith" (72 : Nat) "Grammarsmith$StateTable") ∈ gx_tb := gx_ok (List.mem_of_getElem? (i := 220) (by decide +kernel)) (by decide +kernel)
theorem gw_221 : (Jvm.Cond.instantiable "Grammarsmith$StateTable" (13 : Nat)) ∈ gx_tb := gx_ok (List.mem_of_getElem? (i := 221) (by decide +kernel)) (by decide +kernel)
theorem gw_222 : (Jvm.Cond.methodLink "Grammarsmith" (74 : Nat) ({ cls := "Grammarsmith$StateTable", name := "<init>", desc := "(LGrammarsmith$Automaton;Z[I[I[I)V" } : Jvm.MethodName)) ∈ gx_tb := gx_ok (List.mem_of_getElem? (i := 222) (by decide +kernel)) (by decide +kernel)
theorem gw_223 : (Jvm.Cond.instanceMethod ({ cls := "Grammarsmith$StateTable", name := "<init>", desc := "(LGrammarsmith$Automaton;Z[I[I[I)V" } : Jvm.MethodName)) ∈ gx_tb := gx_ok (List.mem_of_getElem? (i := 223) (by decide +kernel)) (by decide +kernel)
theorem gw_226 : (Jvm.Cond.fieldLink "Grammarsmith$StateTable" (18 : Nat) "Grammarsmith$StateTable" "automaton" "LGrammarsmith$Automaton;") ∈ gx_tb := gx_ok (List.mem_of_getElem? (i := 226) (by decide +kernel)) (by decide +kernel)
theorem gw_227 : (Jvm.Cond.fieldLink "Grammarsmith$StateTable" (22 : Nat) "Grammarsmith$StateTable" "looksBehindLefts" "Z") ∈ gx_tb := gx_ok (List.mem_of_getElem? (i := 227) (by decide +kernel)) (by decide +kernel)
theorem gw_228 : (Jvm.Cond.fieldLink "Grammarsmith$StateTable" (26 : Nat) "Grammarsmith$StateTable" "levels" "[I") ∈ gx_tb := gx_ok (List.mem_of_getElem? (i := 228) (by decide +kernel)) (by decide +kernel)
theorem gw_229 : (Jvm.Cond.fieldLink "Grammarsmith$StateTable" (29 : Nat) "Grammarsmith$StateTable" "sides" "[I") ∈ gx_tb := gx_ok (List.mem_of_getElem? (i := 229) (by decide +kernel)) (by decide +kernel)
theorem gw_23 : (Jvm.Cond.instantiable "Grammarsmith" (17 : Nat)) ∈ gx_tb := gx_ok (List.mem_of_getElem? (i := 23) (by decide +kernel)) (by decide +kernel)
theorem gw_230 : (Jvm.Cond.fieldLink "Grammarsmith$StateTable" (32 : Nat) "Grammarsmith$StateTable" "sentence" "[I") ∈ gx_tb := gx_ok (List.mem_of_getElem? (i := 230) (by decide +kernel)) (by decide +kernel)
theorem gw_231 : (Jvm.Cond.fieldLink "Grammarsmith$StateTable" (101 : Nat) "Grammarsmith$StateTable" "shifts" "Z") ∈ gx_tb := gx_ok (List.mem_of_getElem? (i := 231) (by decide +kernel)) (by decide +kernel)
theorem gw_232 : (Jvm.Cond.fieldLink "Grammarsmith$StateTable" (111 : Nat) "Grammarsmith$StateTable" "accepts" "Z") ∈ gx_tb := gx_ok (List.mem_of_getElem? (i := 232) (by decide +kernel)) (by decide +kernel)
theorem gw_233 : (Jvm.Cond.fieldLink "Grammarsmith$StateTable" (114 : Nat) "Grammarsmith$StateTable" "reductions" "I") ∈ gx_tb := gx_ok (List.mem_of_getElem? (i := 233) (by decide +kernel)) (by decide +kernel)
theorem gw_234 : (Jvm.Cond.fieldLink "Grammarsmith$StateTable" (117 : Nat) "Grammarsmith$StateTable" "lowest" "I") ∈ gx_tb := gx_ok (List.mem_of_getElem? (i := 234) (by decide +kernel)) (by decide +kernel)
theorem gw_235 : (Jvm.Cond.fieldLink "Grammarsmith$StateTable" (9 : Nat) "Grammarsmith$StateTable" "stack" "[I") ∈ gx_tb := gx_ok (List.mem_of_getElem? (i := 235) (by decide +kernel)) (by decide +kernel)
theorem gw_236 : (Jvm.Cond.fieldLink "Grammarsmith$StateTable" (15 : Nat) "Grammarsmith$StateTable" "worths" "[I") ∈ gx_tb := gx_ok (List.mem_of_getElem? (i := 236) (by decide +kernel)) (by decide +kernel)
theorem gw_237 : (Jvm.Cond.fieldLink "Grammarsmith$StateTable" (45 : Nat) "Grammarsmith$StateTable" "height" "I") ∈ gx_tb := gx_ok (List.mem_of_getElem? (i := 237) (by decide +kernel)) (by decide +kernel)
theorem gw_24 : (Jvm.Cond.methodLink "GrammarsmithLaw" (90 : Nat) ({ cls := "Grammarsmith", name := "<init>", desc := "()V" } : Jvm.MethodName)) ∈ gx_tb := gx_ok (List.mem_of_getElem? (i := 24) (by decide +kernel)) (by decide +kernel)
theorem gw_25 : (Jvm.Cond.instanceMethod ({ cls := "Grammarsmith", name := "<init>", desc := "()V" } : Jvm.MethodName)) ∈ gx_tb := gx_ok (List.mem_of_getElem? (i := 25) (by decide +kernel)) (by decide +kernel)
theorem gw_264 : (Jvm.Cond.classLink "Grammarsmith" (86 : Nat) "Grammarsmith$CountingChart") ∈ gx_tb := gx_ok (List.mem_of_getElem? (i := 264) (by decide +kernel)) (by decide +kernel)
theorem gw_265 : (Jvm.Cond.instantiable "Grammarsmith$CountingChart" (5 : Nat)) ∈ gx_tb := gx_ok (List.mem_of_getElem? (i := 265) (by decide +kernel)) (by decide +kernel)
theorem gw_266 : (Jvm.Cond.methodLink "Grammarsmith" (88 : Nat) ({ cls := "Grammarsmith$CountingChart", name := "<init>", desc := "(LGrammarsmith$Facts;[I[I[I)V" } : Jvm.MethodName)) ∈ gx_tb := gx_ok (List.mem_of_getElem? (i := 266) (by decide +kernel)) (by decide +kernel)
theorem gw_267 : (Jvm.Cond.instanceMethod ({ cls := "Grammarsmith$CountingChart", name := "<init>", desc := "(LGrammarsmith$Facts;[I[I[I)V" } : Jvm.MethodName)) ∈ gx_tb := gx_ok (List.mem_of_getElem? (i := 267) (by decide +kernel)) (by decide +kernel)
theorem gw_269 : (Jvm.Cond.methodLink "Grammarsmith$CountingChart" (3 : Nat) ({ cls := "Grammarsmith$Chart", name := "<init>", desc := "(LGrammarsmith$Facts;[I[I[I)V" } : Jvm.MethodName)) ∈ gx_tb := gx_ok (List.mem_of_getElem? (i := 269) (by decide +kernel)) (by decide +kernel)
theorem gw_27 : (Jvm.Cond.methodLink "Grammarsmith" (3 : Nat) ({ cls := "java/lang/Object", name := "<init>", desc := "()V" } : Jvm.MethodName)) ∈ gx_tb := gx_ok (List.mem_of_getElem? (i := 27) (by decide +kernel)) (by decide +kernel)
theorem gw_270 : (Jvm.Cond.instanceMethod ({ cls := "Grammarsmith$Chart", name := "<init>", desc := "(LGrammarsmith$Facts;[I[I[I)V" } : Jvm.MethodName)) ∈ gx_tb := gx_ok (List.mem_of_getElem? (i := 270) (by decide +kernel)) (by decide +kernel)
theorem gw_272 : (Jvm.Cond.methodLink "Grammarsmith$Chart" (3 : Nat) ({ cls := "java/lang/Object", name := "<init>", desc := "()V" } : Jvm.MethodName)) ∈ gx_tb := gx_ok (List.mem_of_getElem? (i := 272) (by decide +kernel)) (by decide +kernel)
theorem gw_273 : (Jvm.Cond.fieldLink "Grammarsmith$Chart" (15 : Nat) "Grammarsmith$Chart" "facts" "LGrammarsmith$Facts;") ∈ gx_tb := gx_ok (List.mem_of_getElem? (i := 273) (by decide +kernel)) (by decide +kernel)
theorem gw_274 : (Jvm.Cond.fieldLink "Grammarsmith$Chart" (19 : Nat) "Grammarsmith$Chart" "sentence" "[I") ∈ gx_tb := gx_ok (List.mem_of_getElem? (i := 274) (by decide +kernel)) (by decide +kernel)
theorem gw_275 : (Jvm.Cond.fieldLink "Grammarsmith$Chart" (22 : Nat) "Grammarsmith$Chart" "wholes" "[I") ∈ gx_tb := gx_ok (List.mem_of_getElem? (i := 275) (by decide +kernel)) (by decide +kernel)
theorem gw_276 : (Jvm.Cond.fieldLink "Grammarsmith$Chart" (25 : Nat) "Grammarsmith$Chart" "parts" "[I") ∈ gx_tb := gx_ok (List.mem_of_getElem? (i := 276) (by decide +kernel)) (by decide +kernel)
theorem gw_277 : (Jvm.Cond.fieldLink "Grammarsmith$Chart" (9 : Nat) "Grammarsmith$Chart" "sums" "[I") ∈ gx_tb := gx_ok (List.mem_of_getElem? (i := 277) (by decide +kernel)) (by decide +kernel)
theorem gw_28 : (Jvm.Cond.instanceMethod ({ cls := "java/lang/Object", name := "<init>", desc := "()V" } : Jvm.MethodName)) ∈ gx_tb := gx_ok (List.mem_of_getElem? (i := 28) (by decide +kernel)) (by decide +kernel)
theorem gw_289 : (Jvm.Cond.classLink "Grammarsmith" (95 : Nat) "Grammarsmith$RepairingChart") ∈ gx_tb := gx_ok (List.mem_of_getElem? (i := 289) (by decide +kernel)) (by decide +kernel)
theorem gw_29 : (Jvm.Cond.code ({ cls := "java/lang/Object", name := "<init>", desc := "()V" } : Jvm.MethodName) object_method_1_code (1 : Nat) (Option.none : Option Jvm.ClassFile.FieldType)) ∈ gx_tb := gx_ok (List.mem_of_getElem? (i := 29) (by decide +kernel)) (by decide +kernel)
theorem gw_290 : (Jvm.Cond.instantiable "Grammarsmith$RepairingChart" (5 : Nat)) ∈ gx_tb := gx_ok (List.mem_of_getElem? (i := 290) (by decide +kernel)) (by decide +kernel)
theorem gw_291 : (Jvm.Cond.methodLink "Grammarsmith" (97 : Nat) ({ cls := "Grammarsmith$RepairingChart", name := "<init>", desc := "(LGrammarsmith$Facts;[I[I[I)V" } : Jvm.MethodName)) ∈ gx_tb := gx_ok (List.mem_of_getElem? (i := 291) (by decide +kernel)) (by decide +kernel)
theorem gw_292 : (Jvm.Cond.instanceMethod ({ cls := "Grammarsmith$RepairingChart", name := "<init>", desc := "(LGrammarsmith$Facts;[I[I[I)V" } : Jvm.MethodName)) ∈ gx_tb := gx_ok (List.mem_of_getElem? (i := 292) (by decide +kernel)) (by decide +kernel)
theorem gw_294 : (Jvm.Cond.methodLink "Grammarsmith$RepairingChart" (3 : Nat) ({ cls := "Grammarsmith$Chart", name := "<init>", desc := "(LGrammarsmith$Facts;[I[I[I)V" } : Jvm.MethodName)) ∈ gx_tb := gx_ok (List.mem_of_getElem? (i := 294) (by decide +kernel)) (by decide +kernel)
theorem gw_3 : (Jvm.Cond.initialized "Grammarsmith$Grammar") ∈ gx_tb := gx_ok (List.mem_of_getElem? (i := 3) (by decide +kernel)) (by decide +kernel)
theorem gw_30 : (Jvm.Cond.classLink "Grammarsmith" (9 : Nat) "Grammarsmith$RuleText") ∈ gx_tb := gx_ok (List.mem_of_getElem? (i := 30) (by decide +kernel)) (by decide +kernel)
theorem gw_301 : (Jvm.Cond.fieldLink "Grammarsmith" (12 : Nat) "Grammarsmith" "text" "LGrammarsmith$RuleText;") ∈ gx_tb := gx_ok (List.mem_of_getElem? (i := 301) (by decide +kernel)) (by decide +kernel)
theorem gw_302 : (Jvm.Cond.fieldLink "Grammarsmith" (35 : Nat) "Grammarsmith" "inUse" "LGrammarsmith$Grammar;") ∈ gx_tb := gx_ok (List.mem_of_getElem? (i := 302) (by decide +kernel)) (by decide +kernel)
theorem gw_303 : (Jvm.Cond.fieldLink "Grammarsmith" (39 : Nat) "Grammarsmith" "other" "LGrammarsmith$Grammar;") ∈ gx_tb := gx_ok (List.mem_of_getElem? (i := 303) (by decide +kernel)) (by decide +kernel)
theorem gw_304 : (Jvm.Cond.fieldLink "Grammarsmith" (156 : Nat) "Grammarsmith" "numberInUse" "I") ∈ gx_tb := gx_ok (List.mem_of_getElem? (i := 304) (by decide +kernel)) (by decide +kernel)
theorem gw_305 : (Jvm.Cond.fieldLink "Grammarsmith" (42 : Nat) "Grammarsmith" "levels" "[I") ∈ gx_tb := gx_ok (List.mem_of_getElem? (i := 305) (by decide +kernel)) (by decide +kernel)
theorem gw_306 : (Jvm.Cond.fieldLink "Grammarsmith" (46 : Nat) "Grammarsmith" "sides" "[I") ∈ gx_tb := gx_ok (List.mem_of_getElem? (i := 306) (by decide +kernel)) (by decide +kernel)
theorem gw_307 : (Jvm.Cond.fieldLink "Grammarsmith" (49 : Nat) "Grammarsmith" "sentence" "[I") ∈ gx_tb := gx_ok (List.mem_of_getElem? (i := 307) (by decide +kernel)) (by decide +kernel)
theorem gw_308 : (Jvm.Cond.fieldLink "Grammarsmith" (252 : Nat) "Grammarsmith" "sentenceLength" "I") ∈ gx_tb := gx_ok (List.mem_of_getElem? (i := 308) (by decide +kernel)) (by decide +kernel)
theorem gw_309 : (Jvm.Cond.fieldLink "Grammarsmith" (52 : Nat) "Grammarsmith" "facts" "LGrammarsmith$Facts;") ∈ gx_tb := gx_ok (List.mem_of_getElem? (i := 309) (by decide +kernel)) (by decide +kernel)
theorem gw_31 : (Jvm.Cond.instantiable "Grammarsmith$RuleText" (2 : Nat)) ∈ gx_tb := gx_ok (List.mem_of_getElem? (i := 31) (by decide +kernel)) (by decide +kernel)
theorem gw_310 : (Jvm.Cond.fieldLink "Grammarsmith" (56 : Nat) "Grammarsmith" "mergedStates" "LGrammarsmith$Automaton;") ∈ gx_tb := gx_ok (List.mem_of_getElem? (i := 310) (by decide +kernel)) (by decide +kernel)
theorem gw_311 : (Jvm.Cond.fieldLink "Grammarsmith" (60 : Nat) "Grammarsmith" "wholeStates" "LGrammarsmith$Automaton;") ∈ gx_tb := gx_ok (List.mem_of_getElem? (i := 311) (by decide +kernel)) (by decide +kernel)
theorem gw_312 : (Jvm.Cond.fieldLink "Grammarsmith" (68 : Nat) "Grammarsmith" "predictive" "LGrammarsmith$Table;") ∈ gx_tb := gx_ok (List.mem_of_getElem? (i := 312) (by decide +kernel)) (by decide +kernel)
theorem gw_313 : (Jvm.Cond.fieldLink "Grammarsmith" (77 : Nat) "Grammarsmith" "simple" "LGrammarsmith$Table;") ∈ gx_tb := gx_ok (List.mem_of_getElem? (i := 313) (by decide +kernel)) (by decide +kernel)
theorem gw_314 : (Jvm.Cond.fieldLink "Grammarsmith" (80 : Nat) "Grammarsmith" "merged" "LGrammarsmith$Table;") ∈ gx_tb := gx_ok (List.mem_of_getElem? (i := 314) (by decide +kernel)) (by decide +kernel)
theorem gw_315 : (Jvm.Cond.fieldLink "Grammarsmith" (83 : Nat) "Grammarsmith" "whole" "LGrammarsmith$Table;") ∈ gx_tb := gx_ok (List.mem_of_getElem? (i := 315) (by decide +kernel)) (by decide +kernel)
theorem gw_316 : (Jvm.Cond.fieldLink "Grammarsmith" (91 : Nat) "Grammarsmith" "counting" "LGrammarsmith$Chart;") ∈ gx_tb := gx_ok (List.mem_of_getElem? (i := 316) (by decide +kernel)) (by decide +kernel)
theorem gw_317 : (Jvm.Cond.fieldLink "Grammarsmith" (98 : Nat) "Grammarsmith" "repairing" "LGrammarsmith$Chart;") ∈ gx_tb := gx_ok (List.mem_of_getElem? (i := 317) (by decide +kernel)) (by decide +kernel)
theorem gw_33 : (Jvm.Cond.instanceMethod ({ cls := "Grammarsmith$RuleText", name := "<init>", desc := "()V" } : Jvm.MethodName)) ∈ gx_tb := gx_ok (List.mem_of_getElem? (i := 33) (by decide +kernel)) (by decide +kernel)
theorem gw_35 : (Jvm.Cond.methodLink "Grammarsmith$RuleText" (3 : Nat) ({ cls := "java/lang/Object", name := "<init>", desc := "()V" } : Jvm.MethodName)) ∈ gx_tb := gx_ok (List.mem_of_getElem? (i := 35) (by decide +kernel)) (by decide +kernel)
theorem gw_353 : (Jvm.Cond.methodLink "GrammarsmithLaw" (103 : Nat) ({ cls := "Grammarsmith", name := "wipe", desc := "()I" } : Jvm.MethodName)) ∈ gx_tb := gx_ok (List.mem_of_getElem? (i := 353) (by decide +kernel)) (by decide +kernel)
theorem gw_354 : (Jvm.Cond.instanceMethod ({ cls := "Grammarsmith", name := "wipe", desc := "()I" } : Jvm.MethodName)) ∈ gx_tb := gx_ok (List.mem_of_getElem? (i := 354) (by decide +kernel)) (by decide +kernel)
theorem gw_355 : (Jvm.Cond.selects "Grammarsmith" ({ cls := "Grammarsmith", name := "wipe", desc := "()I" } : Jvm.MethodName) ({ cls := "Grammarsmith", name := "wipe", desc := "()I" } : Jvm.MethodName)) ∈ gx_tb := gx_ok (List.mem_of_getElem? (i := 355) (by decide +kernel)) (by decide +kernel)
theorem gw_357 : (Jvm.Cond.methodLink "Grammarsmith" (125 : Nat) ({ cls := "Grammarsmith$RuleText", name := "clear", desc := "()I" } : Jvm.MethodName)) ∈ gx_tb := gx_ok (List.mem_of_getElem? (i := 357) (by decide +kernel)) (by decide +kernel)
theorem gw_358 : (Jvm.Cond.instanceMethod ({ cls := "Grammarsmith$RuleText", name := "clear", desc := "()I" } : Jvm.MethodName)) ∈ gx_tb := gx_ok (List.mem_of_getElem? (i := 358) (by decide +kernel)) (by decide +kernel)
theorem gw_359 : (Jvm.Cond.selects "Grammarsmith$RuleText" ({ cls := "Grammarsmith$RuleText", name := "clear", desc := "()I" } : Jvm.MethodName) ({ cls := "Grammarsmith$RuleText", name := "clear", desc := "()I" } : Jvm.MethodName)) ∈ gx_tb := gx_ok (List.mem_of_getElem? (i := 359) (by decide +kernel)) (by decide +kernel)
theorem gw_36 : (Jvm.Cond.fieldLink "Grammarsmith$RuleText" (9 : Nat) "Grammarsmith$RuleText" "letters" "[C") ∈ gx_tb := gx_ok (List.mem_of_getElem? (i := 36) (by decide +kernel)) (by decide +kernel)
theorem gw_361 : (Jvm.Cond.methodLink "GrammarsmithLaw" (107 : Nat) ({ cls := "Grammarsmith", name := "fault", desc := "()I" } : Jvm.MethodName)) ∈ gx_tb := gx_ok (List.mem_of_getElem? (i := 361) (by decide +kernel)) (by decide +kernel)
theorem gw_362 : (Jvm.Cond.instanceMethod ({ cls := "Grammarsmith", name := "fault", desc := "()I" } : Jvm.MethodName)) ∈ gx_tb := gx_ok (List.mem_of_getElem? (i := 362) (by decide +kernel)) (by decide +kernel)
theorem gw_363 : (Jvm.Cond.selects "Grammarsmith" ({ cls := "Grammarsmith", name := "fault", desc := "()I" } : Jvm.MethodName) ({ cls := "Grammarsmith", name := "fault", desc := "()I" } : Jvm.MethodName)) ∈ gx_tb := gx_ok (List.mem_of_getElem? (i := 363) (by decide +kernel)) (by decide +kernel)
theorem gw_365 : (Jvm.Cond.methodLink "Grammarsmith" (129 : Nat) ({ cls := "Grammarsmith$RuleText", name := "firstFault", desc := "()I" } : Jvm.MethodName)) ∈ gx_tb := gx_ok (List.mem_of_getElem? (i := 365) (by decide +kernel)) (by decide +kernel)
theorem gw_366 : (Jvm.Cond.instanceMethod ({ cls := "Grammarsmith$RuleText", name := "firstFault", desc := "()I" } : Jvm.MethodName)) ∈ gx_tb := gx_ok (List.mem_of_getElem? (i := 366) (by decide +kernel)) (by decide +kernel)
theorem gw_367 : (Jvm.Cond.selects "Grammarsmith$RuleText" ({ cls := "Grammarsmith$RuleText", name := "firstFault", desc := "()I" } : Jvm.MethodName) ({ cls := "Grammarsmith$RuleText", name := "firstFault", desc := "()I" } : Jvm.MethodName)) ∈ gx_tb := gx_ok (List.mem_of_getElem? (i := 367) (by decide +kernel)) (by decide +kernel)
theorem gw_369 : (Jvm.Cond.methodLink "Grammarsmith$RuleText" (19 : Nat) ({ cls := "Grammarsmith$RuleText", name := "letter", desc := "(I)C" } : Jvm.MethodName)) ∈ gx_tb := gx_ok (List.mem_of_getElem? (i := 369) (by decide +kernel)) (by decide +kernel)
theorem gw_37 : (Jvm.Cond.fieldLink "Grammarsmith$RuleText" (15 : Nat) "Grammarsmith$RuleText" "length" "I") ∈ gx_tb := gx_ok (List.mem_of_getElem? (i := 37) (by decide +kernel)) (by decide +kernel)
theorem gw_370 : (Jvm.Cond.instanceMethod ({ cls := "Grammarsmith$RuleText", name := "letter", desc := "(I)C" } : Jvm.MethodName)) ∈ gx_tb := gx_ok (List.mem_of_getElem? (i := 370) (by decide +kernel)) (by decide +kernel)
theorem gw_371 : (Jvm.Cond.selects "Grammarsmith$RuleText" ({ cls := "Grammarsmith$RuleText", name := "letter", desc := "(I)C" } : Jvm.MethodName) ({ cls := "Grammarsmith$RuleText", name := "letter", desc := "(I)C" } : Jvm.MethodName)) ∈ gx_tb := gx_ok (List.mem_of_getElem? (i := 371) (by decide +kernel)) (by decide +kernel)
theorem gw_373 : (Jvm.Cond.methodLink "Grammarsmith$RuleText" (31 : Nat) ({ cls := "Grammarsmith$RuleText", name := "stateBehind", desc := "(ICI)I" } : Jvm.MethodName)) ∈ gx_tb := gx_ok (List.mem_of_getElem? (i := 373) (by decide +kernel)) (by decide +kernel)
theorem gw_374 : (Jvm.Cond.static ({ cls := "Grammarsmith$RuleText", name := "stateBehind", desc := "(ICI)I" } : Jvm.MethodName)) ∈ gx_tb := gx_ok (List.mem_of_getElem? (i := 374) (by decide +kernel)) (by decide +kernel)
theorem gw_377 : (Jvm.Cond.static ({ cls := "Grammarsmith", name := "isNonterminalLetter", desc := "(C)Z" } : Jvm.MethodName)) ∈ gx_tb := gx_ok (List.mem_of_getElem? (i := 377) (by decide +kernel)) (by decide +kernel)
theorem gw_380 : (Jvm.Cond.static ({ cls := "Grammarsmith", name := "isTerminalLetter", desc := "(C)Z" } : Jvm.MethodName)) ∈ gx_tb := gx_ok (List.mem_of_getElem? (i := 380) (by decide +kernel)) (by decide +kernel)
theorem gw_382 : (Jvm.Cond.methodLink "Grammarsmith$RuleText" (38 : Nat) ({ cls := "Grammarsmith$RuleText", name := "stateInChoice", desc := "(ICI)I" } : Jvm.MethodName)) ∈ gx_tb := gx_ok (List.mem_of_getElem? (i := 382) (by decide +kernel)) (by decide +kernel)
theorem gw_383 : (Jvm.Cond.static ({ cls := "Grammarsmith$RuleText", name := "stateInChoice", desc := "(ICI)I" } : Jvm.MethodName)) ∈ gx_tb := gx_ok (List.mem_of_getElem? (i := 383) (by decide +kernel)) (by decide +kernel)
theorem gw_386 : (Jvm.Cond.static ({ cls := "Grammarsmith", name := "isRepeat", desc := "(C)Z" } : Jvm.MethodName)) ∈ gx_tb := gx_ok (List.mem_of_getElem? (i := 386) (by decide +kernel)) (by decide +kernel)
theorem gw_388 : (Jvm.Cond.methodLink "GrammarsmithLaw" (132 : Nat) ({ cls := "Grammarsmith", name := "productions", desc := "()I" } : Jvm.MethodName)) ∈ gx_tb := gx_ok (List.mem_of_getElem? (i := 388) (by decide +kernel)) (by decide +kernel)
theorem gw_389 : (Jvm.Cond.instanceMethod ({ cls := "Grammarsmith", name := "productions", desc := "()I" } : Jvm.MethodName)) ∈ gx_tb := gx_ok (List.mem_of_getElem? (i := 389) (by decide +kernel)) (by decide +kernel)
theorem gw_390 : (Jvm.Cond.selects "Grammarsmith" ({ cls := "Grammarsmith", name := "productions", desc := "()I" } : Jvm.MethodName) ({ cls := "Grammarsmith", name := "productions", desc := "()I" } : Jvm.MethodName)) ∈ gx_tb := gx_ok (List.mem_of_getElem? (i := 390) (by decide +kernel)) (by decide +kernel)
theorem gw_392 : (Jvm.Cond.methodLink "Grammarsmith" (143 : Nat) ({ cls := "Grammarsmith$Grammar", name := "count", desc := "()I" } : Jvm.MethodName)) ∈ gx_tb := gx_ok (List.mem_of_getElem? (i := 392) (by decide +kernel)) (by decide +kernel)
theorem gw_393 : (Jvm.Cond.instanceMethod ({ cls := "Grammarsmith$Grammar", name := "count", desc := "()I" } : Jvm.MethodName)) ∈ gx_tb := gx_ok (List.mem_of_getElem? (i := 393) (by decide +kernel)) (by decide +kernel)
theorem gw_394 : (Jvm.Cond.selects "Grammarsmith$Grammar" ({ cls := "Grammarsmith$Grammar", name := "count", desc := "()I" } : Jvm.MethodName) ({ cls := "Grammarsmith$Grammar", name := "count", desc := "()I" } : Jvm.MethodName)) ∈ gx_tb := gx_ok (List.mem_of_getElem? (i := 394) (by decide +kernel)) (by decide +kernel)
theorem gw_396 : (Jvm.Cond.methodLink "GrammarsmithLaw" (173 : Nat) ({ cls := "Grammarsmith", name := "chosen", desc := "()I" } : Jvm.MethodName)) ∈ gx_tb := gx_ok (List.mem_of_getElem? (i := 396) (by decide +kernel)) (by decide +kernel)
theorem gw_397 : (Jvm.Cond.instanceMethod ({ cls := "Grammarsmith", name := "chosen", desc := "()I" } : Jvm.MethodName)) ∈ gx_tb := gx_ok (List.mem_of_getElem? (i := 397) (by decide +kernel)) (by decide +kernel)
theorem gw_398 : (Jvm.Cond.selects "Grammarsmith" ({ cls := "Grammarsmith", name := "chosen", desc := "()I" } : Jvm.MethodName) ({ cls := "Grammarsmith", name := "chosen", desc := "()I" } : Jvm.MethodName)) ∈ gx_tb := gx_ok (List.mem_of_getElem? (i := 398) (by decide +kernel)) (by decide +kernel)
theorem gw_4 : (Jvm.Cond.initialized "Grammarsmith$RuleReader") ∈ gx_tb := gx_ok (List.mem_of_getElem? (i := 4) (by decide +kernel)) (by decide +kernel)
theorem gw_400 : (Jvm.Cond.methodLink "Grammarsmith" (237 : Nat) ({ cls := "Grammarsmith", name := "table", desc := "(I)LGrammarsmith$Table;" } : Jvm.MethodName)) ∈ gx_tb := gx_ok (List.mem_of_getElem? (i := 400) (by decide +kernel)) (by decide +kernel)
theorem gw_402 : (Jvm.Cond.instanceMethod ({ cls := "Grammarsmith", name := "table", desc := "(I)LGrammarsmith$Table;" } : Jvm.MethodName)) ∈ gx_tb := gx_ok (List.mem_of_getElem? (i := 402) (by decide +kernel)) (by decide +kernel)
theorem gw_404 : (Jvm.Cond.methodLink "Grammarsmith" (203 : Nat) ({ cls := "Grammarsmith$Facts", name := "learn", desc := "()V" } : Jvm.MethodName)) ∈ gx_tb := gx_ok (List.mem_of_getElem? (i := 404) (by decide +kernel)) (by decide +kernel)
theorem gw_405 : (Jvm.Cond.instanceMethod ({ cls := "Grammarsmith$Facts", name := "learn", desc := "()V" } : Jvm.MethodName)) ∈ gx_tb := gx_ok (List.mem_of_getElem? (i := 405) (by decide +kernel)) (by decide +kernel)
theorem gw_406 : (Jvm.Cond.selects "Grammarsmith$Facts" ({ cls := "Grammarsmith$Facts", name := "learn", desc := "()V" } : Jvm.MethodName) ({ cls := "Grammarsmith$Facts", name := "learn", desc := "()V" } : Jvm.MethodName)) ∈ gx_tb := gx_ok (List.mem_of_getElem? (i := 406) (by decide +kernel)) (by decide +kernel)
theorem gw_408 : (Jvm.Cond.methodLink "Grammarsmith$Facts" (45 : Nat) ({ cls := "Grammarsmith$Facts", name := "findBeginnings", desc := "()V" } : Jvm.MethodName)) ∈ gx_tb := gx_ok (List.mem_of_getElem? (i := 408) (by decide +kernel)) (by decide +kernel)
theorem gw_410 : (Jvm.Cond.instanceMethod ({ cls := "Grammarsmith$Facts", name := "findBeginnings", desc := "()V" } : Jvm.MethodName)) ∈ gx_tb := gx_ok (List.mem_of_getElem? (i := 410) (by decide +kernel)) (by decide +kernel)
theorem gw_412 : (Jvm.Cond.methodLink "Grammarsmith$Facts" (105 : Nat) ({ cls := "java/util/Arrays", name := "fill", desc := "([II)V" } : Jvm.MethodName)) ∈ gx_tb := gx_ok (List.mem_of_getElem? (i := 412) (by decide +kernel)) (by decide +kernel)
theorem gw_413 : (Jvm.Cond.constant "Grammarsmith$Facts" (111 : Nat) (1000000 : Int32)) ∈ gx_tb := gx_ok (List.mem_of_getElem? (i := 413) (by decide +kernel)) (by decide +kernel)
theorem gw_414 : (Jvm.Cond.methodLink "Grammarsmith$Facts" (112 : Nat) ({ cls := "Grammarsmith$Grammar", name := "count", desc := "()I" } : Jvm.MethodName)) ∈ gx_tb := gx_ok (List.mem_of_getElem? (i := 414) (by decide +kernel)) (by decide +kernel)
theorem gw_415 : (Jvm.Cond.methodLink "Grammarsmith$Facts" (116 : Nat) ({ cls := "Grammarsmith$Grammar", name := "owner", desc := "(I)I" } : Jvm.MethodName)) ∈ gx_tb := gx_ok (List.mem_of_getElem? (i := 415) (by decide +kernel)) (by decide +kernel)
theorem gw_416 : (Jvm.Cond.instanceMethod ({ cls := "Grammarsmith$Grammar", name := "owner", desc := "(I)I" } : Jvm.MethodName)) ∈ gx_tb := gx_ok (List.mem_of_getElem? (i := 416) (by decide +kernel)) (by decide +kernel)
theorem gw_417 : (Jvm.Cond.selects "Grammarsmith$Grammar" ({ cls := "Grammarsmith$Grammar", name := "owner", desc := "(I)I" } : Jvm.MethodName) ({ cls := "Grammarsmith$Grammar", name := "owner", desc := "(I)I" } : Jvm.MethodName)) ∈ gx_tb := gx_ok (List.mem_of_getElem? (i := 417) (by decide +kernel)) (by decide +kernel)
theorem gw_419 : (Jvm.Cond.methodLink "Grammarsmith$Facts" (119 : Nat) ({ cls := "Grammarsmith$Facts", name := "beginnings", desc := "(II)I" } : Jvm.MethodName)) ∈ gx_tb := gx_ok (List.mem_of_getElem? (i := 419) (by decide +kernel)) (by decide +kernel)
theorem gw_421 : (Jvm.Cond.instanceMethod ({ cls := "Grammarsmith$Facts", name := "beginnings", desc := "(II)I" } : Jvm.MethodName)) ∈ gx_tb := gx_ok (List.mem_of_getElem? (i := 421) (by decide +kernel)) (by decide +kernel)
theorem gw_423 : (Jvm.Cond.methodLink "Grammarsmith$Facts" (96 : Nat) ({ cls := "Grammarsmith$Grammar", name := "length", desc := "(I)I" } : Jvm.MethodName)) ∈ gx_tb := gx_ok (List.mem_of_getElem? (i := 423) (by decide +kernel)) (by decide +kernel)
theorem gw_424 : (Jvm.Cond.instanceMethod ({ cls := "Grammarsmith$Grammar", name := "length", desc := "(I)I" } : Jvm.MethodName)) ∈ gx_tb := gx_ok (List.mem_of_getElem? (i := 424) (by decide +kernel)) (by decide +kernel)
theorem gw_425 : (Jvm.Cond.selects "Grammarsmith$Grammar" ({ cls := "Grammarsmith$Grammar", name := "length", desc := "(I)I" } : Jvm.MethodName) ({ cls := "Grammarsmith$Grammar", name := "length", desc := "(I)I" } : Jvm.MethodName)) ∈ gx_tb := gx_ok (List.mem_of_getElem? (i := 425) (by decide +kernel)) (by decide +kernel)
theorem gw_427 : (Jvm.Cond.methodLink "Grammarsmith$Facts" (101 : Nat) ({ cls := "Grammarsmith$Grammar", name := "symbol", desc := "(II)I" } : Jvm.MethodName)) ∈ gx_tb := gx_ok (List.mem_of_getElem? (i := 427) (by decide +kernel)) (by decide +kernel)
theorem gw_428 : (Jvm.Cond.instanceMethod ({ cls := "Grammarsmith$Grammar", name := "symbol", desc := "(II)I" } : Jvm.MethodName)) ∈ gx_tb := gx_ok (List.mem_of_getElem? (i := 428) (by decide +kernel)) (by decide +kernel)
theorem gw_429 : (Jvm.Cond.selects "Grammarsmith$Grammar" ({ cls := "Grammarsmith$Grammar", name := "symbol", desc := "(II)I" } : Jvm.MethodName) ({ cls := "Grammarsmith$Grammar", name := "symbol", desc := "(II)I" } : Jvm.MethodName)) ∈ gx_tb := gx_ok (List.mem_of_getElem? (i := 429) (by decide +kernel)) (by decide +kernel)
theorem gw_43 : (Jvm.Cond.arrayClass Jvm.ClassFile.FieldType.char) ∈ gx_tb := gx_ok (List.mem_of_getElem? (i := 43) (by decide +kernel)) (by decide +kernel)
theorem gw_431 : (Jvm.Cond.methodLink "Grammarsmith$Facts" (72 : Nat) ({ cls := "Grammarsmith$Facts", name := "beginOf", desc := "(I)I" } : Jvm.MethodName)) ∈ gx_tb := gx_ok (List.mem_of_getElem? (i := 431) (by decide +kernel)) (by decide +kernel)
theorem gw_433 : (Jvm.Cond.instanceMethod ({ cls := "Grammarsmith$Facts", name := "beginOf", desc := "(I)I" } : Jvm.MethodName)) ∈ gx_tb := gx_ok (List.mem_of_getElem? (i := 433) (by decide +kernel)) (by decide +kernel)
theorem gw_435 : (Jvm.Cond.methodLink "Grammarsmith$Facts" (122 : Nat) ({ cls := "Grammarsmith$Facts", name := "widen", desc := "([III)Z" } : Jvm.MethodName)) ∈ gx_tb := gx_ok (List.mem_of_getElem? (i := 435) (by decide +kernel)) (by decide +kernel)
theorem gw_436 : (Jvm.Cond.static ({ cls := "Grammarsmith$Facts", name := "widen", desc := "([III)Z" } : Jvm.MethodName)) ∈ gx_tb := gx_ok (List.mem_of_getElem? (i := 436) (by decide +kernel)) (by decide +kernel)
theorem gw_438 : (Jvm.Cond.methodLink "Grammarsmith$Facts" (48 : Nat) ({ cls := "Grammarsmith$Facts", name := "findBehinds", desc := "()V" } : Jvm.MethodName)) ∈ gx_tb := gx_ok (List.mem_of_getElem? (i := 438) (by decide +kernel)) (by decide +kernel)
theorem gw_44 : (Jvm.Cond.classLink "Grammarsmith" (16 : Nat) "Grammarsmith$Grammar") ∈ gx_tb := gx_ok (List.mem_of_getElem? (i := 44) (by decide +kernel)) (by decide +kernel)
theorem gw_440 : (Jvm.Cond.instanceMethod ({ cls := "Grammarsmith$Facts", name := "findBehinds", desc := "()V" } : Jvm.MethodName)) ∈ gx_tb := gx_ok (List.mem_of_getElem? (i := 440) (by decide +kernel)) (by decide +kernel)
theorem gw_442 : (Jvm.Cond.methodLink "Grammarsmith$Facts" (126 : Nat) ({ cls := "Grammarsmith$Grammar", name := "top", desc := "()I" } : Jvm.MethodName)) ∈ gx_tb := gx_ok (List.mem_of_getElem? (i := 442) (by decide +kernel)) (by decide +kernel)
theorem gw_443 : (Jvm.Cond.instanceMethod ({ cls := "Grammarsmith$Grammar", name := "top", desc := "()I" } : Jvm.MethodName)) ∈ gx_tb := gx_ok (List.mem_of_getElem? (i := 443) (by decide +kernel)) (by decide +kernel)
theorem gw_444 : (Jvm.Cond.selects "Grammarsmith$Grammar" ({ cls := "Grammarsmith$Grammar", name := "top", desc := "()I" } : Jvm.MethodName) ({ cls := "Grammarsmith$Grammar", name := "top", desc := "()I" } : Jvm.MethodName)) ∈ gx_tb := gx_ok (List.mem_of_getElem? (i := 444) (by decide +kernel)) (by decide +kernel)
theorem gw_446 : (Jvm.Cond.methodLink "Grammarsmith$Facts" (129 : Nat) ({ cls := "Grammarsmith$Facts", name := "widenBehinds", desc := "(I)Z" } : Jvm.MethodName)) ∈ gx_tb := gx_ok (List.mem_of_getElem? (i := 446) (by decide +kernel)) (by decide +kernel)
theorem gw_448 : (Jvm.Cond.instanceMethod ({ cls := "Grammarsmith$Facts", name := "widenBehinds", desc := "(I)Z" } : Jvm.MethodName)) ∈ gx_tb := gx_ok (List.mem_of_getElem? (i := 448) (by decide +kernel)) (by decide +kernel)
theorem gw_45 : (Jvm.Cond.instantiable "Grammarsmith$Grammar" (10 : Nat)) ∈ gx_tb := gx_ok (List.mem_of_getElem? (i := 45) (by decide +kernel)) (by decide +kernel)
theorem gw_451 : (Jvm.Cond.static ({ cls := "Grammarsmith", name := "isNonterminal", desc := "(I)Z" } : Jvm.MethodName)) ∈ gx_tb := gx_ok (List.mem_of_getElem? (i := 451) (by decide +kernel)) (by decide +kernel)
theorem gw_453 : (Jvm.Cond.methodLink "Grammarsmith$Facts" (136 : Nat) ({ cls := "Grammarsmith$Facts", name := "behind", desc := "(I)I" } : Jvm.MethodName)) ∈ gx_tb := gx_ok (List.mem_of_getElem? (i := 453) (by decide +kernel)) (by decide +kernel)
theorem gw_454 : (Jvm.Cond.instanceMethod ({ cls := "Grammarsmith$Facts", name := "behind", desc := "(I)I" } : Jvm.MethodName)) ∈ gx_tb := gx_ok (List.mem_of_getElem? (i := 454) (by decide +kernel)) (by decide +kernel)
theorem gw_455 : (Jvm.Cond.selects "Grammarsmith$Facts" ({ cls := "Grammarsmith$Facts", name := "behind", desc := "(I)I" } : Jvm.MethodName) ({ cls := "Grammarsmith$Facts", name := "behind", desc := "(I)I" } : Jvm.MethodName)) ∈ gx_tb := gx_ok (List.mem_of_getElem? (i := 455) (by decide +kernel)) (by decide +kernel)
theorem gw_458 : (Jvm.Cond.static ({ cls := "Grammarsmith", name := "behindOf", desc := "(II)I" } : Jvm.MethodName)) ∈ gx_tb := gx_ok (List.mem_of_getElem? (i := 458) (by decide +kernel)) (by decide +kernel)
theorem gw_46 : (Jvm.Cond.methodLink "Grammarsmith" (18 : Nat) ({ cls := "Grammarsmith$Grammar", name := "<init>", desc := "()V" } : Jvm.MethodName)) ∈ gx_tb := gx_ok (List.mem_of_getElem? (i := 46) (by decide +kernel)) (by decide +kernel)
theorem gw_460 : (Jvm.Cond.methodLink "Grammarsmith$Facts" (51 : Nat) ({ cls := "Grammarsmith$Facts", name := "findReached", desc := "()V" } : Jvm.MethodName)) ∈ gx_tb := gx_ok (List.mem_of_getElem? (i := 460) (by decide +kernel)) (by decide +kernel)
theorem gw_462 : (Jvm.Cond.instanceMethod ({ cls := "Grammarsmith$Facts", name := "findReached", desc := "()V" } : Jvm.MethodName)) ∈ gx_tb := gx_ok (List.mem_of_getElem? (i := 462) (by decide +kernel)) (by decide +kernel)
theorem gw_464 : (Jvm.Cond.methodLink "Grammarsmith$Facts" (142 : Nat) ({ cls := "Grammarsmith$Facts", name := "relate", desc := "(II)V" } : Jvm.MethodName)) ∈ gx_tb := gx_ok (List.mem_of_getElem? (i := 464) (by decide +kernel)) (by decide +kernel)
theorem gw_466 : (Jvm.Cond.instanceMethod ({ cls := "Grammarsmith$Facts", name := "relate", desc := "(II)V" } : Jvm.MethodName)) ∈ gx_tb := gx_ok (List.mem_of_getElem? (i := 466) (by decide +kernel)) (by decide +kernel)
theorem gw_468 : (Jvm.Cond.methodLink "Grammarsmith$Facts" (146 : Nat) ({ cls := "Grammarsmith$Facts", name := "closeRelation", desc := "()V" } : Jvm.MethodName)) ∈ gx_tb := gx_ok (List.mem_of_getElem? (i := 468) (by decide +kernel)) (by decide +kernel)
theorem gw_47 : (Jvm.Cond.instanceMethod ({ cls := "Grammarsmith$Grammar", name := "<init>", desc := "()V" } : Jvm.MethodName)) ∈ gx_tb := gx_ok (List.mem_of_getElem? (i := 47) (by decide +kernel)) (by decide +kernel)
theorem gw_470 : (Jvm.Cond.instanceMethod ({ cls := "Grammarsmith$Facts", name := "closeRelation", desc := "()V" } : Jvm.MethodName)) ∈ gx_tb := gx_ok (List.mem_of_getElem? (i := 470) (by decide +kernel)) (by decide +kernel)
theorem gw_473 : (Jvm.Cond.static ({ cls := "Grammarsmith", name := "has", desc := "(II)Z" } : Jvm.MethodName)) ∈ gx_tb := gx_ok (List.mem_of_getElem? (i := 473) (by decide +kernel)) (by decide +kernel)
theorem gw_475 : (Jvm.Cond.methodLink "Grammarsmith$Facts" (54 : Nat) ({ cls := "Grammarsmith$Facts", name := "findLeftRecursive", desc := "()V" } : Jvm.MethodName)) ∈ gx_tb := gx_ok (List.mem_of_getElem? (i := 475) (by decide +kernel)) (by decide +kernel)
theorem gw_477 : (Jvm.Cond.instanceMethod ({ cls := "Grammarsmith$Facts", name := "findLeftRecursive", desc := "()V" } : Jvm.MethodName)) ∈ gx_tb := gx_ok (List.mem_of_getElem? (i := 477) (by decide +kernel)) (by decide +kernel)
theorem gw_479 : (Jvm.Cond.methodLink "Grammarsmith$Facts" (149 : Nat) ({ cls := "Grammarsmith$Facts", name := "relatedToThemselves", desc := "()I" } : Jvm.MethodName)) ∈ gx_tb := gx_ok (List.mem_of_getElem? (i := 479) (by decide +kernel)) (by decide +kernel)
theorem gw_481 : (Jvm.Cond.instanceMethod ({ cls := "Grammarsmith$Facts", name := "relatedToThemselves", desc := "()I" } : Jvm.MethodName)) ∈ gx_tb := gx_ok (List.mem_of_getElem? (i := 481) (by decide +kernel)) (by decide +kernel)
theorem gw_483 : (Jvm.Cond.methodLink "Grammarsmith$Facts" (57 : Nat) ({ cls := "Grammarsmith$Facts", name := "findCircular", desc := "()V" } : Jvm.MethodName)) ∈ gx_tb := gx_ok (List.mem_of_getElem? (i := 483) (by decide +kernel)) (by decide +kernel)
theorem gw_485 : (Jvm.Cond.instanceMethod ({ cls := "Grammarsmith$Facts", name := "findCircular", desc := "()V" } : Jvm.MethodName)) ∈ gx_tb := gx_ok (List.mem_of_getElem? (i := 485) (by decide +kernel)) (by decide +kernel)
theorem gw_487 : (Jvm.Cond.methodLink "Grammarsmith$Facts" (60 : Nat) ({ cls := "Grammarsmith$Facts", name := "findLeasts", desc := "()V" } : Jvm.MethodName)) ∈ gx_tb := gx_ok (List.mem_of_getElem? (i := 487) (by decide +kernel)) (by decide +kernel)
theorem gw_489 : (Jvm.Cond.instanceMethod ({ cls := "Grammarsmith$Facts", name := "findLeasts", desc := "()V" } : Jvm.MethodName)) ∈ gx_tb := gx_ok (List.mem_of_getElem? (i := 489) (by decide +kernel)) (by decide +kernel)
theorem gw_49 : (Jvm.Cond.methodLink "Grammarsmith$Grammar" (3 : Nat) ({ cls := "java/lang/Object", name := "<init>", desc := "()V" } : Jvm.MethodName)) ∈ gx_tb := gx_ok (List.mem_of_getElem? (i := 49) (by decide +kernel)) (by decide +kernel)
theorem gw_491 : (Jvm.Cond.methodLink "Grammarsmith$Facts" (152 : Nat) ({ cls := "Grammarsmith$Facts", name := "leastOfRight", desc := "(I)I" } : Jvm.MethodName)) ∈ gx_tb := gx_ok (List.mem_of_getElem? (i := 491) (by decide +kernel)) (by decide +kernel)
theorem gw_493 : (Jvm.Cond.instanceMethod ({ cls := "Grammarsmith$Facts", name := "leastOfRight", desc := "(I)I" } : Jvm.MethodName)) ∈ gx_tb := gx_ok (List.mem_of_getElem? (i := 493) (by decide +kernel)) (by decide +kernel)
theorem gw_495 : (Jvm.Cond.methodLink "Grammarsmith$Facts" (93 : Nat) ({ cls := "Grammarsmith$Facts", name := "leastOf", desc := "(I)I" } : Jvm.MethodName)) ∈ gx_tb := gx_ok (List.mem_of_getElem? (i := 495) (by decide +kernel)) (by decide +kernel)
theorem gw_497 : (Jvm.Cond.instanceMethod ({ cls := "Grammarsmith$Facts", name := "leastOf", desc := "(I)I" } : Jvm.MethodName)) ∈ gx_tb := gx_ok (List.mem_of_getElem? (i := 497) (by decide +kernel)) (by decide +kernel)
theorem gw_499 : (Jvm.Cond.methodLink "Grammarsmith$Facts" (155 : Nat) ({ cls := "java/lang/Math", name := "min", desc := "(II)I" } : Jvm.MethodName)) ∈ gx_tb := gx_ok (List.mem_of_getElem? (i := 499) (by decide +kernel)) (by decide +kernel)
theorem gw_5 : (Jvm.Cond.initialized "java/util/Arrays") ∈ gx_tb := gx_ok (List.mem_of_getElem? (i := 5) (by decide +kernel)) (by decide +kernel)
theorem gw_50 : (Jvm.Cond.classLink "Grammarsmith$Grammar" (21 : Nat) "Grammarsmith$RuleText") ∈ gx_tb := gx_ok (List.mem_of_getElem? (i := 50) (by decide +kernel)) (by decide +kernel)
theorem gw_500 : (Jvm.Cond.static ({ cls := "java/lang/Math", name := "min", desc := "(II)I" } : Jvm.MethodName)) ∈ gx_tb := gx_ok (List.mem_of_getElem? (i := 500) (by decide +kernel)) (by decide +kernel)
theorem gw_502 : (Jvm.Cond.methodLink "Grammarsmith$Facts" (63 : Nat) ({ cls := "Grammarsmith$Facts", name := "findSpellings", desc := "()V" } : Jvm.MethodName)) ∈ gx_tb := gx_ok (List.mem_of_getElem? (i := 502) (by decide +kernel)) (by decide +kernel)
theorem gw_504 : (Jvm.Cond.instanceMethod ({ cls := "Grammarsmith$Facts", name := "findSpellings", desc := "()V" } : Jvm.MethodName)) ∈ gx_tb := gx_ok (List.mem_of_getElem? (i := 504) (by decide +kernel)) (by decide +kernel)
theorem gw_506 : (Jvm.Cond.methodLink "Grammarsmith$Facts" (163 : Nat) ({ cls := "Grammarsmith$Facts", name := "improveSpelling", desc := "(I)Z" } : Jvm.MethodName)) ∈ gx_tb := gx_ok (List.mem_of_getElem? (i := 506) (by decide +kernel)) (by decide +kernel)
theorem gw_508 : (Jvm.Cond.instanceMethod ({ cls := "Grammarsmith$Facts", name := "improveSpelling", desc := "(I)Z" } : Jvm.MethodName)) ∈ gx_tb := gx_ok (List.mem_of_getElem? (i := 508) (by decide +kernel)) (by decide +kernel)
theorem gw_510 : (Jvm.Cond.methodLink "Grammarsmith$Facts" (166 : Nat) ({ cls := "Grammarsmith$Facts", name := "spell", desc := "(I)J" } : Jvm.MethodName)) ∈ gx_tb := gx_ok (List.mem_of_getElem? (i := 510) (by decide +kernel)) (by decide +kernel)
theorem gw_512 : (Jvm.Cond.instanceMethod ({ cls := "Grammarsmith$Facts", name := "spell", desc := "(I)J" } : Jvm.MethodName)) ∈ gx_tb := gx_ok (List.mem_of_getElem? (i := 512) (by decide +kernel)) (by decide +kernel)
theorem gw_514 : (Jvm.Cond.constantLong "Grammarsmith$Facts" (170 : Nat) (-1 : Int64)) ∈ gx_tb := gx_ok (List.mem_of_getElem? (i := 514) (by decide +kernel)) (by decide +kernel)
theorem gw_515 : (Jvm.Cond.methodLink "Grammarsmith$Facts" (66 : Nat) ({ cls := "Grammarsmith$Facts", name := "findPredictions", desc := "()V" } : Jvm.MethodName)) ∈ gx_tb := gx_ok (List.mem_of_getElem? (i := 515) (by decide +kernel)) (by decide +kernel)
theorem gw_517 : (Jvm.Cond.instanceMethod ({ cls := "Grammarsmith$Facts", name := "findPredictions", desc := "()V" } : Jvm.MethodName)) ∈ gx_tb := gx_ok (List.mem_of_getElem? (i := 517) (by decide +kernel)) (by decide +kernel)
theorem gw_519 : (Jvm.Cond.methodLink "Grammarsmith$Facts" (69 : Nat) ({ cls := "Grammarsmith$Facts", name := "findItems", desc := "()V" } : Jvm.MethodName)) ∈ gx_tb := gx_ok (List.mem_of_getElem? (i := 519) (by decide +kernel)) (by decide +kernel)
theorem gw_521 : (Jvm.Cond.instanceMethod ({ cls := "Grammarsmith$Facts", name := "findItems", desc := "()V" } : Jvm.MethodName)) ∈ gx_tb := gx_ok (List.mem_of_getElem? (i := 521) (by decide +kernel)) (by decide +kernel)
theorem gw_523 : (Jvm.Cond.methodLink "Grammarsmith" (275 : Nat) ({ cls := "Grammarsmith$Automaton", name := "build", desc := "()V" } : Jvm.MethodName)) ∈ gx_tb := gx_ok (List.mem_of_getElem? (i := 523) (by decide +kernel)) (by decide +kernel)
theorem gw_524 : (Jvm.Cond.instanceMethod ({ cls := "Grammarsmith$Automaton", name := "build", desc := "()V" } : Jvm.MethodName)) ∈ gx_tb := gx_ok (List.mem_of_getElem? (i := 524) (by decide +kernel)) (by decide +kernel)
theorem gw_525 : (Jvm.Cond.selects "Grammarsmith$Automaton" ({ cls := "Grammarsmith$Automaton", name := "build", desc := "()V" } : Jvm.MethodName) ({ cls := "Grammarsmith$Automaton", name := "build", desc := "()V" } : Jvm.MethodName)) ∈ gx_tb := gx_ok (List.mem_of_getElem? (i := 525) (by decide +kernel)) (by decide +kernel)
theorem gw_527 : (Jvm.Cond.methodLink "Grammarsmith$Automaton" (46 : Nat) ({ cls := "java/util/Arrays", name := "fill", desc := "([II)V" } : Jvm.MethodName)) ∈ gx_tb := gx_ok (List.mem_of_getElem? (i := 527) (by decide +kernel)) (by decide +kernel)
theorem gw_528 : (Jvm.Cond.methodLink "Grammarsmith$Automaton" (52 : Nat) ({ cls := "Grammarsmith$Automaton", name := "addState", desc := "(I)I" } : Jvm.MethodName)) ∈ gx_tb := gx_ok (List.mem_of_getElem? (i := 528) (by decide +kernel)) (by decide +kernel)
theorem gw_53 : (Jvm.Cond.classLink "Grammarsmith$Grammar" (35 : Nat) "Grammarsmith$RuleReader") ∈ gx_tb := gx_ok (List.mem_of_getElem? (i := 53) (by decide +kernel)) (by decide +kernel)
theorem gw_530 : (Jvm.Cond.instanceMethod ({ cls := "Grammarsmith$Automaton", name := "addState", desc := "(I)I" } : Jvm.MethodName)) ∈ gx_tb := gx_ok (List.mem_of_getElem? (i := 530) (by decide +kernel)) (by decide +kernel)
theorem gw_532 : (Jvm.Cond.constant "Grammarsmith$Automaton" (56 : Nat) (1000000 : Int32)) ∈ gx_tb := gx_ok (List.mem_of_getElem? (i := 532) (by decide +kernel)) (by decide +kernel)
theorem gw_533 : (Jvm.Cond.methodLink "Grammarsmith$Automaton" (57 : Nat) ({ cls := "Grammarsmith$Automaton", name := "complete", desc := "(I)V" } : Jvm.MethodName)) ∈ gx_tb := gx_ok (List.mem_of_getElem? (i := 533) (by decide +kernel)) (by decide +kernel)
theorem gw_535 : (Jvm.Cond.instanceMethod ({ cls := "Grammarsmith$Automaton", name := "complete", desc := "(I)V" } : Jvm.MethodName)) ∈ gx_tb := gx_ok (List.mem_of_getElem? (i := 535) (by decide +kernel)) (by decide +kernel)
theorem gw_537 : (Jvm.Cond.methodLink "Grammarsmith$Automaton" (64 : Nat) ({ cls := "Grammarsmith$Automaton", name := "row", desc := "(II)I" } : Jvm.MethodName)) ∈ gx_tb := gx_ok (List.mem_of_getElem? (i := 537) (by decide +kernel)) (by decide +kernel)
theorem gw_538 : (Jvm.Cond.instanceMethod ({ cls := "Grammarsmith$Automaton", name := "row", desc := "(II)I" } : Jvm.MethodName)) ∈ gx_tb := gx_ok (List.mem_of_getElem? (i := 538) (by decide +kernel)) (by decide +kernel)
theorem gw_539 : (Jvm.Cond.selects "Grammarsmith$Automaton" ({ cls := "Grammarsmith$Automaton", name := "row", desc := "(II)I" } : Jvm.MethodName) ({ cls := "Grammarsmith$Automaton", name := "row", desc := "(II)I" } : Jvm.MethodName)) ∈ gx_tb := gx_ok (List.mem_of_getElem? (i := 539) (by decide +kernel)) (by decide +kernel)
theorem gw_54 : (Jvm.Cond.instantiable "Grammarsmith$RuleReader" (2 : Nat)) ∈ gx_tb := gx_ok (List.mem_of_getElem? (i := 54) (by decide +kernel)) (by decide +kernel)
theorem gw_541 : (Jvm.Cond.methodLink "Grammarsmith$Automaton" (68 : Nat) ({ cls := "Grammarsmith$Facts", name := "front", desc := "(I)I" } : Jvm.MethodName)) ∈ gx_tb := gx_ok (List.mem_of_getElem? (i := 541) (by decide +kernel)) (by decide +kernel)
theorem gw_542 : (Jvm.Cond.instanceMethod ({ cls := "Grammarsmith$Facts", name := "front", desc := "(I)I" } : Jvm.MethodName)) ∈ gx_tb := gx_ok (List.mem_of_getElem? (i := 542) (by decide +kernel)) (by decide +kernel)
theorem gw_543 : (Jvm.Cond.selects "Grammarsmith$Facts" ({ cls := "Grammarsmith$Facts", name := "front", desc := "(I)I" } : Jvm.MethodName) ({ cls := "Grammarsmith$Facts", name := "front", desc := "(I)I" } : Jvm.MethodName)) ∈ gx_tb := gx_ok (List.mem_of_getElem? (i := 543) (by decide +kernel)) (by decide +kernel)
theorem gw_546 : (Jvm.Cond.methodLink "Grammarsmith$Automaton" (77 : Nat) ({ cls := "Grammarsmith$Automaton", name := "addItems", desc := "(II)Z" } : Jvm.MethodName)) ∈ gx_tb := gx_ok (List.mem_of_getElem? (i := 546) (by decide +kernel)) (by decide +kernel)
theorem gw_548 : (Jvm.Cond.instanceMethod ({ cls := "Grammarsmith$Automaton", name := "addItems", desc := "(II)Z" } : Jvm.MethodName)) ∈ gx_tb := gx_ok (List.mem_of_getElem? (i := 548) (by decide +kernel)) (by decide +kernel)
theorem gw_550 : (Jvm.Cond.methodLink "Grammarsmith$Automaton" (81 : Nat) ({ cls := "Grammarsmith$Facts", name := "rest", desc := "(I)I" } : Jvm.MethodName)) ∈ gx_tb := gx_ok (List.mem_of_getElem? (i := 550) (by decide +kernel)) (by decide +kernel)
theorem gw_551 : (Jvm.Cond.instanceMethod ({ cls := "Grammarsmith$Facts", name := "rest", desc := "(I)I" } : Jvm.MethodName)) ∈ gx_tb := gx_ok (List.mem_of_getElem? (i := 551) (by decide +kernel)) (by decide +kernel)
theorem gw_552 : (Jvm.Cond.selects "Grammarsmith$Facts" ({ cls := "Grammarsmith$Facts", name := "rest", desc := "(I)I" } : Jvm.MethodName) ({ cls := "Grammarsmith$Facts", name := "rest", desc := "(I)I" } : Jvm.MethodName)) ∈ gx_tb := gx_ok (List.mem_of_getElem? (i := 552) (by decide +kernel)) (by decide +kernel)
theorem gw_555 : (Jvm.Cond.methodLink "Grammarsmith$Automaton" (87 : Nat) ({ cls := "Grammarsmith$Facts", name := "grammar", desc := "()LGrammarsmith$Grammar;" } : Jvm.MethodName)) ∈ gx_tb := gx_ok (List.mem_of_getElem? (i := 555) (by decide +kernel)) (by decide +kernel)
theorem gw_556 : (Jvm.Cond.instanceMethod ({ cls := "Grammarsmith$Facts", name := "grammar", desc := "()LGrammarsmith$Grammar;" } : Jvm.MethodName)) ∈ gx_tb := gx_ok (List.mem_of_getElem? (i := 556) (by decide +kernel)) (by decide +kernel)
theorem gw_557 : (Jvm.Cond.selects "Grammarsmith$Facts" ({ cls := "Grammarsmith$Facts", name := "grammar", desc := "()LGrammarsmith$Grammar;" } : Jvm.MethodName) ({ cls := "Grammarsmith$Facts", name := "grammar", desc := "()LGrammarsmith$Grammar;" } : Jvm.MethodName)) ∈ gx_tb := gx_ok (List.mem_of_getElem? (i := 557) (by decide +kernel)) (by decide +kernel)
theorem gw_559 : (Jvm.Cond.methodLink "Grammarsmith$Automaton" (91 : Nat) ({ cls := "Grammarsmith$Grammar", name := "count", desc := "()I" } : Jvm.MethodName)) ∈ gx_tb := gx_ok (List.mem_of_getElem? (i := 559) (by decide +kernel)) (by decide +kernel)
theorem gw_56 : (Jvm.Cond.instanceMethod ({ cls := "Grammarsmith$RuleReader", name := "<init>", desc := "()V" } : Jvm.MethodName)) ∈ gx_tb := gx_ok (List.mem_of_getElem? (i := 56) (by decide +kernel)) (by decide +kernel)
theorem gw_560 : (Jvm.Cond.methodLink "Grammarsmith$Automaton" (97 : Nat) ({ cls := "Grammarsmith$Grammar", name := "owner", desc := "(I)I" } : Jvm.MethodName)) ∈ gx_tb := gx_ok (List.mem_of_getElem? (i := 560) (by decide +kernel)) (by decide +kernel)
theorem gw_561 : (Jvm.Cond.methodLink "Grammarsmith$Automaton" (100 : Nat) ({ cls := "Grammarsmith$Automaton", name := "widen", desc := "(III)Z" } : Jvm.MethodName)) ∈ gx_tb := gx_ok (List.mem_of_getElem? (i := 561) (by decide +kernel)) (by decide +kernel)
theorem gw_563 : (Jvm.Cond.instanceMethod ({ cls := "Grammarsmith$Automaton", name := "widen", desc := "(III)Z" } : Jvm.MethodName)) ∈ gx_tb := gx_ok (List.mem_of_getElem? (i := 563) (by decide +kernel)) (by decide +kernel)
theorem gw_565 : (Jvm.Cond.methodLink "Grammarsmith$Automaton" (61 : Nat) ({ cls := "Grammarsmith$Automaton", name := "leave", desc := "(I)V" } : Jvm.MethodName)) ∈ gx_tb := gx_ok (List.mem_of_getElem? (i := 565) (by decide +kernel)) (by decide +kernel)
theorem gw_567 : (Jvm.Cond.instanceMethod ({ cls := "Grammarsmith$Automaton", name := "leave", desc := "(I)V" } : Jvm.MethodName)) ∈ gx_tb := gx_ok (List.mem_of_getElem? (i := 567) (by decide +kernel)) (by decide +kernel)
theorem gw_569 : (Jvm.Cond.methodLink "Grammarsmith$Automaton" (104 : Nat) ({ cls := "Grammarsmith$Automaton", name := "symbolsInFront", desc := "(I)I" } : Jvm.MethodName)) ∈ gx_tb := gx_ok (List.mem_of_getElem? (i := 569) (by decide +kernel)) (by decide +kernel)
theorem gw_571 : (Jvm.Cond.instanceMethod ({ cls := "Grammarsmith$Automaton", name := "symbolsInFront", desc := "(I)I" } : Jvm.MethodName)) ∈ gx_tb := gx_ok (List.mem_of_getElem? (i := 571) (by decide +kernel)) (by decide +kernel)
theorem gw_574 : (Jvm.Cond.methodLink "Grammarsmith$Automaton" (110 : Nat) ({ cls := "Grammarsmith$Automaton", name := "advance", desc := "(II)V" } : Jvm.MethodName)) ∈ gx_tb := gx_ok (List.mem_of_getElem? (i := 574) (by decide +kernel)) (by decide +kernel)
theorem gw_576 : (Jvm.Cond.instanceMethod ({ cls := "Grammarsmith$Automaton", name := "advance", desc := "(II)V" } : Jvm.MethodName)) ∈ gx_tb := gx_ok (List.mem_of_getElem? (i := 576) (by decide +kernel)) (by decide +kernel)
theorem gw_578 : (Jvm.Cond.methodLink "Grammarsmith$Automaton" (114 : Nat) ({ cls := "Grammarsmith$Automaton", name := "findState", desc := "(I)I" } : Jvm.MethodName)) ∈ gx_tb := gx_ok (List.mem_of_getElem? (i := 578) (by decide +kernel)) (by decide +kernel)
theorem gw_58 : (Jvm.Cond.methodLink "Grammarsmith$RuleReader" (3 : Nat) ({ cls := "java/lang/Object", name := "<init>", desc := "()V" } : Jvm.MethodName)) ∈ gx_tb := gx_ok (List.mem_of_getElem? (i := 58) (by decide +kernel)) (by decide +kernel)
theorem gw_580 : (Jvm.Cond.instanceMethod ({ cls := "Grammarsmith$Automaton", name := "findState", desc := "(I)I" } : Jvm.MethodName)) ∈ gx_tb := gx_ok (List.mem_of_getElem? (i := 580) (by decide +kernel)) (by decide +kernel)
theorem gw_582 : (Jvm.Cond.methodLink "Grammarsmith$Automaton" (120 : Nat) ({ cls := "Grammarsmith$Automaton", name := "beginsFresh", desc := "(I)Z" } : Jvm.MethodName)) ∈ gx_tb := gx_ok (List.mem_of_getElem? (i := 582) (by decide +kernel)) (by decide +kernel)
theorem gw_584 : (Jvm.Cond.instanceMethod ({ cls := "Grammarsmith$Automaton", name := "beginsFresh", desc := "(I)Z" } : Jvm.MethodName)) ∈ gx_tb := gx_ok (List.mem_of_getElem? (i := 584) (by decide +kernel)) (by decide +kernel)
theorem gw_586 : (Jvm.Cond.methodLink "Grammarsmith$Automaton" (117 : Nat) ({ cls := "Grammarsmith$Automaton", name := "mergeInto", desc := "(I)V" } : Jvm.MethodName)) ∈ gx_tb := gx_ok (List.mem_of_getElem? (i := 586) (by decide +kernel)) (by decide +kernel)
theorem gw_588 : (Jvm.Cond.instanceMethod ({ cls := "Grammarsmith$Automaton", name := "mergeInto", desc := "(I)V" } : Jvm.MethodName)) ∈ gx_tb := gx_ok (List.mem_of_getElem? (i := 588) (by decide +kernel)) (by decide +kernel)
theorem gw_59 : (Jvm.Cond.fieldLink "Grammarsmith$RuleReader" (9 : Nat) "Grammarsmith$RuleReader" "open" "[I") ∈ gx_tb := gx_ok (List.mem_of_getElem? (i := 59) (by decide +kernel)) (by decide +kernel)
theorem gw_590 : (Jvm.Cond.methodLink "Grammarsmith" (241 : Nat) ({ cls := "Grammarsmith$Table", name := "extent", desc := "()I" } : Jvm.MethodName)) ∈ gx_tb := gx_ok (List.mem_of_getElem? (i := 590) (by decide +kernel)) (by decide +kernel)
theorem gw_592 : (Jvm.Cond.sameMethod "Grammarsmith$Table" "Grammarsmith$Table" "extent" "()I") ∈ gx_tb := gx_ok (List.mem_of_getElem? (i := 592) (by decide +kernel)) (by decide +kernel)
theorem gw_593 : (Jvm.Cond.selects "Grammarsmith$PredictiveTable" ({ cls := "Grammarsmith$Table", name := "extent", desc := "()I" } : Jvm.MethodName) ({ cls := "Grammarsmith$PredictiveTable", name := "extent", desc := "()I" } : Jvm.MethodName)) ∈ gx_tb := gx_ok (List.mem_of_getElem? (i := 593) (by decide +kernel)) (by decide +kernel)
theorem gw_594 : (Jvm.Cond.instanceMethod ({ cls := "Grammarsmith$PredictiveTable", name := "extent", desc := "()I" } : Jvm.MethodName)) ∈ gx_tb := gx_ok (List.mem_of_getElem? (i := 594) (by decide +kernel)) (by decide +kernel)
theorem gw_596 : (Jvm.Cond.methodLink "Grammarsmith$PredictiveTable" (25 : Nat) ({ cls := "Grammarsmith$PredictiveTable", name := "cellsWith", desc := "(I)I" } : Jvm.MethodName)) ∈ gx_tb := gx_ok (List.mem_of_getElem? (i := 596) (by decide +kernel)) (by decide +kernel)
theorem gw_598 : (Jvm.Cond.instanceMethod ({ cls := "Grammarsmith$PredictiveTable", name := "cellsWith", desc := "(I)I" } : Jvm.MethodName)) ∈ gx_tb := gx_ok (List.mem_of_getElem? (i := 598) (by decide +kernel)) (by decide +kernel)
theorem gw_6 : (Jvm.Cond.initialized "Grammarsmith$Facts") ∈ gx_tb := gx_ok (List.mem_of_getElem? (i := 6) (by decide +kernel)) (by decide +kernel)
theorem gw_60 : (Jvm.Cond.fieldLink "Grammarsmith$RuleReader" (15 : Nat) "Grammarsmith$RuleReader" "height" "I") ∈ gx_tb := gx_ok (List.mem_of_getElem? (i := 60) (by decide +kernel)) (by decide +kernel)
theorem gw_600 : (Jvm.Cond.methodLink "Grammarsmith$PredictiveTable" (82 : Nat) ({ cls := "Grammarsmith$PredictiveTable", name := "countIn", desc := "(II)I" } : Jvm.MethodName)) ∈ gx_tb := gx_ok (List.mem_of_getElem? (i := 600) (by decide +kernel)) (by decide +kernel)
theorem gw_602 : (Jvm.Cond.instanceMethod ({ cls := "Grammarsmith$PredictiveTable", name := "countIn", desc := "(II)I" } : Jvm.MethodName)) ∈ gx_tb := gx_ok (List.mem_of_getElem? (i := 602) (by decide +kernel)) (by decide +kernel)
theorem gw_604 : (Jvm.Cond.methodLink "Grammarsmith$PredictiveTable" (36 : Nat) ({ cls := "Grammarsmith$Facts", name := "grammar", desc := "()LGrammarsmith$Grammar;" } : Jvm.MethodName)) ∈ gx_tb := gx_ok (List.mem_of_getElem? (i := 604) (by decide +kernel)) (by decide +kernel)
theorem gw_605 : (Jvm.Cond.methodLink "Grammarsmith$PredictiveTable" (85 : Nat) ({ cls := "Grammarsmith$Grammar", name := "count", desc := "()I" } : Jvm.MethodName)) ∈ gx_tb := gx_ok (List.mem_of_getElem? (i := 605) (by decide +kernel)) (by decide +kernel)
theorem gw_606 : (Jvm.Cond.methodLink "Grammarsmith$PredictiveTable" (88 : Nat) ({ cls := "Grammarsmith$PredictiveTable", name := "isIn", desc := "(III)Z" } : Jvm.MethodName)) ∈ gx_tb := gx_ok (List.mem_of_getElem? (i := 606) (by decide +kernel)) (by decide +kernel)
theorem gw_608 : (Jvm.Cond.instanceMethod ({ cls := "Grammarsmith$PredictiveTable", name := "isIn", desc := "(III)Z" } : Jvm.MethodName)) ∈ gx_tb := gx_ok (List.mem_of_getElem? (i := 608) (by decide +kernel)) (by decide +kernel)
theorem gw_610 : (Jvm.Cond.methodLink "Grammarsmith$PredictiveTable" (92 : Nat) ({ cls := "Grammarsmith$Grammar", name := "owner", desc := "(I)I" } : Jvm.MethodName)) ∈ gx_tb := gx_ok (List.mem_of_getElem? (i := 610) (by decide +kernel)) (by decide +kernel)
theorem gw_611 : (Jvm.Cond.methodLink "Grammarsmith$PredictiveTable" (95 : Nat) ({ cls := "Grammarsmith$Facts", name := "prediction", desc := "(I)I" } : Jvm.MethodName)) ∈ gx_tb := gx_ok (List.mem_of_getElem? (i := 611) (by decide +kernel)) (by decide +kernel)
theorem gw_612 : (Jvm.Cond.instanceMethod ({ cls := "Grammarsmith$Facts", name := "prediction", desc := "(I)I" } : Jvm.MethodName)) ∈ gx_tb := gx_ok (List.mem_of_getElem? (i := 612) (by decide +kernel)) (by decide +kernel)
theorem gw_613 : (Jvm.Cond.selects "Grammarsmith$Facts" ({ cls := "Grammarsmith$Facts", name := "prediction", desc := "(I)I" } : Jvm.MethodName) ({ cls := "Grammarsmith$Facts", name := "prediction", desc := "(I)I" } : Jvm.MethodName)) ∈ gx_tb := gx_ok (List.mem_of_getElem? (i := 613) (by decide +kernel)) (by decide +kernel)
theorem gw_616 : (Jvm.Cond.selects "Grammarsmith$StateTable" ({ cls := "Grammarsmith$Table", name := "extent", desc := "()I" } : Jvm.MethodName) ({ cls := "Grammarsmith$StateTable", name := "extent", desc := "()I" } : Jvm.MethodName)) ∈ gx_tb := gx_ok (List.mem_of_getElem? (i := 616) (by decide +kernel)) (by decide +kernel)
theorem gw_617 : (Jvm.Cond.instanceMethod ({ cls := "Grammarsmith$StateTable", name := "extent", desc := "()I" } : Jvm.MethodName)) ∈ gx_tb := gx_ok (List.mem_of_getElem? (i := 617) (by decide +kernel)) (by decide +kernel)
theorem gw_619 : (Jvm.Cond.methodLink "Grammarsmith$StateTable" (35 : Nat) ({ cls := "Grammarsmith$Automaton", name := "extent", desc := "()I" } : Jvm.MethodName)) ∈ gx_tb := gx_ok (List.mem_of_getElem? (i := 619) (by decide +kernel)) (by decide +kernel)
theorem gw_620 : (Jvm.Cond.instanceMethod ({ cls := "Grammarsmith$Automaton", name := "extent", desc := "()I" } : Jvm.MethodName)) ∈ gx_tb := gx_ok (List.mem_of_getElem? (i := 620) (by decide +kernel)) (by decide +kernel)
theorem gw_621 : (Jvm.Cond.selects "Grammarsmith$Automaton" ({ cls := "Grammarsmith$Automaton", name := "extent", desc := "()I" } : Jvm.MethodName) ({ cls := "Grammarsmith$Automaton", name := "extent", desc := "()I" } : Jvm.MethodName)) ∈ gx_tb := gx_ok (List.mem_of_getElem? (i := 621) (by decide +kernel)) (by decide +kernel)
theorem gw_623 : (Jvm.Cond.methodLink "Grammarsmith" (246 : Nat) ({ cls := "Grammarsmith$Table", name := "clashes", desc := "()I" } : Jvm.MethodName)) ∈ gx_tb := gx_ok (List.mem_of_getElem? (i := 623) (by decide +kernel)) (by decide +kernel)
theorem gw_625 : (Jvm.Cond.sameMethod "Grammarsmith$Table" "Grammarsmith$Table" "clashes" "()I") ∈ gx_tb := gx_ok (List.mem_of_getElem? (i := 625) (by decide +kernel)) (by decide +kernel)
theorem gw_626 : (Jvm.Cond.selects "Grammarsmith$PredictiveTable" ({ cls := "Grammarsmith$Table", name := "clashes", desc := "()I" } : Jvm.MethodName) ({ cls := "Grammarsmith$PredictiveTable", name := "clashes", desc := "()I" } : Jvm.MethodName)) ∈ gx_tb := gx_ok (List.mem_of_getElem? (i := 626) (by decide +kernel)) (by decide +kernel)
theorem gw_627 : (Jvm.Cond.instanceMethod ({ cls := "Grammarsmith$PredictiveTable", name := "clashes", desc := "()I" } : Jvm.MethodName)) ∈ gx_tb := gx_ok (List.mem_of_getElem? (i := 627) (by decide +kernel)) (by decide +kernel)
theorem gw_629 : (Jvm.Cond.selects "Grammarsmith$StateTable" ({ cls := "Grammarsmith$Table", name := "clashes", desc := "()I" } : Jvm.MethodName) ({ cls := "Grammarsmith$StateTable", name := "clashes", desc := "()I" } : Jvm.MethodName)) ∈ gx_tb := gx_ok (List.mem_of_getElem? (i := 629) (by decide +kernel)) (by decide +kernel)
theorem gw_630 : (Jvm.Cond.instanceMethod ({ cls := "Grammarsmith$StateTable", name := "clashes", desc := "()I" } : Jvm.MethodName)) ∈ gx_tb := gx_ok (List.mem_of_getElem? (i := 630) (by decide +kernel)) (by decide +kernel)
theorem gw_632 : (Jvm.Cond.methodLink "Grammarsmith$StateTable" (41 : Nat) ({ cls := "Grammarsmith$StateTable", name := "cellsInConflict", desc := "(Z)I" } : Jvm.MethodName)) ∈ gx_tb := gx_ok (List.mem_of_getElem? (i := 632) (by decide +kernel)) (by decide +kernel)
theorem gw_634 : (Jvm.Cond.instanceMethod ({ cls := "Grammarsmith$StateTable", name := "cellsInConflict", desc := "(Z)I" } : Jvm.MethodName)) ∈ gx_tb := gx_ok (List.mem_of_getElem? (i := 634) (by decide +kernel)) (by decide +kernel)
theorem gw_636 : (Jvm.Cond.methodLink "Grammarsmith$StateTable" (77 : Nat) ({ cls := "Grammarsmith$StateTable", name := "readCell", desc := "(II)V" } : Jvm.MethodName)) ∈ gx_tb := gx_ok (List.mem_of_getElem? (i := 636) (by decide +kernel)) (by decide +kernel)
theorem gw_638 : (Jvm.Cond.instanceMethod ({ cls := "Grammarsmith$StateTable", name := "readCell", desc := "(II)V" } : Jvm.MethodName)) ∈ gx_tb := gx_ok (List.mem_of_getElem? (i := 638) (by decide +kernel)) (by decide +kernel)
theorem gw_640 : (Jvm.Cond.methodLink "Grammarsmith$StateTable" (88 : Nat) ({ cls := "Grammarsmith$Automaton", name := "facts", desc := "()LGrammarsmith$Facts;" } : Jvm.MethodName)) ∈ gx_tb := gx_ok (List.mem_of_getElem? (i := 640) (by decide +kernel)) (by decide +kernel)
theorem gw_641 : (Jvm.Cond.instanceMethod ({ cls := "Grammarsmith$Automaton", name := "facts", desc := "()LGrammarsmith$Facts;" } : Jvm.MethodName)) ∈ gx_tb := gx_ok (List.mem_of_getElem? (i := 641) (by decide +kernel)) (by decide +kernel)
theorem gw_642 : (Jvm.Cond.selects "Grammarsmith$Automaton" ({ cls := "Grammarsmith$Automaton", name := "facts", desc := "()LGrammarsmith$Facts;" } : Jvm.MethodName) ({ cls := "Grammarsmith$Automaton", name := "facts", desc := "()LGrammarsmith$Facts;" } : Jvm.MethodName)) ∈ gx_tb := gx_ok (List.mem_of_getElem? (i := 642) (by decide +kernel)) (by decide +kernel)
theorem gw_644 : (Jvm.Cond.methodLink "Grammarsmith$StateTable" (92 : Nat) ({ cls := "Grammarsmith$Facts", name := "grammar", desc := "()LGrammarsmith$Grammar;" } : Jvm.MethodName)) ∈ gx_tb := gx_ok (List.mem_of_getElem? (i := 644) (by decide +kernel)) (by decide +kernel)
theorem gw_646 : (Jvm.Cond.static ({ cls := "Grammarsmith", name := "isTerminal", desc := "(I)Z" } : Jvm.MethodName)) ∈ gx_tb := gx_ok (List.mem_of_getElem? (i := 646) (by decide +kernel)) (by decide +kernel)
theorem gw_648 : (Jvm.Cond.methodLink "Grammarsmith$StateTable" (71 : Nat) ({ cls := "Grammarsmith$Automaton", name := "move", desc := "(II)I" } : Jvm.MethodName)) ∈ gx_tb := gx_ok (List.mem_of_getElem? (i := 648) (by decide +kernel)) (by decide +kernel)
theorem gw_649 : (Jvm.Cond.instanceMethod ({ cls := "Grammarsmith$Automaton", name := "move", desc := "(II)I" } : Jvm.MethodName)) ∈ gx_tb := gx_ok (List.mem_of_getElem? (i := 649) (by decide +kernel)) (by decide +kernel)
theorem gw_650 : (Jvm.Cond.selects "Grammarsmith$Automaton" ({ cls := "Grammarsmith$Automaton", name := "move", desc := "(II)I" } : Jvm.MethodName) ({ cls := "Grammarsmith$Automaton", name := "move", desc := "(II)I" } : Jvm.MethodName)) ∈ gx_tb := gx_ok (List.mem_of_getElem? (i := 650) (by decide +kernel)) (by decide +kernel)
theorem gw_652 : (Jvm.Cond.methodLink "Grammarsmith$StateTable" (104 : Nat) ({ cls := "Grammarsmith$Automaton", name := "row", desc := "(II)I" } : Jvm.MethodName)) ∈ gx_tb := gx_ok (List.mem_of_getElem? (i := 652) (by decide +kernel)) (by decide +kernel)
theorem gw_654 : (Jvm.Cond.methodLink "Grammarsmith$StateTable" (120 : Nat) ({ cls := "Grammarsmith$Grammar", name := "count", desc := "()I" } : Jvm.MethodName)) ∈ gx_tb := gx_ok (List.mem_of_getElem? (i := 654) (by decide +kernel)) (by decide +kernel)
theorem gw_655 : (Jvm.Cond.methodLink "Grammarsmith$StateTable" (125 : Nat) ({ cls := "Grammarsmith$StateTable", name := "reducedBy", desc := "(II)I" } : Jvm.MethodName)) ∈ gx_tb := gx_ok (List.mem_of_getElem? (i := 655) (by decide +kernel)) (by decide +kernel)
theorem gw_657 : (Jvm.Cond.instanceMethod ({ cls := "Grammarsmith$StateTable", name := "reducedBy", desc := "(II)I" } : Jvm.MethodName)) ∈ gx_tb := gx_ok (List.mem_of_getElem? (i := 657) (by decide +kernel)) (by decide +kernel)
theorem gw_659 : (Jvm.Cond.methodLink "Grammarsmith$StateTable" (128 : Nat) ({ cls := "Grammarsmith$Grammar", name := "length", desc := "(I)I" } : Jvm.MethodName)) ∈ gx_tb := gx_ok (List.mem_of_getElem? (i := 659) (by decide +kernel)) (by decide +kernel)
theorem gw_66 : (Jvm.Cond.arrayClass Jvm.ClassFile.FieldType.int) ∈ gx_tb := gx_ok (List.mem_of_getElem? (i := 66) (by decide +kernel)) (by decide +kernel)
theorem gw_660 : (Jvm.Cond.methodLink "Grammarsmith$StateTable" (132 : Nat) ({ cls := "Grammarsmith$Grammar", name := "owner", desc := "(I)I" } : Jvm.MethodName)) ∈ gx_tb := gx_ok (List.mem_of_getElem? (i := 660) (by decide +kernel)) (by decide +kernel)
theorem gw_661 : (Jvm.Cond.methodLink "Grammarsmith$StateTable" (135 : Nat) ({ cls := "Grammarsmith$Facts", name := "behind", desc := "(I)I" } : Jvm.MethodName)) ∈ gx_tb := gx_ok (List.mem_of_getElem? (i := 661) (by decide +kernel)) (by decide +kernel)
theorem gw_662 : (Jvm.Cond.methodLink "Grammarsmith$StateTable" (80 : Nat) ({ cls := "Grammarsmith$StateTable", name := "isConflict", desc := "()Z" } : Jvm.MethodName)) ∈ gx_tb := gx_ok (List.mem_of_getElem? (i := 662) (by decide +kernel)) (by decide +kernel)
theorem gw_664 : (Jvm.Cond.instanceMethod ({ cls := "Grammarsmith$StateTable", name := "isConflict", desc := "()Z" } : Jvm.MethodName)) ∈ gx_tb := gx_ok (List.mem_of_getElem? (i := 664) (by decide +kernel)) (by decide +kernel)
theorem gw_666 : (Jvm.Cond.methodLink "Grammarsmith$StateTable" (84 : Nat) ({ cls := "Grammarsmith$StateTable", name := "isSettled", desc := "(I)Z" } : Jvm.MethodName)) ∈ gx_tb := gx_ok (List.mem_of_getElem? (i := 666) (by decide +kernel)) (by decide +kernel)
theorem gw_668 : (Jvm.Cond.instanceMethod ({ cls := "Grammarsmith$StateTable", name := "isSettled", desc := "(I)Z" } : Jvm.MethodName)) ∈ gx_tb := gx_ok (List.mem_of_getElem? (i := 668) (by decide +kernel)) (by decide +kernel)
theorem gw_67 : (Jvm.Cond.fieldLink "Grammarsmith$Grammar" (9 : Nat) "Grammarsmith$Grammar" "owners" "[I") ∈ gx_tb := gx_ok (List.mem_of_getElem? (i := 67) (by decide +kernel)) (by decide +kernel)
theorem gw_670 : (Jvm.Cond.methodLink "Grammarsmith$StateTable" (138 : Nat) ({ cls := "Grammarsmith$StateTable", name := "levelOf", desc := "(I)I" } : Jvm.MethodName)) ∈ gx_tb := gx_ok (List.mem_of_getElem? (i := 670) (by decide +kernel)) (by decide +kernel)
theorem gw_672 : (Jvm.Cond.instanceMethod ({ cls := "Grammarsmith$StateTable", name := "levelOf", desc := "(I)I" } : Jvm.MethodName)) ∈ gx_tb := gx_ok (List.mem_of_getElem? (i := 672) (by decide +kernel)) (by decide +kernel)
theorem gw_674 : (Jvm.Cond.methodLink "Grammarsmith$StateTable" (141 : Nat) ({ cls := "Grammarsmith$StateTable", name := "levelOfLowest", desc := "()I" } : Jvm.MethodName)) ∈ gx_tb := gx_ok (List.mem_of_getElem? (i := 674) (by decide +kernel)) (by decide +kernel)
theorem gw_676 : (Jvm.Cond.instanceMethod ({ cls := "Grammarsmith$StateTable", name := "levelOfLowest", desc := "()I" } : Jvm.MethodName)) ∈ gx_tb := gx_ok (List.mem_of_getElem? (i := 676) (by decide +kernel)) (by decide +kernel)
theorem gw_678 : (Jvm.Cond.methodLink "Grammarsmith$StateTable" (144 : Nat) ({ cls := "Grammarsmith$Grammar", name := "lastTerminal", desc := "(I)I" } : Jvm.MethodName)) ∈ gx_tb := gx_ok (List.mem_of_getElem? (i := 678) (by decide +kernel)) (by decide +kernel)
theorem gw_679 : (Jvm.Cond.instanceMethod ({ cls := "Grammarsmith$Grammar", name := "lastTerminal", desc := "(I)I" } : Jvm.MethodName)) ∈ gx_tb := gx_ok (List.mem_of_getElem? (i := 679) (by decide +kernel)) (by decide +kernel)
theorem gw_68 : (Jvm.Cond.fieldLink "Grammarsmith$Grammar" (15 : Nat) "Grammarsmith$Grammar" "symbols" "[I") ∈ gx_tb := gx_ok (List.mem_of_getElem? (i := 68) (by decide +kernel)) (by decide +kernel)
theorem gw_680 : (Jvm.Cond.selects "Grammarsmith$Grammar" ({ cls := "Grammarsmith$Grammar", name := "lastTerminal", desc := "(I)I" } : Jvm.MethodName) ({ cls := "Grammarsmith$Grammar", name := "lastTerminal", desc := "(I)I" } : Jvm.MethodName)) ∈ gx_tb := gx_ok (List.mem_of_getElem? (i := 680) (by decide +kernel)) (by decide +kernel)
theorem gw_682 : (Jvm.Cond.methodLink "Grammarsmith$Grammar" (52 : Nat) ({ cls := "Grammarsmith$Grammar", name := "length", desc := "(I)I" } : Jvm.MethodName)) ∈ gx_tb := gx_ok (List.mem_of_getElem? (i := 682) (by decide +kernel)) (by decide +kernel)
theorem gw_683 : (Jvm.Cond.methodLink "Grammarsmith$Grammar" (56 : Nat) ({ cls := "Grammarsmith$Grammar", name := "symbol", desc := "(II)I" } : Jvm.MethodName)) ∈ gx_tb := gx_ok (List.mem_of_getElem? (i := 683) (by decide +kernel)) (by decide +kernel)
theorem gw_685 : (Jvm.Cond.methodLink "Grammarsmith" (249 : Nat) ({ cls := "Grammarsmith$Table", name := "easedClashes", desc := "()I" } : Jvm.MethodName)) ∈ gx_tb := gx_ok (List.mem_of_getElem? (i := 685) (by decide +kernel)) (by decide +kernel)
theorem gw_687 : (Jvm.Cond.sameMethod "Grammarsmith$Table" "Grammarsmith$Table" "easedClashes" "()I") ∈ gx_tb := gx_ok (List.mem_of_getElem? (i := 687) (by decide +kernel)) (by decide +kernel)
theorem gw_688 : (Jvm.Cond.selects "Grammarsmith$PredictiveTable" ({ cls := "Grammarsmith$Table", name := "easedClashes", desc := "()I" } : Jvm.MethodName) ({ cls := "Grammarsmith$PredictiveTable", name := "easedClashes", desc := "()I" } : Jvm.MethodName)) ∈ gx_tb := gx_ok (List.mem_of_getElem? (i := 688) (by decide +kernel)) (by decide +kernel)
theorem gw_689 : (Jvm.Cond.instanceMethod ({ cls := "Grammarsmith$PredictiveTable", name := "easedClashes", desc := "()I" } : Jvm.MethodName)) ∈ gx_tb := gx_ok (List.mem_of_getElem? (i := 689) (by decide +kernel)) (by decide +kernel)
theorem gw_69 : (Jvm.Cond.fieldLink "Grammarsmith$Grammar" (18 : Nat) "Grammarsmith$Grammar" "lengths" "[I") ∈ gx_tb := gx_ok (List.mem_of_getElem? (i := 69) (by decide +kernel)) (by decide +kernel)
theorem gw_691 : (Jvm.Cond.selects "Grammarsmith$StateTable" ({ cls := "Grammarsmith$Table", name := "easedClashes", desc := "()I" } : Jvm.MethodName) ({ cls := "Grammarsmith$StateTable", name := "easedClashes", desc := "()I" } : Jvm.MethodName)) ∈ gx_tb := gx_ok (List.mem_of_getElem? (i := 691) (by decide +kernel)) (by decide +kernel)
theorem gw_692 : (Jvm.Cond.instanceMethod ({ cls := "Grammarsmith$StateTable", name := "easedClashes", desc := "()I" } : Jvm.MethodName)) ∈ gx_tb := gx_ok (List.mem_of_getElem? (i := 692) (by decide +kernel)) (by decide +kernel)
theorem gw_694 : (Jvm.Cond.methodLink "GrammarsmithLaw" (189 : Nat) ({ cls := "Grammarsmith", name := "readings", desc := "()I" } : Jvm.MethodName)) ∈ gx_tb := gx_ok (List.mem_of_getElem? (i := 694) (by decide +kernel)) (by decide +kernel)
theorem gw_695 : (Jvm.Cond.instanceMethod ({ cls := "Grammarsmith", name := "readings", desc := "()I" } : Jvm.MethodName)) ∈ gx_tb := gx_ok (List.mem_of_getElem? (i := 695) (by decide +kernel)) (by decide +kernel)
theorem gw_696 : (Jvm.Cond.selects "Grammarsmith" ({ cls := "Grammarsmith", name := "readings", desc := "()I" } : Jvm.MethodName) ({ cls := "Grammarsmith", name := "readings", desc := "()I" } : Jvm.MethodName)) ∈ gx_tb := gx_ok (List.mem_of_getElem? (i := 696) (by decide +kernel)) (by decide +kernel)
theorem gw_698 : (Jvm.Cond.methodLink "Grammarsmith" (267 : Nat) ({ cls := "Grammarsmith$Chart", name := "measure", desc := "(I)I" } : Jvm.MethodName)) ∈ gx_tb := gx_ok (List.mem_of_getElem? (i := 698) (by decide +kernel)) (by decide +kernel)
theorem gw_699 : (Jvm.Cond.instanceMethod ({ cls := "Grammarsmith$Chart", name := "measure", desc := "(I)I" } : Jvm.MethodName)) ∈ gx_tb := gx_ok (List.mem_of_getElem? (i := 699) (by decide +kernel)) (by decide +kernel)
theorem gw_7 : (Jvm.Cond.initialized "Grammarsmith$Automaton") ∈ gx_tb := gx_ok (List.mem_of_getElem? (i := 7) (by decide +kernel)) (by decide +kernel)
theorem gw_70 : (Jvm.Cond.fieldLink "Grammarsmith$Grammar" (42 : Nat) "Grammarsmith$Grammar" "count" "I") ∈ gx_tb := gx_ok (List.mem_of_getElem? (i := 70) (by decide +kernel)) (by decide +kernel)
theorem gw_700 : (Jvm.Cond.sameMethod "Grammarsmith$Chart" "Grammarsmith$Chart" "measure" "(I)I") ∈ gx_tb := gx_ok (List.mem_of_getElem? (i := 700) (by decide +kernel)) (by decide +kernel)
theorem gw_701 : (Jvm.Cond.selects "Grammarsmith$CountingChart" ({ cls := "Grammarsmith$Chart", name := "measure", desc := "(I)I" } : Jvm.MethodName) ({ cls := "Grammarsmith$Chart", name := "measure", desc := "(I)I" } : Jvm.MethodName)) ∈ gx_tb := gx_ok (List.mem_of_getElem? (i := 701) (by decide +kernel)) (by decide +kernel)
theorem gw_702 : (Jvm.Cond.selects "Grammarsmith$RepairingChart" ({ cls := "Grammarsmith$Chart", name := "measure", desc := "(I)I" } : Jvm.MethodName) ({ cls := "Grammarsmith$Chart", name := "measure", desc := "(I)I" } : Jvm.MethodName)) ∈ gx_tb := gx_ok (List.mem_of_getElem? (i := 702) (by decide +kernel)) (by decide +kernel)
theorem gw_704 : (Jvm.Cond.methodLink "Grammarsmith$Chart" (28 : Nat) ({ cls := "java/lang/Math", name := "min", desc := "(II)I" } : Jvm.MethodName)) ∈ gx_tb := gx_ok (List.mem_of_getElem? (i := 704) (by decide +kernel)) (by decide +kernel)
theorem gw_705 : (Jvm.Cond.methodLink "Grammarsmith$Chart" (34 : Nat) ({ cls := "Grammarsmith$Chart", name := "fill", desc := "(II)V" } : Jvm.MethodName)) ∈ gx_tb := gx_ok (List.mem_of_getElem? (i := 705) (by decide +kernel)) (by decide +kernel)
theorem gw_707 : (Jvm.Cond.instanceMethod ({ cls := "Grammarsmith$Chart", name := "fill", desc := "(II)V" } : Jvm.MethodName)) ∈ gx_tb := gx_ok (List.mem_of_getElem? (i := 707) (by decide +kernel)) (by decide +kernel)
theorem gw_709 : (Jvm.Cond.methodLink "Grammarsmith$Chart" (54 : Nat) ({ cls := "Grammarsmith$Chart", name := "none", desc := "()I" } : Jvm.MethodName)) ∈ gx_tb := gx_ok (List.mem_of_getElem? (i := 709) (by decide +kernel)) (by decide +kernel)
theorem gw_71 : (Jvm.Cond.fieldLink "Grammarsmith$Grammar" (23 : Nat) "Grammarsmith$Grammar" "texts" "[LGrammarsmith$RuleText;") ∈ gx_tb := gx_ok (List.mem_of_getElem? (i := 71) (by decide +kernel)) (by decide +kernel)
theorem gw_711 : (Jvm.Cond.sameMethod "Grammarsmith$Chart" "Grammarsmith$Chart" "none" "()I") ∈ gx_tb := gx_ok (List.mem_of_getElem? (i := 711) (by decide +kernel)) (by decide +kernel)
theorem gw_712 : (Jvm.Cond.selects "Grammarsmith$CountingChart" ({ cls := "Grammarsmith$Chart", name := "none", desc := "()I" } : Jvm.MethodName) ({ cls := "Grammarsmith$CountingChart", name := "none", desc := "()I" } : Jvm.MethodName)) ∈ gx_tb := gx_ok (List.mem_of_getElem? (i := 712) (by decide +kernel)) (by decide +kernel)
theorem gw_713 : (Jvm.Cond.instanceMethod ({ cls := "Grammarsmith$CountingChart", name := "none", desc := "()I" } : Jvm.MethodName)) ∈ gx_tb := gx_ok (List.mem_of_getElem? (i := 713) (by decide +kernel)) (by decide +kernel)
theorem gw_715 : (Jvm.Cond.selects "Grammarsmith$RepairingChart" ({ cls := "Grammarsmith$Chart", name := "none", desc := "()I" } : Jvm.MethodName) ({ cls := "Grammarsmith$RepairingChart", name := "none", desc := "()I" } : Jvm.MethodName)) ∈ gx_tb := gx_ok (List.mem_of_getElem? (i := 715) (by decide +kernel)) (by decide +kernel)
theorem gw_716 : (Jvm.Cond.instanceMethod ({ cls := "Grammarsmith$RepairingChart", name := "none", desc := "()I" } : Jvm.MethodName)) ∈ gx_tb := gx_ok (List.mem_of_getElem? (i := 716) (by decide +kernel)) (by decide +kernel)
theorem gw_718 : (Jvm.Cond.methodLink "Grammarsmith$Chart" (57 : Nat) ({ cls := "Grammarsmith$Chart", name := "setWhole", desc := "(IIII)V" } : Jvm.MethodName)) ∈ gx_tb := gx_ok (List.mem_of_getElem? (i := 718) (by decide +kernel)) (by decide +kernel)
theorem gw_72 : (Jvm.Cond.fieldLink "Grammarsmith$Grammar" (27 : Nat) "Grammarsmith$Grammar" "countsBefore" "[I") ∈ gx_tb := gx_ok (List.mem_of_getElem? (i := 72) (by decide +kernel)) (by decide +kernel)
theorem gw_720 : (Jvm.Cond.instanceMethod ({ cls := "Grammarsmith$Chart", name := "setWhole", desc := "(IIII)V" } : Jvm.MethodName)) ∈ gx_tb := gx_ok (List.mem_of_getElem? (i := 720) (by decide +kernel)) (by decide +kernel)
theorem gw_722 : (Jvm.Cond.methodLink "Grammarsmith$Chart" (112 : Nat) ({ cls := "Grammarsmith$Chart", name := "cell", desc := "(III)I" } : Jvm.MethodName)) ∈ gx_tb := gx_ok (List.mem_of_getElem? (i := 722) (by decide +kernel)) (by decide +kernel)
theorem gw_723 : (Jvm.Cond.static ({ cls := "Grammarsmith$Chart", name := "cell", desc := "(III)I" } : Jvm.MethodName)) ∈ gx_tb := gx_ok (List.mem_of_getElem? (i := 723) (by decide +kernel)) (by decide +kernel)
theorem gw_725 : (Jvm.Cond.constant "Grammarsmith$Chart" (61 : Nat) (1000000 : Int32)) ∈ gx_tb := gx_ok (List.mem_of_getElem? (i := 725) (by decide +kernel)) (by decide +kernel)
theorem gw_726 : (Jvm.Cond.methodLink "Grammarsmith$Chart" (62 : Nat) ({ cls := "Grammarsmith$Chart", name := "refine", desc := "(II)Z" } : Jvm.MethodName)) ∈ gx_tb := gx_ok (List.mem_of_getElem? (i := 726) (by decide +kernel)) (by decide +kernel)
theorem gw_728 : (Jvm.Cond.instanceMethod ({ cls := "Grammarsmith$Chart", name := "refine", desc := "(II)Z" } : Jvm.MethodName)) ∈ gx_tb := gx_ok (List.mem_of_getElem? (i := 728) (by decide +kernel)) (by decide +kernel)
theorem gw_73 : (Jvm.Cond.fieldLink "Grammarsmith$Grammar" (46 : Nat) "Grammarsmith$Grammar" "rules" "I") ∈ gx_tb := gx_ok (List.mem_of_getElem? (i := 73) (by decide +kernel)) (by decide +kernel)
theorem gw_730 : (Jvm.Cond.methodLink "Grammarsmith$Chart" (66 : Nat) ({ cls := "java/util/Arrays", name := "fill", desc := "([II)V" } : Jvm.MethodName)) ∈ gx_tb := gx_ok (List.mem_of_getElem? (i := 730) (by decide +kernel)) (by decide +kernel)
theorem gw_731 : (Jvm.Cond.methodLink "Grammarsmith$Chart" (38 : Nat) ({ cls := "Grammarsmith$Facts", name := "grammar", desc := "()LGrammarsmith$Grammar;" } : Jvm.MethodName)) ∈ gx_tb := gx_ok (List.mem_of_getElem? (i := 731) (by decide +kernel)) (by decide +kernel)
theorem gw_732 : (Jvm.Cond.methodLink "Grammarsmith$Chart" (71 : Nat) ({ cls := "Grammarsmith$Grammar", name := "count", desc := "()I" } : Jvm.MethodName)) ∈ gx_tb := gx_ok (List.mem_of_getElem? (i := 732) (by decide +kernel)) (by decide +kernel)
theorem gw_733 : (Jvm.Cond.methodLink "Grammarsmith$Chart" (74 : Nat) ({ cls := "Grammarsmith$Grammar", name := "owner", desc := "(I)I" } : Jvm.MethodName)) ∈ gx_tb := gx_ok (List.mem_of_getElem? (i := 733) (by decide +kernel)) (by decide +kernel)
theorem gw_734 : (Jvm.Cond.methodLink "Grammarsmith$Chart" (78 : Nat) ({ cls := "Grammarsmith$Chart", name := "ofProduction", desc := "(III)I" } : Jvm.MethodName)) ∈ gx_tb := gx_ok (List.mem_of_getElem? (i := 734) (by decide +kernel)) (by decide +kernel)
theorem gw_736 : (Jvm.Cond.instanceMethod ({ cls := "Grammarsmith$Chart", name := "ofProduction", desc := "(III)I" } : Jvm.MethodName)) ∈ gx_tb := gx_ok (List.mem_of_getElem? (i := 736) (by decide +kernel)) (by decide +kernel)
theorem gw_738 : (Jvm.Cond.methodLink "Grammarsmith$Chart" (87 : Nat) ({ cls := "Grammarsmith$Chart", name := "blank", desc := "(II)I" } : Jvm.MethodName)) ∈ gx_tb := gx_ok (List.mem_of_getElem? (i := 738) (by decide +kernel)) (by decide +kernel)
theorem gw_74 : (Jvm.Cond.fieldLink "Grammarsmith$Grammar" (49 : Nat) "Grammarsmith$Grammar" "top" "I") ∈ gx_tb := gx_ok (List.mem_of_getElem? (i := 74) (by decide +kernel)) (by decide +kernel)
theorem gw_740 : (Jvm.Cond.sameMethod "Grammarsmith$Chart" "Grammarsmith$Chart" "blank" "(II)I") ∈ gx_tb := gx_ok (List.mem_of_getElem? (i := 740) (by decide +kernel)) (by decide +kernel)
theorem gw_741 : (Jvm.Cond.selects "Grammarsmith$CountingChart" ({ cls := "Grammarsmith$Chart", name := "blank", desc := "(II)I" } : Jvm.MethodName) ({ cls := "Grammarsmith$CountingChart", name := "blank", desc := "(II)I" } : Jvm.MethodName)) ∈ gx_tb := gx_ok (List.mem_of_getElem? (i := 741) (by decide +kernel)) (by decide +kernel)
theorem gw_742 : (Jvm.Cond.instanceMethod ({ cls := "Grammarsmith$CountingChart", name := "blank", desc := "(II)I" } : Jvm.MethodName)) ∈ gx_tb := gx_ok (List.mem_of_getElem? (i := 742) (by decide +kernel)) (by decide +kernel)
theorem gw_744 : (Jvm.Cond.selects "Grammarsmith$RepairingChart" ({ cls := "Grammarsmith$Chart", name := "blank", desc := "(II)I" } : Jvm.MethodName) ({ cls := "Grammarsmith$RepairingChart", name := "blank", desc := "(II)I" } : Jvm.MethodName)) ∈ gx_tb := gx_ok (List.mem_of_getElem? (i := 744) (by decide +kernel)) (by decide +kernel)
theorem gw_745 : (Jvm.Cond.instanceMethod ({ cls := "Grammarsmith$RepairingChart", name := "blank", desc := "(II)I" } : Jvm.MethodName)) ∈ gx_tb := gx_ok (List.mem_of_getElem? (i := 745) (by decide +kernel)) (by decide +kernel)
theorem gw_747 : (Jvm.Cond.methodLink "Grammarsmith$Chart" (90 : Nat) ({ cls := "Grammarsmith$Chart", name := "setPart", desc := "(IIII)V" } : Jvm.MethodName)) ∈ gx_tb := gx_ok (List.mem_of_getElem? (i := 747) (by decide +kernel)) (by decide +kernel)
theorem gw_749 : (Jvm.Cond.instanceMethod ({ cls := "Grammarsmith$Chart", name := "setPart", desc := "(IIII)V" } : Jvm.MethodName)) ∈ gx_tb := gx_ok (List.mem_of_getElem? (i := 749) (by decide +kernel)) (by decide +kernel)
theorem gw_75 : (Jvm.Cond.fieldLink "Grammarsmith$Grammar" (31 : Nat) "Grammarsmith$Grammar" "renamed" "LGrammarsmith$RuleText;") ∈ gx_tb := gx_ok (List.mem_of_getElem? (i := 75) (by decide +kernel)) (by decide +kernel)
theorem gw_751 : (Jvm.Cond.methodLink "Grammarsmith$Chart" (93 : Nat) ({ cls := "Grammarsmith$Grammar", name := "length", desc := "(I)I" } : Jvm.MethodName)) ∈ gx_tb := gx_ok (List.mem_of_getElem? (i := 751) (by decide +kernel)) (by decide +kernel)
theorem gw_752 : (Jvm.Cond.methodLink "Grammarsmith$Chart" (96 : Nat) ({ cls := "Grammarsmith$Grammar", name := "symbol", desc := "(II)I" } : Jvm.MethodName)) ∈ gx_tb := gx_ok (List.mem_of_getElem? (i := 752) (by decide +kernel)) (by decide +kernel)
theorem gw_753 : (Jvm.Cond.methodLink "Grammarsmith$Chart" (99 : Nat) ({ cls := "Grammarsmith$Chart", name := "part", desc := "(III)I" } : Jvm.MethodName)) ∈ gx_tb := gx_ok (List.mem_of_getElem? (i := 753) (by decide +kernel)) (by decide +kernel)
theorem gw_755 : (Jvm.Cond.instanceMethod ({ cls := "Grammarsmith$Chart", name := "part", desc := "(III)I" } : Jvm.MethodName)) ∈ gx_tb := gx_ok (List.mem_of_getElem? (i := 755) (by decide +kernel)) (by decide +kernel)
theorem gw_758 : (Jvm.Cond.methodLink "Grammarsmith$Chart" (106 : Nat) ({ cls := "Grammarsmith$Chart", name := "ofTerminal", desc := "(III)I" } : Jvm.MethodName)) ∈ gx_tb := gx_ok (List.mem_of_getElem? (i := 758) (by decide +kernel)) (by decide +kernel)
theorem gw_76 : (Jvm.Cond.fieldLink "Grammarsmith$Grammar" (38 : Nat) "Grammarsmith$Grammar" "reader" "LGrammarsmith$RuleReader;") ∈ gx_tb := gx_ok (List.mem_of_getElem? (i := 76) (by decide +kernel)) (by decide +kernel)
theorem gw_760 : (Jvm.Cond.sameMethod "Grammarsmith$Chart" "Grammarsmith$Chart" "ofTerminal" "(III)I") ∈ gx_tb := gx_ok (List.mem_of_getElem? (i := 760) (by decide +kernel)) (by decide +kernel)
theorem gw_761 : (Jvm.Cond.selects "Grammarsmith$CountingChart" ({ cls := "Grammarsmith$Chart", name := "ofTerminal", desc := "(III)I" } : Jvm.MethodName) ({ cls := "Grammarsmith$CountingChart", name := "ofTerminal", desc := "(III)I" } : Jvm.MethodName)) ∈ gx_tb := gx_ok (List.mem_of_getElem? (i := 761) (by decide +kernel)) (by decide +kernel)
theorem gw_762 : (Jvm.Cond.instanceMethod ({ cls := "Grammarsmith$CountingChart", name := "ofTerminal", desc := "(III)I" } : Jvm.MethodName)) ∈ gx_tb := gx_ok (List.mem_of_getElem? (i := 762) (by decide +kernel)) (by decide +kernel)
theorem gw_764 : (Jvm.Cond.methodLink "Grammarsmith$CountingChart" (9 : Nat) ({ cls := "Grammarsmith$CountingChart", name := "look", desc := "(I)I" } : Jvm.MethodName)) ∈ gx_tb := gx_ok (List.mem_of_getElem? (i := 764) (by decide +kernel)) (by decide +kernel)
theorem gw_765 : (Jvm.Cond.sameMethod "Grammarsmith$CountingChart" "Grammarsmith$Chart" "look" "(I)I") ∈ gx_tb := gx_ok (List.mem_of_getElem? (i := 765) (by decide +kernel)) (by decide +kernel)
theorem gw_767 : (Jvm.Cond.selects "Grammarsmith$CountingChart" ({ cls := "Grammarsmith$CountingChart", name := "look", desc := "(I)I" } : Jvm.MethodName) ({ cls := "Grammarsmith$Chart", name := "look", desc := "(I)I" } : Jvm.MethodName)) ∈ gx_tb := gx_ok (List.mem_of_getElem? (i := 767) (by decide +kernel)) (by decide +kernel)
theorem gw_768 : (Jvm.Cond.instanceMethod ({ cls := "Grammarsmith$Chart", name := "look", desc := "(I)I" } : Jvm.MethodName)) ∈ gx_tb := gx_ok (List.mem_of_getElem? (i := 768) (by decide +kernel)) (by decide +kernel)
theorem gw_770 : (Jvm.Cond.selects "Grammarsmith$RepairingChart" ({ cls := "Grammarsmith$Chart", name := "ofTerminal", desc := "(III)I" } : Jvm.MethodName) ({ cls := "Grammarsmith$RepairingChart", name := "ofTerminal", desc := "(III)I" } : Jvm.MethodName)) ∈ gx_tb := gx_ok (List.mem_of_getElem? (i := 770) (by decide +kernel)) (by decide +kernel)
theorem gw_771 : (Jvm.Cond.instanceMethod ({ cls := "Grammarsmith$RepairingChart", name := "ofTerminal", desc := "(III)I" } : Jvm.MethodName)) ∈ gx_tb := gx_ok (List.mem_of_getElem? (i := 771) (by decide +kernel)) (by decide +kernel)
theorem gw_773 : (Jvm.Cond.methodLink "Grammarsmith$RepairingChart" (11 : Nat) ({ cls := "Grammarsmith$RepairingChart", name := "look", desc := "(I)I" } : Jvm.MethodName)) ∈ gx_tb := gx_ok (List.mem_of_getElem? (i := 773) (by decide +kernel)) (by decide +kernel)
theorem gw_774 : (Jvm.Cond.sameMethod "Grammarsmith$RepairingChart" "Grammarsmith$Chart" "look" "(I)I") ∈ gx_tb := gx_ok (List.mem_of_getElem? (i := 774) (by decide +kernel)) (by decide +kernel)
theorem gw_775 : (Jvm.Cond.selects "Grammarsmith$RepairingChart" ({ cls := "Grammarsmith$RepairingChart", name := "look", desc := "(I)I" } : Jvm.MethodName) ({ cls := "Grammarsmith$Chart", name := "look", desc := "(I)I" } : Jvm.MethodName)) ∈ gx_tb := gx_ok (List.mem_of_getElem? (i := 775) (by decide +kernel)) (by decide +kernel)
theorem gw_776 : (Jvm.Cond.methodLink "Grammarsmith$Chart" (50 : Nat) ({ cls := "Grammarsmith$Chart", name := "whole", desc := "(III)I" } : Jvm.MethodName)) ∈ gx_tb := gx_ok (List.mem_of_getElem? (i := 776) (by decide +kernel)) (by decide +kernel)
theorem gw_778 : (Jvm.Cond.instanceMethod ({ cls := "Grammarsmith$Chart", name := "whole", desc := "(III)I" } : Jvm.MethodName)) ∈ gx_tb := gx_ok (List.mem_of_getElem? (i := 778) (by decide +kernel)) (by decide +kernel)
theorem gw_780 : (Jvm.Cond.methodLink "Grammarsmith$Chart" (109 : Nat) ({ cls := "Grammarsmith$Chart", name := "both", desc := "(II)I" } : Jvm.MethodName)) ∈ gx_tb := gx_ok (List.mem_of_getElem? (i := 780) (by decide +kernel)) (by decide +kernel)
theorem gw_782 : (Jvm.Cond.sameMethod "Grammarsmith$Chart" "Grammarsmith$Chart" "both" "(II)I") ∈ gx_tb := gx_ok (List.mem_of_getElem? (i := 782) (by decide +kernel)) (by decide +kernel)
theorem gw_783 : (Jvm.Cond.selects "Grammarsmith$CountingChart" ({ cls := "Grammarsmith$Chart", name := "both", desc := "(II)I" } : Jvm.MethodName) ({ cls := "Grammarsmith$CountingChart", name := "both", desc := "(II)I" } : Jvm.MethodName)) ∈ gx_tb := gx_ok (List.mem_of_getElem? (i := 783) (by decide +kernel)) (by decide +kernel)
theorem gw_784 : (Jvm.Cond.instanceMethod ({ cls := "Grammarsmith$CountingChart", name := "both", desc := "(II)I" } : Jvm.MethodName)) ∈ gx_tb := gx_ok (List.mem_of_getElem? (i := 784) (by decide +kernel)) (by decide +kernel)
theorem gw_786 : (Jvm.Cond.methodLink "Grammarsmith$CountingChart" (15 : Nat) ({ cls := "java/lang/Math", name := "min", desc := "(II)I" } : Jvm.MethodName)) ∈ gx_tb := gx_ok (List.mem_of_getElem? (i := 786) (by decide +kernel)) (by decide +kernel)
theorem gw_787 : (Jvm.Cond.selects "Grammarsmith$RepairingChart" ({ cls := "Grammarsmith$Chart", name := "both", desc := "(II)I" } : Jvm.MethodName) ({ cls := "Grammarsmith$RepairingChart", name := "both", desc := "(II)I" } : Jvm.MethodName)) ∈ gx_tb := gx_ok (List.mem_of_getElem? (i := 787) (by decide +kernel)) (by decide +kernel)
theorem gw_788 : (Jvm.Cond.instanceMethod ({ cls := "Grammarsmith$RepairingChart", name := "both", desc := "(II)I" } : Jvm.MethodName)) ∈ gx_tb := gx_ok (List.mem_of_getElem? (i := 788) (by decide +kernel)) (by decide +kernel)
theorem gw_790 : (Jvm.Cond.methodLink "Grammarsmith$RepairingChart" (15 : Nat) ({ cls := "java/lang/Math", name := "min", desc := "(II)I" } : Jvm.MethodName)) ∈ gx_tb := gx_ok (List.mem_of_getElem? (i := 790) (by decide +kernel)) (by decide +kernel)
theorem gw_791 : (Jvm.Cond.methodLink "Grammarsmith$Chart" (81 : Nat) ({ cls := "Grammarsmith$Chart", name := "either", desc := "(II)I" } : Jvm.MethodName)) ∈ gx_tb := gx_ok (List.mem_of_getElem? (i := 791) (by decide +kernel)) (by decide +kernel)
theorem gw_793 : (Jvm.Cond.sameMethod "Grammarsmith$Chart" "Grammarsmith$Chart" "either" "(II)I") ∈ gx_tb := gx_ok (List.mem_of_getElem? (i := 793) (by decide +kernel)) (by decide +kernel)
theorem gw_794 : (Jvm.Cond.selects "Grammarsmith$CountingChart" ({ cls := "Grammarsmith$Chart", name := "either", desc := "(II)I" } : Jvm.MethodName) ({ cls := "Grammarsmith$CountingChart", name := "either", desc := "(II)I" } : Jvm.MethodName)) ∈ gx_tb := gx_ok (List.mem_of_getElem? (i := 794) (by decide +kernel)) (by decide +kernel)
theorem gw_795 : (Jvm.Cond.instanceMethod ({ cls := "Grammarsmith$CountingChart", name := "either", desc := "(II)I" } : Jvm.MethodName)) ∈ gx_tb := gx_ok (List.mem_of_getElem? (i := 795) (by decide +kernel)) (by decide +kernel)
theorem gw_797 : (Jvm.Cond.selects "Grammarsmith$RepairingChart" ({ cls := "Grammarsmith$Chart", name := "either", desc := "(II)I" } : Jvm.MethodName) ({ cls := "Grammarsmith$RepairingChart", name := "either", desc := "(II)I" } : Jvm.MethodName)) ∈ gx_tb := gx_ok (List.mem_of_getElem? (i := 797) (by decide +kernel)) (by decide +kernel)
theorem gw_798 : (Jvm.Cond.instanceMethod ({ cls := "Grammarsmith$RepairingChart", name := "either", desc := "(II)I" } : Jvm.MethodName)) ∈ gx_tb := gx_ok (List.mem_of_getElem? (i := 798) (by decide +kernel)) (by decide +kernel)
theorem gw_8 : (Jvm.Cond.initialized "Grammarsmith$Table") ∈ gx_tb := gx_ok (List.mem_of_getElem? (i := 8) (by decide +kernel)) (by decide +kernel)
theorem gw_800 : (Jvm.Cond.methodLink "Grammarsmith$Chart" (84 : Nat) ({ cls := "Grammarsmith$Chart", name := "ofNonterminal", desc := "(II)I" } : Jvm.MethodName)) ∈ gx_tb := gx_ok (List.mem_of_getElem? (i := 800) (by decide +kernel)) (by decide +kernel)
theorem gw_802 : (Jvm.Cond.sameMethod "Grammarsmith$Chart" "Grammarsmith$Chart" "ofNonterminal" "(II)I") ∈ gx_tb := gx_ok (List.mem_of_getElem? (i := 802) (by decide +kernel)) (by decide +kernel)
theorem gw_803 : (Jvm.Cond.selects "Grammarsmith$CountingChart" ({ cls := "Grammarsmith$Chart", name := "ofNonterminal", desc := "(II)I" } : Jvm.MethodName) ({ cls := "Grammarsmith$CountingChart", name := "ofNonterminal", desc := "(II)I" } : Jvm.MethodName)) ∈ gx_tb := gx_ok (List.mem_of_getElem? (i := 803) (by decide +kernel)) (by decide +kernel)
theorem gw_804 : (Jvm.Cond.instanceMethod ({ cls := "Grammarsmith$CountingChart", name := "ofNonterminal", desc := "(II)I" } : Jvm.MethodName)) ∈ gx_tb := gx_ok (List.mem_of_getElem? (i := 804) (by decide +kernel)) (by decide +kernel)
theorem gw_806 : (Jvm.Cond.methodLink "Grammarsmith$CountingChart" (21 : Nat) ({ cls := "Grammarsmith$CountingChart", name := "facts", desc := "()LGrammarsmith$Facts;" } : Jvm.MethodName)) ∈ gx_tb := gx_ok (List.mem_of_getElem? (i := 806) (by decide +kernel)) (by decide +kernel)
theorem gw_807 : (Jvm.Cond.sameMethod "Grammarsmith$CountingChart" "Grammarsmith$Chart" "facts" "()LGrammarsmith$Facts;") ∈ gx_tb := gx_ok (List.mem_of_getElem? (i := 807) (by decide +kernel)) (by decide +kernel)
theorem gw_809 : (Jvm.Cond.selects "Grammarsmith$CountingChart" ({ cls := "Grammarsmith$CountingChart", name := "facts", desc := "()LGrammarsmith$Facts;" } : Jvm.MethodName) ({ cls := "Grammarsmith$Chart", name := "facts", desc := "()LGrammarsmith$Facts;" } : Jvm.MethodName)) ∈ gx_tb := gx_ok (List.mem_of_getElem? (i := 809) (by decide +kernel)) (by decide +kernel)
theorem gw_810 : (Jvm.Cond.instanceMethod ({ cls := "Grammarsmith$Chart", name := "facts", desc := "()LGrammarsmith$Facts;" } : Jvm.MethodName)) ∈ gx_tb := gx_ok (List.mem_of_getElem? (i := 810) (by decide +kernel)) (by decide +kernel)
theorem gw_812 : (Jvm.Cond.methodLink "Grammarsmith$CountingChart" (25 : Nat) ({ cls := "Grammarsmith$Facts", name := "isCircular", desc := "(I)Z" } : Jvm.MethodName)) ∈ gx_tb := gx_ok (List.mem_of_getElem? (i := 812) (by decide +kernel)) (by decide +kernel)
theorem gw_813 : (Jvm.Cond.instanceMethod ({ cls := "Grammarsmith$Facts", name := "isCircular", desc := "(I)Z" } : Jvm.MethodName)) ∈ gx_tb := gx_ok (List.mem_of_getElem? (i := 813) (by decide +kernel)) (by decide +kernel)
theorem gw_814 : (Jvm.Cond.selects "Grammarsmith$Facts" ({ cls := "Grammarsmith$Facts", name := "isCircular", desc := "(I)Z" } : Jvm.MethodName) ({ cls := "Grammarsmith$Facts", name := "isCircular", desc := "(I)Z" } : Jvm.MethodName)) ∈ gx_tb := gx_ok (List.mem_of_getElem? (i := 814) (by decide +kernel)) (by decide +kernel)
theorem gw_816 : (Jvm.Cond.selects "Grammarsmith$RepairingChart" ({ cls := "Grammarsmith$Chart", name := "ofNonterminal", desc := "(II)I" } : Jvm.MethodName) ({ cls := "Grammarsmith$RepairingChart", name := "ofNonterminal", desc := "(II)I" } : Jvm.MethodName)) ∈ gx_tb := gx_ok (List.mem_of_getElem? (i := 816) (by decide +kernel)) (by decide +kernel)
theorem gw_817 : (Jvm.Cond.instanceMethod ({ cls := "Grammarsmith$RepairingChart", name := "ofNonterminal", desc := "(II)I" } : Jvm.MethodName)) ∈ gx_tb := gx_ok (List.mem_of_getElem? (i := 817) (by decide +kernel)) (by decide +kernel)
theorem gw_819 : (Jvm.Cond.methodLink "Grammarsmith$Chart" (44 : Nat) ({ cls := "Grammarsmith$Grammar", name := "top", desc := "()I" } : Jvm.MethodName)) ∈ gx_tb := gx_ok (List.mem_of_getElem? (i := 819) (by decide +kernel)) (by decide +kernel)
theorem gw_820 : (Jvm.Cond.methodLink "GrammarsmithLaw" (193 : Nat) ({ cls := "Grammarsmith", name := "repair", desc := "()I" } : Jvm.MethodName)) ∈ gx_tb := gx_ok (List.mem_of_getElem? (i := 820) (by decide +kernel)) (by decide +kernel)
theorem gw_821 : (Jvm.Cond.instanceMethod ({ cls := "Grammarsmith", name := "repair", desc := "()I" } : Jvm.MethodName)) ∈ gx_tb := gx_ok (List.mem_of_getElem? (i := 821) (by decide +kernel)) (by decide +kernel)
theorem gw_822 : (Jvm.Cond.selects "Grammarsmith" ({ cls := "Grammarsmith", name := "repair", desc := "()I" } : Jvm.MethodName) ({ cls := "Grammarsmith", name := "repair", desc := "()I" } : Jvm.MethodName)) ∈ gx_tb := gx_ok (List.mem_of_getElem? (i := 822) (by decide +kernel)) (by decide +kernel)
theorem gw_824 : (Jvm.Cond.methodLink "Grammarsmith" (173 : Nat) ({ cls := "Grammarsmith$Grammar", name := "top", desc := "()I" } : Jvm.MethodName)) ∈ gx_tb := gx_ok (List.mem_of_getElem? (i := 824) (by decide +kernel)) (by decide +kernel)
theorem gw_825 : (Jvm.Cond.methodLink "Grammarsmith" (215 : Nat) ({ cls := "Grammarsmith$Facts", name := "isProductive", desc := "(I)Z" } : Jvm.MethodName)) ∈ gx_tb := gx_ok (List.mem_of_getElem? (i := 825) (by decide +kernel)) (by decide +kernel)
theorem gw_826 : (Jvm.Cond.instanceMethod ({ cls := "Grammarsmith$Facts", name := "isProductive", desc := "(I)Z" } : Jvm.MethodName)) ∈ gx_tb := gx_ok (List.mem_of_getElem? (i := 826) (by decide +kernel)) (by decide +kernel)
theorem gw_827 : (Jvm.Cond.selects "Grammarsmith$Facts" ({ cls := "Grammarsmith$Facts", name := "isProductive", desc := "(I)Z" } : Jvm.MethodName) ({ cls := "Grammarsmith$Facts", name := "isProductive", desc := "(I)Z" } : Jvm.MethodName)) ∈ gx_tb := gx_ok (List.mem_of_getElem? (i := 827) (by decide +kernel)) (by decide +kernel)
theorem gw_829 : (Jvm.Cond.methodLink "Grammarsmith$Facts" (76 : Nat) ({ cls := "Grammarsmith$Facts", name := "least", desc := "(I)I" } : Jvm.MethodName)) ∈ gx_tb := gx_ok (List.mem_of_getElem? (i := 829) (by decide +kernel)) (by decide +kernel)
theorem gw_830 : (Jvm.Cond.instanceMethod ({ cls := "Grammarsmith$Facts", name := "least", desc := "(I)I" } : Jvm.MethodName)) ∈ gx_tb := gx_ok (List.mem_of_getElem? (i := 830) (by decide +kernel)) (by decide +kernel)
theorem gw_831 : (Jvm.Cond.selects "Grammarsmith$Facts" ({ cls := "Grammarsmith$Facts", name := "least", desc := "(I)I" } : Jvm.MethodName) ({ cls := "Grammarsmith$Facts", name := "least", desc := "(I)I" } : Jvm.MethodName)) ∈ gx_tb := gx_ok (List.mem_of_getElem? (i := 831) (by decide +kernel)) (by decide +kernel)
theorem gw_833 : (Jvm.Cond.methodLink "GrammarsmithLaw" (94 : Nat) ({ cls := "GrammarsmithLaw", name := "type", desc := "(LGrammarsmith;C[J)I" } : Jvm.MethodName)) ∈ gx_tb := gx_ok (List.mem_of_getElem? (i := 833) (by decide +kernel)) (by decide +kernel)
theorem gw_834 : (Jvm.Cond.static ({ cls := "GrammarsmithLaw", name := "type", desc := "(LGrammarsmith;C[J)I" } : Jvm.MethodName)) ∈ gx_tb := gx_ok (List.mem_of_getElem? (i := 834) (by decide +kernel)) (by decide +kernel)
theorem gw_836 : (Jvm.Cond.classLink "GrammarsmithLaw" (13 : Nat) "java/lang/IllegalArgumentException") ∈ gx_tb := gx_ok (List.mem_of_getElem? (i := 836) (by decide +kernel)) (by decide +kernel)
theorem gw_837 : (Jvm.Cond.classLink "GrammarsmithLaw" (15 : Nat) "java/lang/IllegalStateException") ∈ gx_tb := gx_ok (List.mem_of_getElem? (i := 837) (by decide +kernel)) (by decide +kernel)
theorem gw_838 : (Jvm.Cond.methodLink "GrammarsmithLaw" (7 : Nat) ({ cls := "Grammarsmith", name := "type", desc := "(C)I" } : Jvm.MethodName)) ∈ gx_tb := gx_ok (List.mem_of_getElem? (i := 838) (by decide +kernel)) (by decide +kernel)
theorem gw_839 : (Jvm.Cond.instanceMethod ({ cls := "Grammarsmith", name := "type", desc := "(C)I" } : Jvm.MethodName)) ∈ gx_tb := gx_ok (List.mem_of_getElem? (i := 839) (by decide +kernel)) (by decide +kernel)
theorem gw_840 : (Jvm.Cond.selects "Grammarsmith" ({ cls := "Grammarsmith", name := "type", desc := "(C)I" } : Jvm.MethodName) ({ cls := "Grammarsmith", name := "type", desc := "(C)I" } : Jvm.MethodName)) ∈ gx_tb := gx_ok (List.mem_of_getElem? (i := 840) (by decide +kernel)) (by decide +kernel)
theorem gw_842 : (Jvm.Cond.methodLink "Grammarsmith" (101 : Nat) ({ cls := "Grammarsmith", name := "isLetter", desc := "(C)Z" } : Jvm.MethodName)) ∈ gx_tb := gx_ok (List.mem_of_getElem? (i := 842) (by decide +kernel)) (by decide +kernel)
theorem gw_843 : (Jvm.Cond.static ({ cls := "Grammarsmith", name := "isLetter", desc := "(C)Z" } : Jvm.MethodName)) ∈ gx_tb := gx_ok (List.mem_of_getElem? (i := 843) (by decide +kernel)) (by decide +kernel)
theorem gw_845 : (Jvm.Cond.methodLink "Grammarsmith" (280 : Nat) ({ cls := "Grammarsmith", name := "isTerminalLetter", desc := "(C)Z" } : Jvm.MethodName)) ∈ gx_tb := gx_ok (List.mem_of_getElem? (i := 845) (by decide +kernel)) (by decide +kernel)
theorem gw_846 : (Jvm.Cond.methodLink "Grammarsmith" (283 : Nat) ({ cls := "Grammarsmith", name := "isNonterminalLetter", desc := "(C)Z" } : Jvm.MethodName)) ∈ gx_tb := gx_ok (List.mem_of_getElem? (i := 846) (by decide +kernel)) (by decide +kernel)
theorem gw_847 : (Jvm.Cond.methodLink "Grammarsmith" (286 : Nat) ({ cls := "Grammarsmith", name := "isRepeat", desc := "(C)Z" } : Jvm.MethodName)) ∈ gx_tb := gx_ok (List.mem_of_getElem? (i := 847) (by decide +kernel)) (by decide +kernel)
theorem gw_9 : (Jvm.Cond.initialized "Grammarsmith$PredictiveTable") ∈ gx_tb := gx_ok (List.mem_of_getElem? (i := 9) (by decide +kernel)) (by decide +kernel)
theorem gw_916 : (Jvm.Cond.methodLink "Grammarsmith" (112 : Nat) ({ cls := "Grammarsmith$RuleText", name := "isFull", desc := "()Z" } : Jvm.MethodName)) ∈ gx_tb := gx_ok (List.mem_of_getElem? (i := 916) (by decide +kernel)) (by decide +kernel)
theorem gw_917 : (Jvm.Cond.instanceMethod ({ cls := "Grammarsmith$RuleText", name := "isFull", desc := "()Z" } : Jvm.MethodName)) ∈ gx_tb := gx_ok (List.mem_of_getElem? (i := 917) (by decide +kernel)) (by decide +kernel)
theorem gw_918 : (Jvm.Cond.selects "Grammarsmith$RuleText" ({ cls := "Grammarsmith$RuleText", name := "isFull", desc := "()Z" } : Jvm.MethodName) ({ cls := "Grammarsmith$RuleText", name := "isFull", desc := "()Z" } : Jvm.MethodName)) ∈ gx_tb := gx_ok (List.mem_of_getElem? (i := 918) (by decide +kernel)) (by decide +kernel)
theorem gw_936 : (Jvm.Cond.methodLink "Grammarsmith" (121 : Nat) ({ cls := "Grammarsmith$RuleText", name := "append", desc := "(C)I" } : Jvm.MethodName)) ∈ gx_tb := gx_ok (List.mem_of_getElem? (i := 936) (by decide +kernel)) (by decide +kernel)
theorem gw_937 : (Jvm.Cond.instanceMethod ({ cls := "Grammarsmith$RuleText", name := "append", desc := "(C)I" } : Jvm.MethodName)) ∈ gx_tb := gx_ok (List.mem_of_getElem? (i := 937) (by decide +kernel)) (by decide +kernel)
theorem gw_938 : (Jvm.Cond.selects "Grammarsmith$RuleText" ({ cls := "Grammarsmith$RuleText", name := "append", desc := "(C)I" } : Jvm.MethodName) ({ cls := "Grammarsmith$RuleText", name := "append", desc := "(C)I" } : Jvm.MethodName)) ∈ gx_tb := gx_ok (List.mem_of_getElem? (i := 938) (by decide +kernel)) (by decide +kernel)
theorem gw_940 : (Jvm.Cond.methodLink "GrammarsmithLaw" (111 : Nat) ({ cls := "GrammarsmithLaw", name := "enter", desc := "(LGrammarsmith;[J)I" } : Jvm.MethodName)) ∈ gx_tb := gx_ok (List.mem_of_getElem? (i := 940) (by decide +kernel)) (by decide +kernel)
theorem gw_941 : (Jvm.Cond.static ({ cls := "GrammarsmithLaw", name := "enter", desc := "(LGrammarsmith;[J)I" } : Jvm.MethodName)) ∈ gx_tb := gx_ok (List.mem_of_getElem? (i := 941) (by decide +kernel)) (by decide +kernel)
theorem gw_943 : (Jvm.Cond.methodLink "GrammarsmithLaw" (17 : Nat) ({ cls := "Grammarsmith", name := "enter", desc := "()I" } : Jvm.MethodName)) ∈ gx_tb := gx_ok (List.mem_of_getElem? (i := 943) (by decide +kernel)) (by decide +kernel)
theorem gw_944 : (Jvm.Cond.instanceMethod ({ cls := "Grammarsmith", name := "enter", desc := "()I" } : Jvm.MethodName)) ∈ gx_tb := gx_ok (List.mem_of_getElem? (i := 944) (by decide +kernel)) (by decide +kernel)
theorem gw_945 : (Jvm.Cond.selects "Grammarsmith" ({ cls := "Grammarsmith", name := "enter", desc := "()I" } : Jvm.MethodName) ({ cls := "Grammarsmith", name := "enter", desc := "()I" } : Jvm.MethodName)) ∈ gx_tb := gx_ok (List.mem_of_getElem? (i := 945) (by decide +kernel)) (by decide +kernel)
theorem gw_948 : (Jvm.Cond.methodLink "Grammarsmith" (134 : Nat) ({ cls := "Grammarsmith$Grammar", name := "\x61dmit", desc := "(LGrammarsmith$RuleText;)Z" } : Jvm.MethodName)) ∈ gx_tb := gx_ok (List.mem_of_getElem? (i := 948) (by decide +kernel)) (by decide +kernel)
theorem gw_949 : (Jvm.Cond.instanceMethod ({ cls := "Grammarsmith$Grammar", name := "\x61dmit", desc := "(LGrammarsmith$RuleText;)Z" } : Jvm.MethodName)) ∈ gx_tb := gx_ok (List.mem_of_getElem? (i := 949) (by decide +kernel)) (by decide +kernel)
theorem gw_950 : (Jvm.Cond.selects "Grammarsmith$Grammar" ({ cls := "Grammarsmith$Grammar", name := "\x61dmit", desc := "(LGrammarsmith$RuleText;)Z" } : Jvm.MethodName) ({ cls := "Grammarsmith$Grammar", name := "\x61dmit", desc := "(LGrammarsmith$RuleText;)Z" } : Jvm.MethodName)) ∈ gx_tb := gx_ok (List.mem_of_getElem? (i := 950) (by decide +kernel)) (by decide +kernel)
theorem gw_952 : (Jvm.Cond.methodLink "Grammarsmith$Grammar" (74 : Nat) ({ cls := "Grammarsmith$RuleReader", name := "read", desc := "(LGrammarsmith$RuleText;LGrammarsmith$Grammar;)Z" } : Jvm.MethodName)) ∈ gx_tb := gx_ok (List.mem_of_getElem? (i := 952) (by decide +kernel)) (by decide +kernel)
theorem gw_953 : (Jvm.Cond.instanceMethod ({ cls := "Grammarsmith$RuleReader", name := "read", desc := "(LGrammarsmith$RuleText;LGrammarsmith$Grammar;)Z" } : Jvm.MethodName)) ∈ gx_tb := gx_ok (List.mem_of_getElem? (i := 953) (by decide +kernel)) (by decide +kernel)
theorem gw_954 : (Jvm.Cond.selects "Grammarsmith$RuleReader" ({ cls := "Grammarsmith$RuleReader", name := "read", desc := "(LGrammarsmith$RuleText;LGrammarsmith$Grammar;)Z" } : Jvm.MethodName) ({ cls := "Grammarsmith$RuleReader", name := "read", desc := "(LGrammarsmith$RuleText;LGrammarsmith$Grammar;)Z" } : Jvm.MethodName)) ∈ gx_tb := gx_ok (List.mem_of_getElem? (i := 954) (by decide +kernel)) (by decide +kernel)
theorem gw_956 : (Jvm.Cond.methodLink "Grammarsmith$RuleReader" (19 : Nat) ({ cls := "Grammarsmith$RuleText", name := "length", desc := "()I" } : Jvm.MethodName)) ∈ gx_tb := gx_ok (List.mem_of_getElem? (i := 956) (by decide +kernel)) (by decide +kernel)
theorem gw_957 : (Jvm.Cond.instanceMethod ({ cls := "Grammarsmith$RuleText", name := "length", desc := "()I" } : Jvm.MethodName)) ∈ gx_tb := gx_ok (List.mem_of_getElem? (i := 957) (by decide +kernel)) (by decide +kernel)
theorem gw_958 : (Jvm.Cond.selects "Grammarsmith$RuleText" ({ cls := "Grammarsmith$RuleText", name := "length", desc := "()I" } : Jvm.MethodName) ({ cls := "Grammarsmith$RuleText", name := "length", desc := "()I" } : Jvm.MethodName)) ∈ gx_tb := gx_ok (List.mem_of_getElem? (i := 958) (by decide +kernel)) (by decide +kernel)
theorem gw_960 : (Jvm.Cond.methodLink "Grammarsmith$RuleReader" (25 : Nat) ({ cls := "Grammarsmith$RuleText", name := "letter", desc := "(I)C" } : Jvm.MethodName)) ∈ gx_tb := gx_ok (List.mem_of_getElem? (i := 960) (by decide +kernel)) (by decide +kernel)
theorem gw_961 : (Jvm.Cond.methodLink "Grammarsmith$RuleReader" (29 : Nat) ({ cls := "Grammarsmith$RuleReader", name := "wrap", desc := "(LGrammarsmith$Grammar;CI)Z" } : Jvm.MethodName)) ∈ gx_tb := gx_ok (List.mem_of_getElem? (i := 961) (by decide +kernel)) (by decide +kernel)
theorem gw_963 : (Jvm.Cond.instanceMethod ({ cls := "Grammarsmith$RuleReader", name := "wrap", desc := "(LGrammarsmith$Grammar;CI)Z" } : Jvm.MethodName)) ∈ gx_tb := gx_ok (List.mem_of_getElem? (i := 963) (by decide +kernel)) (by decide +kernel)
theorem gw_965 : (Jvm.Cond.methodLink "Grammarsmith$RuleReader" (55 : Nat) ({ cls := "Grammarsmith$Grammar", name := "freeHelper", desc := "()I" } : Jvm.MethodName)) ∈ gx_tb := gx_ok (List.mem_of_getElem? (i := 965) (by decide +kernel)) (by decide +kernel)
theorem gw_966 : (Jvm.Cond.instanceMethod ({ cls := "Grammarsmith$Grammar", name := "freeHelper", desc := "()I" } : Jvm.MethodName)) ∈ gx_tb := gx_ok (List.mem_of_getElem? (i := 966) (by decide +kernel)) (by decide +kernel)
theorem gw_967 : (Jvm.Cond.selects "Grammarsmith$Grammar" ({ cls := "Grammarsmith$Grammar", name := "freeHelper", desc := "()I" } : Jvm.MethodName) ({ cls := "Grammarsmith$Grammar", name := "freeHelper", desc := "()I" } : Jvm.MethodName)) ∈ gx_tb := gx_ok (List.mem_of_getElem? (i := 967) (by decide +kernel)) (by decide +kernel)
theorem gw_969 : (Jvm.Cond.methodLink "Grammarsmith$Grammar" (64 : Nat) ({ cls := "Grammarsmith$Grammar", name := "owner", desc := "(I)I" } : Jvm.MethodName)) ∈ gx_tb := gx_ok (List.mem_of_getElem? (i := 969) (by decide +kernel)) (by decide +kernel)
theorem gw_972 : (Jvm.Cond.methodLink "Grammarsmith$RuleReader" (60 : Nat) ({ cls := "Grammarsmith$Grammar", name := "open", desc := "(I)Z" } : Jvm.MethodName)) ∈ gx_tb := gx_ok (List.mem_of_getElem? (i := 972) (by decide +kernel)) (by decide +kernel)
theorem gw_973 : (Jvm.Cond.instanceMethod ({ cls := "Grammarsmith$Grammar", name := "open", desc := "(I)Z" } : Jvm.MethodName)) ∈ gx_tb := gx_ok (List.mem_of_getElem? (i := 973) (by decide +kernel)) (by decide +kernel)
theorem gw_974 : (Jvm.Cond.selects "Grammarsmith$Grammar" ({ cls := "Grammarsmith$Grammar", name := "open", desc := "(I)Z" } : Jvm.MethodName) ({ cls := "Grammarsmith$Grammar", name := "open", desc := "(I)Z" } : Jvm.MethodName)) ∈ gx_tb := gx_ok (List.mem_of_getElem? (i := 974) (by decide +kernel)) (by decide +kernel)
theorem gw_976 : (Jvm.Cond.methodLink "Grammarsmith$RuleReader" (62 : Nat) ({ cls := "Grammarsmith$Grammar", name := "extend", desc := "(I)Z" } : Jvm.MethodName)) ∈ gx_tb := gx_ok (List.mem_of_getElem? (i := 976) (by decide +kernel)) (by decide +kernel)
theorem gw_977 : (Jvm.Cond.instanceMethod ({ cls := "Grammarsmith$Grammar", name := "extend", desc := "(I)Z" } : Jvm.MethodName)) ∈ gx_tb := gx_ok (List.mem_of_getElem? (i := 977) (by decide +kernel)) (by decide +kernel)
theorem gw_978 : (Jvm.Cond.selects "Grammarsmith$Grammar" ({ cls := "Grammarsmith$Grammar", name := "extend", desc := "(I)Z" } : Jvm.MethodName) ({ cls := "Grammarsmith$Grammar", name := "extend", desc := "(I)Z" } : Jvm.MethodName)) ∈ gx_tb := gx_ok (List.mem_of_getElem? (i := 978) (by decide +kernel)) (by decide +kernel)
theorem gw_98 : (Jvm.Cond.methodLink "Grammarsmith" (19 : Nat) ({ cls := "java/util/Arrays", name := "fill", desc := "([II)V" } : Jvm.MethodName)) ∈ gx_tb := gx_ok (List.mem_of_getElem? (i := 98) (by decide +kernel)) (by decide +kernel)
theorem gw_981 : (Jvm.Cond.methodLink "Grammarsmith$RuleReader" (37 : Nat) ({ cls := "Grammarsmith$RuleReader", name := "push", desc := "(I)Z" } : Jvm.MethodName)) ∈ gx_tb := gx_ok (List.mem_of_getElem? (i := 981) (by decide +kernel)) (by decide +kernel)
theorem gw_983 : (Jvm.Cond.instanceMethod ({ cls := "Grammarsmith$RuleReader", name := "push", desc := "(I)Z" } : Jvm.MethodName)) ∈ gx_tb := gx_ok (List.mem_of_getElem? (i := 983) (by decide +kernel)) (by decide +kernel)
theorem gw_986 : (Jvm.Cond.methodLink "Grammarsmith$RuleReader" (44 : Nat) ({ cls := "Grammarsmith$RuleReader", name := "closeBracket", desc := "(LGrammarsmith$Grammar;)Z" } : Jvm.MethodName)) ∈ gx_tb := gx_ok (List.mem_of_getElem? (i := 986) (by decide +kernel)) (by decide +kernel)
theorem gw_988 : (Jvm.Cond.instanceMethod ({ cls := "Grammarsmith$RuleReader", name := "closeBracket", desc := "(LGrammarsmith$Grammar;)Z" } : Jvm.MethodName)) ∈ gx_tb := gx_ok (List.mem_of_getElem? (i := 988) (by decide +kernel)) (by decide +kernel)
theorem gw_99 : (Jvm.Cond.static ({ cls := "java/util/Arrays", name := "fill", desc := "([II)V" } : Jvm.MethodName)) ∈ gx_tb := gx_ok (List.mem_of_getElem? (i := 99) (by decide +kernel)) (by decide +kernel)
theorem gw_990 : (Jvm.Cond.methodLink "Grammarsmith$RuleReader" (51 : Nat) ({ cls := "Grammarsmith$RuleReader", name := "release", desc := "(LGrammarsmith$Grammar;II)Z" } : Jvm.MethodName)) ∈ gx_tb := gx_ok (List.mem_of_getElem? (i := 990) (by decide +kernel)) (by decide +kernel)
theorem gw_992 : (Jvm.Cond.instanceMethod ({ cls := "Grammarsmith$RuleReader", name := "release", desc := "(LGrammarsmith$Grammar;II)Z" } : Jvm.MethodName)) ∈ gx_tb := gx_ok (List.mem_of_getElem? (i := 992) (by decide +kernel)) (by decide +kernel)
theorem gw_995 : (Jvm.Cond.methodLink "Grammarsmith$Grammar" (78 : Nat) ({ cls := "Grammarsmith$RuleText", name := "copyRenamed", desc := "(LGrammarsmith$RuleText;I)V" } : Jvm.MethodName)) ∈ gx_tb := gx_ok (List.mem_of_getElem? (i := 995) (by decide +kernel)) (by decide +kernel)
theorem gw_996 : (Jvm.Cond.instanceMethod ({ cls := "Grammarsmith$RuleText", name := "copyRenamed", desc := "(LGrammarsmith$RuleText;I)V" } : Jvm.MethodName)) ∈ gx_tb := gx_ok (List.mem_of_getElem? (i := 996) (by decide +kernel)) (by decide +kernel)
theorem gw_997 : (Jvm.Cond.selects "Grammarsmith$RuleText" ({ cls := "Grammarsmith$RuleText", name := "copyRenamed", desc := "(LGrammarsmith$RuleText;I)V" } : Jvm.MethodName) ({ cls := "Grammarsmith$RuleText", name := "copyRenamed", desc := "(LGrammarsmith$RuleText;I)V" } : Jvm.MethodName)) ∈ gx_tb := gx_ok (List.mem_of_getElem? (i := 997) (by decide +kernel)) (by decide +kernel)
theorem gw_999 : (Jvm.Cond.methodLink "Grammarsmith$RuleText" (27 : Nat) ({ cls := "Grammarsmith$RuleText", name := "append", desc := "(C)I" } : Jvm.MethodName)) ∈ gx_tb := gx_ok (List.mem_of_getElem? (i := 999) (by decide +kernel)) (by decide +kernel)
theorem gz_0_fill : Cond.selects "Grammarsmith$CountingChart" (⟨"Grammarsmith$Chart", "fill", "(II)V"⟩ : MethodName) ⟨"Grammarsmith$Chart", "fill", "(II)V"⟩ ∈ gx_tb := gx_okx (by decide +kernel) (by decide +kernel)
theorem gz_0_ofProduction : Cond.selects "Grammarsmith$CountingChart" (⟨"Grammarsmith$Chart", "ofProduction", "(III)I"⟩ : MethodName) ⟨"Grammarsmith$Chart", "ofProduction", "(III)I"⟩ ∈ gx_tb := gx_okx (by decide +kernel) (by decide +kernel)
theorem gz_0_part : Cond.selects "Grammarsmith$CountingChart" (⟨"Grammarsmith$Chart", "part", "(III)I"⟩ : MethodName) ⟨"Grammarsmith$Chart", "part", "(III)I"⟩ ∈ gx_tb := gx_okx (by decide +kernel) (by decide +kernel)
theorem gz_0_refine : Cond.selects "Grammarsmith$CountingChart" (⟨"Grammarsmith$Chart", "refine", "(II)Z"⟩ : MethodName) ⟨"Grammarsmith$Chart", "refine", "(II)Z"⟩ ∈ gx_tb := gx_okx (by decide +kernel) (by decide +kernel)
theorem gz_0_setPart : Cond.selects "Grammarsmith$CountingChart" (⟨"Grammarsmith$Chart", "setPart", "(IIII)V"⟩ : MethodName) ⟨"Grammarsmith$Chart", "setPart", "(IIII)V"⟩ ∈ gx_tb := gx_okx (by decide +kernel) (by decide +kernel)
theorem gz_0_setWhole : Cond.selects "Grammarsmith$CountingChart" (⟨"Grammarsmith$Chart", "setWhole", "(IIII)V"⟩ : MethodName) ⟨"Grammarsmith$Chart", "setWhole", "(IIII)V"⟩ ∈ gx_tb := gx_okx (by decide +kernel) (by decide +kernel)
theorem gz_0_whole : Cond.selects "Grammarsmith$CountingChart" (⟨"Grammarsmith$Chart", "whole", "(III)I"⟩ : MethodName) ⟨"Grammarsmith$Chart", "whole", "(III)I"⟩ ∈ gx_tb := gx_okx (by decide +kernel) (by decide +kernel)
theorem gz_1_fill : Cond.selects "Grammarsmith$RepairingChart" (⟨"Grammarsmith$Chart", "fill", "(II)V"⟩ : MethodName) ⟨"Grammarsmith$Chart", "fill", "(II)V"⟩ ∈ gx_tb := gx_okx (by decide +kernel) (by decide +kernel)
theorem gz_1_ofProduction : Cond.selects "Grammarsmith$RepairingChart" (⟨"Grammarsmith$Chart", "ofProduction", "(III)I"⟩ : MethodName) ⟨"Grammarsmith$Chart", "ofProduction", "(III)I"⟩ ∈ gx_tb := gx_okx (by decide +kernel) (by decide +kernel)
theorem gz_1_part : Cond.selects "Grammarsmith$RepairingChart" (⟨"Grammarsmith$Chart", "part", "(III)I"⟩ : MethodName) ⟨"Grammarsmith$Chart", "part", "(III)I"⟩ ∈ gx_tb := gx_okx (by decide +kernel) (by decide +kernel)
theorem gz_1_refine : Cond.selects "Grammarsmith$RepairingChart" (⟨"Grammarsmith$Chart", "refine", "(II)Z"⟩ : MethodName) ⟨"Grammarsmith$Chart", "refine", "(II)Z"⟩ ∈ gx_tb := gx_okx (by decide +kernel) (by decide +kernel)
theorem gz_1_setPart : Cond.selects "Grammarsmith$RepairingChart" (⟨"Grammarsmith$Chart", "setPart", "(IIII)V"⟩ : MethodName) ⟨"Grammarsmith$Chart", "setPart", "(IIII)V"⟩ ∈ gx_tb := gx_okx (by decide +kernel) (by decide +kernel)
theorem gz_1_setWhole : Cond.selects "Grammarsmith$RepairingChart" (⟨"Grammarsmith$Chart", "setWhole", "(IIII)V"⟩ : MethodName) ⟨"Grammarsmith$Chart", "setWhole", "(IIII)V"⟩ ∈ gx_tb := gx_okx (by decide +kernel) (by decide +kernel)
theorem gz_1_whole : Cond.selects "Grammarsmith$RepairingChart" (⟨"Grammarsmith$Chart", "whole", "(III)I"⟩ : MethodName) ⟨"Grammarsmith$Chart", "whole", "(III)I"⟩ ∈ gx_tb := gx_okx (by decide +kernel) (by decide +kernel)
theorem gf_RX11_12_9_0 : gx_fl0 RX11 12 9 0 ∈ gx_tb := gx_ok (List.mem_of_getElem? (i := 301) (by decide +kernel)) (by decide +kernel)
theorem gf_RX11_35_9_1 : gx_fl0 RX11 35 9 1 ∈ gx_tb := gx_ok (List.mem_of_getElem? (i := 302) (by decide +kernel)) (by decide +kernel)
theorem gf_RX11_39_9_2 : gx_fl0 RX11 39 9 2 ∈ gx_tb := gx_ok (List.mem_of_getElem? (i := 303) (by decide +kernel)) (by decide +kernel)
theorem gf_RX11_42_9_4 : gx_fl0 RX11 42 9 4 ∈ gx_tb := gx_ok (List.mem_of_getElem? (i := 305) (by decide +kernel)) (by decide +kernel)
theorem gf_RX11_46_9_5 : gx_fl0 RX11 46 9 5 ∈ gx_tb := gx_ok (List.mem_of_getElem? (i := 306) (by decide +kernel)) (by decide +kernel)
theorem gf_RX11_49_9_6 : gx_fl0 RX11 49 9 6 ∈ gx_tb := gx_ok (List.mem_of_getElem? (i := 307) (by decide +kernel)) (by decide +kernel)
theorem gf_RX11_52_9_8 : gx_fl0 RX11 52 9 8 ∈ gx_tb := gx_ok (List.mem_of_getElem? (i := 309) (by decide +kernel)) (by decide +kernel)
theorem gf_RX11_56_9_9 : gx_fl0 RX11 56 9 9 ∈ gx_tb := gx_ok (List.mem_of_getElem? (i := 310) (by decide +kernel)) (by decide +kernel)
theorem gf_RX11_60_9_10 : gx_fl0 RX11 60 9 10 ∈ gx_tb := gx_ok (List.mem_of_getElem? (i := 311) (by decide +kernel)) (by decide +kernel)
theorem gf_RX11_68_9_11 : gx_fl0 RX11 68 9 11 ∈ gx_tb := gx_ok (List.mem_of_getElem? (i := 312) (by decide +kernel)) (by decide +kernel)
theorem gf_RX11_77_9_12 : gx_fl0 RX11 77 9 12 ∈ gx_tb := gx_ok (List.mem_of_getElem? (i := 313) (by decide +kernel)) (by decide +kernel)
theorem gf_RX11_80_9_13 : gx_fl0 RX11 80 9 13 ∈ gx_tb := gx_ok (List.mem_of_getElem? (i := 314) (by decide +kernel)) (by decide +kernel)
theorem gf_RX11_83_9_14 : gx_fl0 RX11 83 9 14 ∈ gx_tb := gx_ok (List.mem_of_getElem? (i := 315) (by decide +kernel)) (by decide +kernel)
theorem gf_RX11_91_9_15 : gx_fl0 RX11 91 9 15 ∈ gx_tb := gx_ok (List.mem_of_getElem? (i := 316) (by decide +kernel)) (by decide +kernel)
theorem gf_RX11_98_9_16 : gx_fl0 RX11 98 9 16 ∈ gx_tb := gx_ok (List.mem_of_getElem? (i := 317) (by decide +kernel)) (by decide +kernel)
theorem gf_RX11_156_9_3 : gx_fl0 RX11 156 9 3 ∈ gx_tb := gx_ok (List.mem_of_getElem? (i := 304) (by decide +kernel)) (by decide +kernel)
theorem gf_RX11_252_9_7 : gx_fl0 RX11 252 9 7 ∈ gx_tb := gx_ok (List.mem_of_getElem? (i := 308) (by decide +kernel)) (by decide +kernel)
theorem gf_RX0_9_0_5 : gx_fl0 RX0 9 0 5 ∈ gx_tb := gx_ok (List.mem_of_getElem? (i := 162) (by decide +kernel)) (by decide +kernel)
theorem gf_RX0_15_0_6 : gx_fl0 RX0 15 0 6 ∈ gx_tb := gx_ok (List.mem_of_getElem? (i := 163) (by decide +kernel)) (by decide +kernel)
theorem gf_RX0_18_0_7 : gx_fl0 RX0 18 0 7 ∈ gx_tb := gx_ok (List.mem_of_getElem? (i := 164) (by decide +kernel)) (by decide +kernel)
theorem gf_RX0_21_0_8 : gx_fl0 RX0 21 0 8 ∈ gx_tb := gx_ok (List.mem_of_getElem? (i := 165) (by decide +kernel)) (by decide +kernel)
theorem gf_RX0_25_0_9 : gx_fl0 RX0 25 0 9 ∈ gx_tb := gx_ok (List.mem_of_getElem? (i := 166) (by decide +kernel)) (by decide +kernel)
theorem gf_RX0_28_0_0 : gx_fl0 RX0 28 0 0 ∈ gx_tb := gx_ok (List.mem_of_getElem? (i := 157) (by decide +kernel)) (by decide +kernel)
theorem gf_RX0_32_0_1 : gx_fl0 RX0 32 0 1 ∈ gx_tb := gx_ok (List.mem_of_getElem? (i := 158) (by decide +kernel)) (by decide +kernel)
theorem gf_RX0_36_0_2 : gx_fl0 RX0 36 0 2 ∈ gx_tb := gx_ok (List.mem_of_getElem? (i := 159) (by decide +kernel)) (by decide +kernel)
theorem gf_RX0_39_0_3 : gx_fl0 RX0 39 0 3 ∈ gx_tb := gx_ok (List.mem_of_getElem? (i := 160) (by decide +kernel)) (by decide +kernel)
theorem gf_RX0_42_0_4 : gx_fl0 RX0 42 0 4 ∈ gx_tb := gx_ok (List.mem_of_getElem? (i := 161) (by decide +kernel)) (by decide +kernel)
theorem gf_RX1_9_1_4 : gx_fl0 RX1 9 1 4 ∈ gx_tb := gx_ok (List.mem_of_getElem? (i := 277) (by decide +kernel)) (by decide +kernel)
theorem gf_RX1_9_5_4 : gx_fl0 RX1 9 5 4 ∈ gx_tb := gx_ok (List.mem_of_getElem? (i := 277) (by decide +kernel)) (by decide +kernel)
theorem gf_RX1_15_1_0 : gx_fl0 RX1 15 1 0 ∈ gx_tb := gx_ok (List.mem_of_getElem? (i := 273) (by decide +kernel)) (by decide +kernel)
theorem gf_RX1_15_5_0 : gx_fl0 RX1 15 5 0 ∈ gx_tb := gx_ok (List.mem_of_getElem? (i := 273) (by decide +kernel)) (by decide +kernel)
theorem gf_RX1_19_1_1 : gx_fl0 RX1 19 1 1 ∈ gx_tb := gx_ok (List.mem_of_getElem? (i := 274) (by decide +kernel)) (by decide +kernel)
theorem gf_RX1_19_5_1 : gx_fl0 RX1 19 5 1 ∈ gx_tb := gx_ok (List.mem_of_getElem? (i := 274) (by decide +kernel)) (by decide +kernel)
theorem gf_RX1_22_1_2 : gx_fl0 RX1 22 1 2 ∈ gx_tb := gx_ok (List.mem_of_getElem? (i := 275) (by decide +kernel)) (by decide +kernel)
theorem gf_RX1_22_5_2 : gx_fl0 RX1 22 5 2 ∈ gx_tb := gx_ok (List.mem_of_getElem? (i := 275) (by decide +kernel)) (by decide +kernel)
theorem gf_RX1_25_1_3 : gx_fl0 RX1 25 1 3 ∈ gx_tb := gx_ok (List.mem_of_getElem? (i := 276) (by decide +kernel)) (by decide +kernel)
theorem gf_RX1_25_5_3 : gx_fl0 RX1 25 5 3 ∈ gx_tb := gx_ok (List.mem_of_getElem? (i := 276) (by decide +kernel)) (by decide +kernel)
theorem gf_RX3_9_2_5 : gx_fl0 RX3 9 2 5 ∈ gx_tb := gx_ok (List.mem_of_getElem? (i := 112) (by decide +kernel)) (by decide +kernel)
theorem gf_RX3_15_2_6 : gx_fl0 RX3 15 2 6 ∈ gx_tb := gx_ok (List.mem_of_getElem? (i := 113) (by decide +kernel)) (by decide +kernel)
theorem gf_RX3_18_2_7 : gx_fl0 RX3 18 2 7 ∈ gx_tb := gx_ok (List.mem_of_getElem? (i := 114) (by decide +kernel)) (by decide +kernel)
theorem gf_RX3_21_2_8 : gx_fl0 RX3 21 2 8 ∈ gx_tb := gx_ok (List.mem_of_getElem? (i := 115) (by decide +kernel)) (by decide +kernel)
theorem gf_RX3_24_2_9 : gx_fl0 RX3 24 2 9 ∈ gx_tb := gx_ok (List.mem_of_getElem? (i := 116) (by decide +kernel)) (by decide +kernel)
theorem gf_RX3_28_2_11 : gx_fl0 RX3 28 2 11 ∈ gx_tb := gx_ok (List.mem_of_getElem? (i := 118) (by decide +kernel)) (by decide +kernel)
theorem gf_RX3_31_2_12 : gx_fl0 RX3 31 2 12 ∈ gx_tb := gx_ok (List.mem_of_getElem? (i := 119) (by decide +kernel)) (by decide +kernel)
theorem gf_RX3_34_2_13 : gx_fl0 RX3 34 2 13 ∈ gx_tb := gx_ok (List.mem_of_getElem? (i := 120) (by decide +kernel)) (by decide +kernel)
theorem gf_RX3_37_2_0 : gx_fl0 RX3 37 2 0 ∈ gx_tb := gx_ok (List.mem_of_getElem? (i := 107) (by decide +kernel)) (by decide +kernel)
theorem gf_RX3_41_2_1 : gx_fl0 RX3 41 2 1 ∈ gx_tb := gx_ok (List.mem_of_getElem? (i := 108) (by decide +kernel)) (by decide +kernel)
theorem gf_RX3_79_2_2 : gx_fl0 RX3 79 2 2 ∈ gx_tb := gx_ok (List.mem_of_getElem? (i := 109) (by decide +kernel)) (by decide +kernel)
theorem gf_RX3_87_2_3 : gx_fl0 RX3 87 2 3 ∈ gx_tb := gx_ok (List.mem_of_getElem? (i := 110) (by decide +kernel)) (by decide +kernel)
theorem gf_RX3_90_2_4 : gx_fl0 RX3 90 2 4 ∈ gx_tb := gx_ok (List.mem_of_getElem? (i := 111) (by decide +kernel)) (by decide +kernel)
theorem gf_RX3_160_2_10 : gx_fl0 RX3 160 2 10 ∈ gx_tb := gx_ok (List.mem_of_getElem? (i := 117) (by decide +kernel)) (by decide +kernel)
theorem gf_RX4_9_3_0 : gx_fl0 RX4 9 3 0 ∈ gx_tb := gx_ok (List.mem_of_getElem? (i := 67) (by decide +kernel)) (by decide +kernel)
theorem gf_RX4_15_3_1 : gx_fl0 RX4 15 3 1 ∈ gx_tb := gx_ok (List.mem_of_getElem? (i := 68) (by decide +kernel)) (by decide +kernel)
theorem gf_RX4_18_3_2 : gx_fl0 RX4 18 3 2 ∈ gx_tb := gx_ok (List.mem_of_getElem? (i := 69) (by decide +kernel)) (by decide +kernel)
theorem gf_RX4_23_3_4 : gx_fl0 RX4 23 3 4 ∈ gx_tb := gx_ok (List.mem_of_getElem? (i := 71) (by decide +kernel)) (by decide +kernel)
theorem gf_RX4_27_3_5 : gx_fl0 RX4 27 3 5 ∈ gx_tb := gx_ok (List.mem_of_getElem? (i := 72) (by decide +kernel)) (by decide +kernel)
theorem gf_RX4_31_3_8 : gx_fl0 RX4 31 3 8 ∈ gx_tb := gx_ok (List.mem_of_getElem? (i := 75) (by decide +kernel)) (by decide +kernel)
theorem gf_RX4_38_3_9 : gx_fl0 RX4 38 3 9 ∈ gx_tb := gx_ok (List.mem_of_getElem? (i := 76) (by decide +kernel)) (by decide +kernel)
theorem gf_RX4_42_3_3 : gx_fl0 RX4 42 3 3 ∈ gx_tb := gx_ok (List.mem_of_getElem? (i := 70) (by decide +kernel)) (by decide +kernel)
theorem gf_RX4_46_3_6 : gx_fl0 RX4 46 3 6 ∈ gx_tb := gx_ok (List.mem_of_getElem? (i := 73) (by decide +kernel)) (by decide +kernel)
theorem gf_RX4_49_3_7 : gx_fl0 RX4 49 3 7 ∈ gx_tb := gx_ok (List.mem_of_getElem? (i := 74) (by decide +kernel)) (by decide +kernel)
theorem gf_RX5_9_4_3 : gx_fl0 RX5 9 4 3 ∈ gx_tb := gx_ok (List.mem_of_getElem? (i := 200) (by decide +kernel)) (by decide +kernel)
theorem gf_RX5_15_4_5 : gx_fl0 RX5 15 4 5 ∈ gx_tb := gx_ok (List.mem_of_getElem? (i := 202) (by decide +kernel)) (by decide +kernel)
theorem gf_RX5_18_4_1 : gx_fl0 RX5 18 4 1 ∈ gx_tb := gx_ok (List.mem_of_getElem? (i := 198) (by decide +kernel)) (by decide +kernel)
theorem gf_RX5_22_4_2 : gx_fl0 RX5 22 4 2 ∈ gx_tb := gx_ok (List.mem_of_getElem? (i := 199) (by decide +kernel)) (by decide +kernel)
theorem gf_RX5_29_4_4 : gx_fl0 RX5 29 4 4 ∈ gx_tb := gx_ok (List.mem_of_getElem? (i := 201) (by decide +kernel)) (by decide +kernel)
theorem gf_RX5_33_4_6 : gx_fl0 RX5 33 4 6 ∈ gx_tb := gx_ok (List.mem_of_getElem? (i := 203) (by decide +kernel)) (by decide +kernel)
theorem gf_RX7_9_6_0 : gx_fl0 RX7 9 6 0 ∈ gx_tb := gx_ok (List.mem_of_getElem? (i := 59) (by decide +kernel)) (by decide +kernel)
theorem gf_RX7_15_6_1 : gx_fl0 RX7 15 6 1 ∈ gx_tb := gx_ok (List.mem_of_getElem? (i := 60) (by decide +kernel)) (by decide +kernel)
theorem gf_RX8_9_7_0 : gx_fl0 RX8 9 7 0 ∈ gx_tb := gx_ok (List.mem_of_getElem? (i := 36) (by decide +kernel)) (by decide +kernel)
theorem gf_RX8_15_7_1 : gx_fl0 RX8 15 7 1 ∈ gx_tb := gx_ok (List.mem_of_getElem? (i := 37) (by decide +kernel)) (by decide +kernel)
theorem gf_RX9_9_8_10 : gx_fl0 RX9 9 8 10 ∈ gx_tb := gx_ok (List.mem_of_getElem? (i := 235) (by decide +kernel)) (by decide +kernel)
theorem gf_RX9_15_8_11 : gx_fl0 RX9 15 8 11 ∈ gx_tb := gx_ok (List.mem_of_getElem? (i := 236) (by decide +kernel)) (by decide +kernel)
theorem gf_RX9_18_8_1 : gx_fl0 RX9 18 8 1 ∈ gx_tb := gx_ok (List.mem_of_getElem? (i := 226) (by decide +kernel)) (by decide +kernel)
theorem gf_RX9_22_8_2 : gx_fl0 RX9 22 8 2 ∈ gx_tb := gx_ok (List.mem_of_getElem? (i := 227) (by decide +kernel)) (by decide +kernel)
theorem gf_RX9_26_8_3 : gx_fl0 RX9 26 8 3 ∈ gx_tb := gx_ok (List.mem_of_getElem? (i := 228) (by decide +kernel)) (by decide +kernel)
theorem gf_RX9_29_8_4 : gx_fl0 RX9 29 8 4 ∈ gx_tb := gx_ok (List.mem_of_getElem? (i := 229) (by decide +kernel)) (by decide +kernel)
theorem gf_RX9_32_8_5 : gx_fl0 RX9 32 8 5 ∈ gx_tb := gx_ok (List.mem_of_getElem? (i := 230) (by decide +kernel)) (by decide +kernel)
theorem gf_RX9_45_8_12 : gx_fl0 RX9 45 8 12 ∈ gx_tb := gx_ok (List.mem_of_getElem? (i := 237) (by decide +kernel)) (by decide +kernel)
theorem gf_RX9_101_8_6 : gx_fl0 RX9 101 8 6 ∈ gx_tb := gx_ok (List.mem_of_getElem? (i := 231) (by decide +kernel)) (by decide +kernel)
theorem gf_RX9_111_8_7 : gx_fl0 RX9 111 8 7 ∈ gx_tb := gx_ok (List.mem_of_getElem? (i := 232) (by decide +kernel)) (by decide +kernel)
theorem gf_RX9_114_8_8 : gx_fl0 RX9 114 8 8 ∈ gx_tb := gx_ok (List.mem_of_getElem? (i := 233) (by decide +kernel)) (by decide +kernel)
theorem gf_RX9_117_8_9 : gx_fl0 RX9 117 8 9 ∈ gx_tb := gx_ok (List.mem_of_getElem? (i := 234) (by decide +kernel)) (by decide +kernel)
theorem gf_RX10_7_4_0 : gx_fl0 RX10 7 4 0 ∈ gx_tb := gx_ok (List.mem_of_getElem? (i := 204) (by decide +kernel)) (by decide +kernel)
theorem gf_RX10_7_8_0 : gx_fl0 RX10 7 8 0 ∈ gx_tb := gx_ok (List.mem_of_getElem? (i := 204) (by decide +kernel)) (by decide +kernel)
theorem gf_RX12_7_10_0 : gx_fl0 RX12 7 10 0 ∈ gx_tb := gx_ok (List.mem_of_getElem? (i := 1327) (by decide +kernel)) (by decide +kernel)
theorem gf_RX12_13_10_1 : gx_fl0 RX12 13 10 1 ∈ gx_tb := gx_ok (List.mem_of_getElem? (i := 1328) (by decide +kernel)) (by decide +kernel)
theorem gf_RX12_16_10_2 : gx_fl0 RX12 16 10 2 ∈ gx_tb := gx_ok (List.mem_of_getElem? (i := 1329) (by decide +kernel)) (by decide +kernel)
theorem gf_RX12_19_10_3 : gx_fl0 RX12 19 10 3 ∈ gx_tb := gx_ok (List.mem_of_getElem? (i := 1330) (by decide +kernel)) (by decide +kernel)
theorem gf_RX12_22_10_4 : gx_fl0 RX12 22 10 4 ∈ gx_tb := gx_ok (List.mem_of_getElem? (i := 1331) (by decide +kernel)) (by decide +kernel)
theorem gf_RX12_25_10_5 : gx_fl0 RX12 25 10 5 ∈ gx_tb := gx_ok (List.mem_of_getElem? (i := 1332) (by decide +kernel)) (by decide +kernel)
theorem gf_RX12_28_10_6 : gx_fl0 RX12 28 10 6 ∈ gx_tb := gx_ok (List.mem_of_getElem? (i := 1333) (by decide +kernel)) (by decide +kernel)
theorem gf_RX12_31_10_7 : gx_fl0 RX12 31 10 7 ∈ gx_tb := gx_ok (List.mem_of_getElem? (i := 1334) (by decide +kernel)) (by decide +kernel)
theorem gf_RX12_34_10_8 : gx_fl0 RX12 34 10 8 ∈ gx_tb := gx_ok (List.mem_of_getElem? (i := 1335) (by decide +kernel)) (by decide +kernel)
theorem gf_RX12_37_10_10 : gx_fl0 RX12 37 10 10 ∈ gx_tb := gx_ok (List.mem_of_getElem? (i := 1337) (by decide +kernel)) (by decide +kernel)
theorem gf_RX12_40_10_11 : gx_fl0 RX12 40 10 11 ∈ gx_tb := gx_ok (List.mem_of_getElem? (i := 1338) (by decide +kernel)) (by decide +kernel)
theorem gf_RX12_43_10_12 : gx_fl0 RX12 43 10 12 ∈ gx_tb := gx_ok (List.mem_of_getElem? (i := 1339) (by decide +kernel)) (by decide +kernel)
theorem gf_RX12_46_10_14 : gx_fl0 RX12 46 10 14 ∈ gx_tb := gx_ok (List.mem_of_getElem? (i := 1341) (by decide +kernel)) (by decide +kernel)
theorem gf_RX12_49_10_16 : gx_fl0 RX12 49 10 16 ∈ gx_tb := gx_ok (List.mem_of_getElem? (i := 1343) (by decide +kernel)) (by decide +kernel)
theorem gf_RX12_52_10_19 : gx_fl0 RX12 52 10 19 ∈ gx_tb := gx_ok (List.mem_of_getElem? (i := 1346) (by decide +kernel)) (by decide +kernel)
theorem gf_RX12_55_10_20 : gx_fl0 RX12 55 10 20 ∈ gx_tb := gx_ok (List.mem_of_getElem? (i := 1347) (by decide +kernel)) (by decide +kernel)
theorem gf_RX12_58_10_21 : gx_fl0 RX12 58 10 21 ∈ gx_tb := gx_ok (List.mem_of_getElem? (i := 1348) (by decide +kernel)) (by decide +kernel)
theorem gf_RX12_61_10_22 : gx_fl0 RX12 61 10 22 ∈ gx_tb := gx_ok (List.mem_of_getElem? (i := 1349) (by decide +kernel)) (by decide +kernel)
theorem gf_RX12_65_10_23 : gx_fl0 RX12 65 10 23 ∈ gx_tb := gx_ok (List.mem_of_getElem? (i := 1350) (by decide +kernel)) (by decide +kernel)
theorem gf_RX12_68_10_24 : gx_fl0 RX12 68 10 24 ∈ gx_tb := gx_ok (List.mem_of_getElem? (i := 1351) (by decide +kernel)) (by decide +kernel)
theorem gf_RX12_71_10_26 : gx_fl0 RX12 71 10 26 ∈ gx_tb := gx_ok (List.mem_of_getElem? (i := 1353) (by decide +kernel)) (by decide +kernel)
theorem gf_RX12_74_10_27 : gx_fl0 RX12 74 10 27 ∈ gx_tb := gx_ok (List.mem_of_getElem? (i := 1354) (by decide +kernel)) (by decide +kernel)
theorem gf_RX12_77_10_28 : gx_fl0 RX12 77 10 28 ∈ gx_tb := gx_ok (List.mem_of_getElem? (i := 1355) (by decide +kernel)) (by decide +kernel)
theorem gf_RX12_80_10_30 : gx_fl0 RX12 80 10 30 ∈ gx_tb := gx_ok (List.mem_of_getElem? (i := 1357) (by decide +kernel)) (by decide +kernel)
theorem gf_RX12_83_10_31 : gx_fl0 RX12 83 10 31 ∈ gx_tb := gx_ok (List.mem_of_getElem? (i := 1358) (by decide +kernel)) (by decide +kernel)
theorem gf_RX12_86_10_36 : gx_fl0 RX12 86 10 36 ∈ gx_tb := gx_ok (List.mem_of_getElem? (i := 1363) (by decide +kernel)) (by decide +kernel)
theorem gf_RX12_89_10_37 : gx_fl0 RX12 89 10 37 ∈ gx_tb := gx_ok (List.mem_of_getElem? (i := 1364) (by decide +kernel)) (by decide +kernel)
theorem gf_RX12_92_10_40 : gx_fl0 RX12 92 10 40 ∈ gx_tb := gx_ok (List.mem_of_getElem? (i := 1367) (by decide +kernel)) (by decide +kernel)
theorem gf_RX12_95_10_41 : gx_fl0 RX12 95 10 41 ∈ gx_tb := gx_ok (List.mem_of_getElem? (i := 1368) (by decide +kernel)) (by decide +kernel)
theorem gf_RX12_98_10_42 : gx_fl0 RX12 98 10 42 ∈ gx_tb := gx_ok (List.mem_of_getElem? (i := 1369) (by decide +kernel)) (by decide +kernel)
theorem gf_RX12_101_10_43 : gx_fl0 RX12 101 10 43 ∈ gx_tb := gx_ok (List.mem_of_getElem? (i := 1370) (by decide +kernel)) (by decide +kernel)
theorem gf_RX12_104_10_44 : gx_fl0 RX12 104 10 44 ∈ gx_tb := gx_ok (List.mem_of_getElem? (i := 1371) (by decide +kernel)) (by decide +kernel)
theorem gf_RX12_108_10_33 : gx_fl0 RX12 108 10 33 ∈ gx_tb := gx_ok (List.mem_of_getElem? (i := 1360) (by decide +kernel)) (by decide +kernel)
theorem gf_RX12_112_10_34 : gx_fl0 RX12 112 10 34 ∈ gx_tb := gx_ok (List.mem_of_getElem? (i := 1361) (by decide +kernel)) (by decide +kernel)
theorem gf_RX12_115_10_35 : gx_fl0 RX12 115 10 35 ∈ gx_tb := gx_ok (List.mem_of_getElem? (i := 1362) (by decide +kernel)) (by decide +kernel)
theorem gf_RX12_128_10_13 : gx_fl0 RX12 128 10 13 ∈ gx_tb := gx_ok (List.mem_of_getElem? (i := 1340) (by decide +kernel)) (by decide +kernel)
theorem gf_RX12_139_10_9 : gx_fl0 RX12 139 10 9 ∈ gx_tb := gx_ok (List.mem_of_getElem? (i := 1336) (by decide +kernel)) (by decide +kernel)
theorem gf_RX12_142_10_15 : gx_fl0 RX12 142 10 15 ∈ gx_tb := gx_ok (List.mem_of_getElem? (i := 1342) (by decide +kernel)) (by decide +kernel)
theorem gf_RX12_190_10_18 : gx_fl0 RX12 190 10 18 ∈ gx_tb := gx_ok (List.mem_of_getElem? (i := 1345) (by decide +kernel)) (by decide +kernel)
theorem gf_RX12_221_10_25 : gx_fl0 RX12 221 10 25 ∈ gx_tb := gx_ok (List.mem_of_getElem? (i := 1352) (by decide +kernel)) (by decide +kernel)
theorem gf_RX12_254_10_29 : gx_fl0 RX12 254 10 29 ∈ gx_tb := gx_ok (List.mem_of_getElem? (i := 1356) (by decide +kernel)) (by decide +kernel)
theorem gf_RX12_260_10_32 : gx_fl0 RX12 260 10 32 ∈ gx_tb := gx_ok (List.mem_of_getElem? (i := 1359) (by decide +kernel)) (by decide +kernel)
theorem gf_RX12_299_10_17 : gx_fl0 RX12 299 10 17 ∈ gx_tb := gx_ok (List.mem_of_getElem? (i := 1344) (by decide +kernel)) (by decide +kernel)
theorem gf_RX12_302_10_38 : gx_fl0 RX12 302 10 38 ∈ gx_tb := gx_ok (List.mem_of_getElem? (i := 1365) (by decide +kernel)) (by decide +kernel)
theorem gf_RX12_305_10_39 : gx_fl0 RX12 305 10 39 ∈ gx_tb := gx_ok (List.mem_of_getElem? (i := 1366) (by decide +kernel)) (by decide +kernel)
theorem gkN_0_0 : 0 < (gx_c 0).2.2 := by decide +kernel
theorem gkR_0_0 : gx_isR (gx_ft 0 0) = true := by decide +kernel
theorem gkN_0_1 : 1 < (gx_c 0).2.2 := by decide +kernel
theorem gkR_0_1 : gx_isR (gx_ft 0 1) = false := by decide +kernel
theorem gkN_0_2 : 2 < (gx_c 0).2.2 := by decide +kernel
theorem gkR_0_2 : gx_isR (gx_ft 0 2) = false := by decide +kernel
theorem gkN_0_3 : 3 < (gx_c 0).2.2 := by decide +kernel
theorem gkR_0_3 : gx_isR (gx_ft 0 3) = false := by decide +kernel
theorem gkN_0_4 : 4 < (gx_c 0).2.2 := by decide +kernel
theorem gkR_0_4 : gx_isR (gx_ft 0 4) = false := by decide +kernel
theorem gkN_0_5 : 5 < (gx_c 0).2.2 := by decide +kernel
theorem gkR_0_5 : gx_isR (gx_ft 0 5) = true := by decide +kernel
theorem gkN_0_6 : 6 < (gx_c 0).2.2 := by decide +kernel
theorem gkR_0_6 : gx_isR (gx_ft 0 6) = true := by decide +kernel
theorem gkN_0_7 : 7 < (gx_c 0).2.2 := by decide +kernel
theorem gkR_0_7 : gx_isR (gx_ft 0 7) = true := by decide +kernel
theorem gkN_0_8 : 8 < (gx_c 0).2.2 := by decide +kernel
theorem gkR_0_8 : gx_isR (gx_ft 0 8) = true := by decide +kernel
theorem gkN_0_9 : 9 < (gx_c 0).2.2 := by decide +kernel
theorem gkR_0_9 : gx_isR (gx_ft 0 9) = true := by decide +kernel
theorem gkN_1_0 : 0 < (gx_c 1).2.2 := by decide +kernel
theorem gkR_1_0 : gx_isR (gx_ft 1 0) = true := by decide +kernel
theorem gkN_1_1 : 1 < (gx_c 1).2.2 := by decide +kernel
theorem gkR_1_1 : gx_isR (gx_ft 1 1) = true := by decide +kernel
theorem gkN_1_2 : 2 < (gx_c 1).2.2 := by decide +kernel
theorem gkR_1_2 : gx_isR (gx_ft 1 2) = true := by decide +kernel
theorem gkN_1_3 : 3 < (gx_c 1).2.2 := by decide +kernel
theorem gkR_1_3 : gx_isR (gx_ft 1 3) = true := by decide +kernel
theorem gkN_1_4 : 4 < (gx_c 1).2.2 := by decide +kernel
theorem gkR_1_4 : gx_isR (gx_ft 1 4) = true := by decide +kernel
theorem gkN_2_0 : 0 < (gx_c 2).2.2 := by decide +kernel
theorem gkR_2_0 : gx_isR (gx_ft 2 0) = true := by decide +kernel
theorem gkN_2_1 : 1 < (gx_c 2).2.2 := by decide +kernel
theorem gkR_2_1 : gx_isR (gx_ft 2 1) = false := by decide +kernel
theorem gkN_2_2 : 2 < (gx_c 2).2.2 := by decide +kernel
theorem gkR_2_2 : gx_isR (gx_ft 2 2) = false := by decide +kernel
theorem gkN_2_3 : 3 < (gx_c 2).2.2 := by decide +kernel
theorem gkR_2_3 : gx_isR (gx_ft 2 3) = false := by decide +kernel
theorem gkN_2_4 : 4 < (gx_c 2).2.2 := by decide +kernel
theorem gkR_2_4 : gx_isR (gx_ft 2 4) = false := by decide +kernel
theorem gkN_2_5 : 5 < (gx_c 2).2.2 := by decide +kernel
theorem gkR_2_5 : gx_isR (gx_ft 2 5) = true := by decide +kernel
theorem gkN_2_6 : 6 < (gx_c 2).2.2 := by decide +kernel
theorem gkR_2_6 : gx_isR (gx_ft 2 6) = true := by decide +kernel
theorem gkN_2_7 : 7 < (gx_c 2).2.2 := by decide +kernel
theorem gkR_2_7 : gx_isR (gx_ft 2 7) = true := by decide +kernel
theorem gkN_2_8 : 8 < (gx_c 2).2.2 := by decide +kernel
theorem gkR_2_8 : gx_isR (gx_ft 2 8) = true := by decide +kernel
theorem gkN_2_9 : 9 < (gx_c 2).2.2 := by decide +kernel
theorem gkR_2_9 : gx_isR (gx_ft 2 9) = true := by decide +kernel
theorem gkN_2_10 : 10 < (gx_c 2).2.2 := by decide +kernel
theorem gkR_2_10 : gx_isR (gx_ft 2 10) = false := by decide +kernel
theorem gkN_2_11 : 11 < (gx_c 2).2.2 := by decide +kernel
theorem gkR_2_11 : gx_isR (gx_ft 2 11) = true := by decide +kernel
theorem gkN_2_12 : 12 < (gx_c 2).2.2 := by decide +kernel
theorem gkR_2_12 : gx_isR (gx_ft 2 12) = true := by decide +kernel
theorem gkN_2_13 : 13 < (gx_c 2).2.2 := by decide +kernel
theorem gkR_2_13 : gx_isR (gx_ft 2 13) = true := by decide +kernel
theorem gkN_3_0 : 0 < (gx_c 3).2.2 := by decide +kernel
theorem gkR_3_0 : gx_isR (gx_ft 3 0) = true := by decide +kernel
theorem gkN_3_1 : 1 < (gx_c 3).2.2 := by decide +kernel
theorem gkR_3_1 : gx_isR (gx_ft 3 1) = true := by decide +kernel
theorem gkN_3_2 : 2 < (gx_c 3).2.2 := by decide +kernel
theorem gkR_3_2 : gx_isR (gx_ft 3 2) = true := by decide +kernel
theorem gkN_3_3 : 3 < (gx_c 3).2.2 := by decide +kernel
theorem gkR_3_3 : gx_isR (gx_ft 3 3) = false := by decide +kernel
theorem gkN_3_4 : 4 < (gx_c 3).2.2 := by decide +kernel
theorem gkR_3_4 : gx_isR (gx_ft 3 4) = true := by decide +kernel
theorem gkN_3_5 : 5 < (gx_c 3).2.2 := by decide +kernel
theorem gkR_3_5 : gx_isR (gx_ft 3 5) = true := by decide +kernel
theorem gkN_3_6 : 6 < (gx_c 3).2.2 := by decide +kernel
theorem gkR_3_6 : gx_isR (gx_ft 3 6) = false := by decide +kernel
theorem gkN_3_7 : 7 < (gx_c 3).2.2 := by decide +kernel
theorem gkR_3_7 : gx_isR (gx_ft 3 7) = false := by decide +kernel
theorem gkN_3_8 : 8 < (gx_c 3).2.2 := by decide +kernel
theorem gkR_3_8 : gx_isR (gx_ft 3 8) = true := by decide +kernel
theorem gkN_3_9 : 9 < (gx_c 3).2.2 := by decide +kernel
theorem gkR_3_9 : gx_isR (gx_ft 3 9) = true := by decide +kernel
theorem gkN_4_0 : 0 < (gx_c 4).2.2 := by decide +kernel
theorem gkR_4_0 : gx_isR (gx_ft 4 0) = false := by decide +kernel
theorem gkN_4_1 : 1 < (gx_c 4).2.2 := by decide +kernel
theorem gkR_4_1 : gx_isR (gx_ft 4 1) = true := by decide +kernel
theorem gkN_4_2 : 2 < (gx_c 4).2.2 := by decide +kernel
theorem gkR_4_2 : gx_isR (gx_ft 4 2) = true := by decide +kernel
theorem gkN_4_3 : 3 < (gx_c 4).2.2 := by decide +kernel
theorem gkR_4_3 : gx_isR (gx_ft 4 3) = true := by decide +kernel
theorem gkN_4_4 : 4 < (gx_c 4).2.2 := by decide +kernel
theorem gkR_4_4 : gx_isR (gx_ft 4 4) = false := by decide +kernel
theorem gkN_4_5 : 5 < (gx_c 4).2.2 := by decide +kernel
theorem gkR_4_5 : gx_isR (gx_ft 4 5) = true := by decide +kernel
theorem gkN_4_6 : 6 < (gx_c 4).2.2 := by decide +kernel
theorem gkR_4_6 : gx_isR (gx_ft 4 6) = false := by decide +kernel
theorem gkN_5_0 : 0 < (gx_c 5).2.2 := by decide +kernel
theorem gkR_5_0 : gx_isR (gx_ft 5 0) = true := by decide +kernel
theorem gkN_5_1 : 1 < (gx_c 5).2.2 := by decide +kernel
theorem gkR_5_1 : gx_isR (gx_ft 5 1) = true := by decide +kernel
theorem gkN_5_2 : 2 < (gx_c 5).2.2 := by decide +kernel
theorem gkR_5_2 : gx_isR (gx_ft 5 2) = true := by decide +kernel
theorem gkN_5_3 : 3 < (gx_c 5).2.2 := by decide +kernel
theorem gkR_5_3 : gx_isR (gx_ft 5 3) = true := by decide +kernel
theorem gkN_5_4 : 4 < (gx_c 5).2.2 := by decide +kernel
theorem gkR_5_4 : gx_isR (gx_ft 5 4) = true := by decide +kernel
theorem gkN_6_0 : 0 < (gx_c 6).2.2 := by decide +kernel
theorem gkR_6_0 : gx_isR (gx_ft 6 0) = true := by decide +kernel
theorem gkN_6_1 : 1 < (gx_c 6).2.2 := by decide +kernel
theorem gkR_6_1 : gx_isR (gx_ft 6 1) = false := by decide +kernel
theorem gkN_7_0 : 0 < (gx_c 7).2.2 := by decide +kernel
theorem gkR_7_0 : gx_isR (gx_ft 7 0) = true := by decide +kernel
theorem gkN_7_1 : 1 < (gx_c 7).2.2 := by decide +kernel
theorem gkR_7_1 : gx_isR (gx_ft 7 1) = false := by decide +kernel
theorem gkN_8_0 : 0 < (gx_c 8).2.2 := by decide +kernel
theorem gkR_8_0 : gx_isR (gx_ft 8 0) = false := by decide +kernel
theorem gkN_8_1 : 1 < (gx_c 8).2.2 := by decide +kernel
theorem gkR_8_1 : gx_isR (gx_ft 8 1) = true := by decide +kernel
theorem gkN_8_2 : 2 < (gx_c 8).2.2 := by decide +kernel
theorem gkR_8_2 : gx_isR (gx_ft 8 2) = false := by decide +kernel
theorem gkN_8_3 : 3 < (gx_c 8).2.2 := by decide +kernel
theorem gkR_8_3 : gx_isR (gx_ft 8 3) = true := by decide +kernel
theorem gkN_8_4 : 4 < (gx_c 8).2.2 := by decide +kernel
theorem gkR_8_4 : gx_isR (gx_ft 8 4) = true := by decide +kernel
theorem gkN_8_5 : 5 < (gx_c 8).2.2 := by decide +kernel
theorem gkR_8_5 : gx_isR (gx_ft 8 5) = true := by decide +kernel
theorem gkN_8_6 : 6 < (gx_c 8).2.2 := by decide +kernel
theorem gkR_8_6 : gx_isR (gx_ft 8 6) = false := by decide +kernel
theorem gkN_8_7 : 7 < (gx_c 8).2.2 := by decide +kernel
theorem gkR_8_7 : gx_isR (gx_ft 8 7) = false := by decide +kernel
theorem gkN_8_8 : 8 < (gx_c 8).2.2 := by decide +kernel
theorem gkR_8_8 : gx_isR (gx_ft 8 8) = false := by decide +kernel
theorem gkN_8_9 : 9 < (gx_c 8).2.2 := by decide +kernel
theorem gkR_8_9 : gx_isR (gx_ft 8 9) = false := by decide +kernel
theorem gkN_8_10 : 10 < (gx_c 8).2.2 := by decide +kernel
theorem gkR_8_10 : gx_isR (gx_ft 8 10) = true := by decide +kernel
theorem gkN_8_11 : 11 < (gx_c 8).2.2 := by decide +kernel
theorem gkR_8_11 : gx_isR (gx_ft 8 11) = true := by decide +kernel
theorem gkN_8_12 : 12 < (gx_c 8).2.2 := by decide +kernel
theorem gkR_8_12 : gx_isR (gx_ft 8 12) = false := by decide +kernel
theorem gkN_9_0 : 0 < (gx_c 9).2.2 := by decide +kernel
theorem gkR_9_0 : gx_isR (gx_ft 9 0) = true := by decide +kernel
theorem gkN_9_1 : 1 < (gx_c 9).2.2 := by decide +kernel
theorem gkR_9_1 : gx_isR (gx_ft 9 1) = true := by decide +kernel
theorem gkN_9_2 : 2 < (gx_c 9).2.2 := by decide +kernel
theorem gkR_9_2 : gx_isR (gx_ft 9 2) = true := by decide +kernel
theorem gkN_9_3 : 3 < (gx_c 9).2.2 := by decide +kernel
theorem gkR_9_3 : gx_isR (gx_ft 9 3) = false := by decide +kernel
theorem gkN_9_4 : 4 < (gx_c 9).2.2 := by decide +kernel
theorem gkR_9_4 : gx_isR (gx_ft 9 4) = true := by decide +kernel
theorem gkN_9_5 : 5 < (gx_c 9).2.2 := by decide +kernel
theorem gkR_9_5 : gx_isR (gx_ft 9 5) = true := by decide +kernel
theorem gkN_9_6 : 6 < (gx_c 9).2.2 := by decide +kernel
theorem gkR_9_6 : gx_isR (gx_ft 9 6) = true := by decide +kernel
theorem gkN_9_7 : 7 < (gx_c 9).2.2 := by decide +kernel
theorem gkR_9_7 : gx_isR (gx_ft 9 7) = false := by decide +kernel
theorem gkN_9_8 : 8 < (gx_c 9).2.2 := by decide +kernel
theorem gkR_9_8 : gx_isR (gx_ft 9 8) = true := by decide +kernel
theorem gkN_9_9 : 9 < (gx_c 9).2.2 := by decide +kernel
theorem gkR_9_9 : gx_isR (gx_ft 9 9) = true := by decide +kernel
theorem gkN_9_10 : 10 < (gx_c 9).2.2 := by decide +kernel
theorem gkR_9_10 : gx_isR (gx_ft 9 10) = true := by decide +kernel
theorem gkN_9_11 : 11 < (gx_c 9).2.2 := by decide +kernel
theorem gkR_9_11 : gx_isR (gx_ft 9 11) = true := by decide +kernel
theorem gkN_9_12 : 12 < (gx_c 9).2.2 := by decide +kernel
theorem gkR_9_12 : gx_isR (gx_ft 9 12) = true := by decide +kernel
theorem gkN_9_13 : 13 < (gx_c 9).2.2 := by decide +kernel
theorem gkR_9_13 : gx_isR (gx_ft 9 13) = true := by decide +kernel
theorem gkN_9_14 : 14 < (gx_c 9).2.2 := by decide +kernel
theorem gkR_9_14 : gx_isR (gx_ft 9 14) = true := by decide +kernel
theorem gkN_9_15 : 15 < (gx_c 9).2.2 := by decide +kernel
theorem gkR_9_15 : gx_isR (gx_ft 9 15) = true := by decide +kernel
theorem gkN_9_16 : 16 < (gx_c 9).2.2 := by decide +kernel
theorem gkR_9_16 : gx_isR (gx_ft 9 16) = true := by decide +kernel
theorem gkN_10_0 : 0 < (gx_c 10).2.2 := by decide +kernel
theorem gkR_10_0 : gx_isR (gx_ft 10 0) = true := by decide +kernel
theorem gkN_10_1 : 1 < (gx_c 10).2.2 := by decide +kernel
theorem gkR_10_1 : gx_isR (gx_ft 10 1) = true := by decide +kernel
theorem gkN_10_2 : 2 < (gx_c 10).2.2 := by decide +kernel
theorem gkR_10_2 : gx_isR (gx_ft 10 2) = true := by decide +kernel
theorem gkN_10_3 : 3 < (gx_c 10).2.2 := by decide +kernel
theorem gkR_10_3 : gx_isR (gx_ft 10 3) = true := by decide +kernel
theorem gkN_10_4 : 4 < (gx_c 10).2.2 := by decide +kernel
theorem gkR_10_4 : gx_isR (gx_ft 10 4) = true := by decide +kernel
theorem gkN_10_5 : 5 < (gx_c 10).2.2 := by decide +kernel
theorem gkR_10_5 : gx_isR (gx_ft 10 5) = true := by decide +kernel
theorem gkN_10_6 : 6 < (gx_c 10).2.2 := by decide +kernel
theorem gkR_10_6 : gx_isR (gx_ft 10 6) = true := by decide +kernel
theorem gkN_10_7 : 7 < (gx_c 10).2.2 := by decide +kernel
theorem gkR_10_7 : gx_isR (gx_ft 10 7) = true := by decide +kernel
theorem gkN_10_8 : 8 < (gx_c 10).2.2 := by decide +kernel
theorem gkR_10_8 : gx_isR (gx_ft 10 8) = true := by decide +kernel
theorem gkN_10_9 : 9 < (gx_c 10).2.2 := by decide +kernel
theorem gkR_10_9 : gx_isR (gx_ft 10 9) = false := by decide +kernel
theorem gkN_10_10 : 10 < (gx_c 10).2.2 := by decide +kernel
theorem gkR_10_10 : gx_isR (gx_ft 10 10) = true := by decide +kernel
theorem gkN_10_11 : 11 < (gx_c 10).2.2 := by decide +kernel
theorem gkR_10_11 : gx_isR (gx_ft 10 11) = true := by decide +kernel
theorem gkN_10_12 : 12 < (gx_c 10).2.2 := by decide +kernel
theorem gkR_10_12 : gx_isR (gx_ft 10 12) = true := by decide +kernel
theorem gkN_10_13 : 13 < (gx_c 10).2.2 := by decide +kernel
theorem gkR_10_13 : gx_isR (gx_ft 10 13) = false := by decide +kernel
theorem gkN_10_14 : 14 < (gx_c 10).2.2 := by decide +kernel
theorem gkR_10_14 : gx_isR (gx_ft 10 14) = true := by decide +kernel
theorem gkN_10_15 : 15 < (gx_c 10).2.2 := by decide +kernel
theorem gkR_10_15 : gx_isR (gx_ft 10 15) = false := by decide +kernel
theorem gkN_10_16 : 16 < (gx_c 10).2.2 := by decide +kernel
theorem gkR_10_16 : gx_isR (gx_ft 10 16) = true := by decide +kernel
theorem gkN_10_17 : 17 < (gx_c 10).2.2 := by decide +kernel
theorem gkR_10_17 : gx_isR (gx_ft 10 17) = false := by decide +kernel
theorem gkN_10_18 : 18 < (gx_c 10).2.2 := by decide +kernel
theorem gkR_10_18 : gx_isR (gx_ft 10 18) = false := by decide +kernel
theorem gkN_10_19 : 19 < (gx_c 10).2.2 := by decide +kernel
theorem gkR_10_19 : gx_isR (gx_ft 10 19) = true := by decide +kernel
theorem gkN_10_20 : 20 < (gx_c 10).2.2 := by decide +kernel
theorem gkR_10_20 : gx_isR (gx_ft 10 20) = true := by decide +kernel
theorem gkN_10_21 : 21 < (gx_c 10).2.2 := by decide +kernel
theorem gkR_10_21 : gx_isR (gx_ft 10 21) = true := by decide +kernel
theorem gkN_10_22 : 22 < (gx_c 10).2.2 := by decide +kernel
theorem gkR_10_22 : gx_isR (gx_ft 10 22) = true := by decide +kernel
theorem gkN_10_23 : 23 < (gx_c 10).2.2 := by decide +kernel
theorem gkR_10_23 : gx_isR (gx_ft 10 23) = true := by decide +kernel
theorem gkN_10_24 : 24 < (gx_c 10).2.2 := by decide +kernel
theorem gkR_10_24 : gx_isR (gx_ft 10 24) = true := by decide +kernel
theorem gkN_10_25 : 25 < (gx_c 10).2.2 := by decide +kernel
theorem gkR_10_25 : gx_isR (gx_ft 10 25) = false := by decide +kernel
theorem gkN_10_26 : 26 < (gx_c 10).2.2 := by decide +kernel
theorem gkR_10_26 : gx_isR (gx_ft 10 26) = true := by decide +kernel
theorem gkN_10_27 : 27 < (gx_c 10).2.2 := by decide +kernel
theorem gkR_10_27 : gx_isR (gx_ft 10 27) = true := by decide +kernel
theorem gkN_10_28 : 28 < (gx_c 10).2.2 := by decide +kernel
theorem gkR_10_28 : gx_isR (gx_ft 10 28) = true := by decide +kernel
theorem gkN_10_29 : 29 < (gx_c 10).2.2 := by decide +kernel
theorem gkR_10_29 : gx_isR (gx_ft 10 29) = false := by decide +kernel
theorem gkN_10_30 : 30 < (gx_c 10).2.2 := by decide +kernel
theorem gkR_10_30 : gx_isR (gx_ft 10 30) = true := by decide +kernel
theorem gkN_10_31 : 31 < (gx_c 10).2.2 := by decide +kernel
theorem gkR_10_31 : gx_isR (gx_ft 10 31) = true := by decide +kernel
theorem gkN_10_32 : 32 < (gx_c 10).2.2 := by decide +kernel
theorem gkR_10_32 : gx_isR (gx_ft 10 32) = false := by decide +kernel
theorem gkN_10_33 : 33 < (gx_c 10).2.2 := by decide +kernel
theorem gkR_10_33 : gx_isR (gx_ft 10 33) = false := by decide +kernel
theorem gkN_10_34 : 34 < (gx_c 10).2.2 := by decide +kernel
theorem gkR_10_34 : gx_isR (gx_ft 10 34) = false := by decide +kernel
theorem gkN_10_35 : 35 < (gx_c 10).2.2 := by decide +kernel
theorem gkR_10_35 : gx_isR (gx_ft 10 35) = false := by decide +kernel
theorem gkN_10_36 : 36 < (gx_c 10).2.2 := by decide +kernel
theorem gkR_10_36 : gx_isR (gx_ft 10 36) = true := by decide +kernel
theorem gkN_10_37 : 37 < (gx_c 10).2.2 := by decide +kernel
theorem gkR_10_37 : gx_isR (gx_ft 10 37) = true := by decide +kernel
theorem gkN_10_38 : 38 < (gx_c 10).2.2 := by decide +kernel
theorem gkR_10_38 : gx_isR (gx_ft 10 38) = false := by decide +kernel
theorem gkN_10_39 : 39 < (gx_c 10).2.2 := by decide +kernel
theorem gkR_10_39 : gx_isR (gx_ft 10 39) = false := by decide +kernel
theorem gkN_10_40 : 40 < (gx_c 10).2.2 := by decide +kernel
theorem gkR_10_40 : gx_isR (gx_ft 10 40) = true := by decide +kernel
theorem gkN_10_41 : 41 < (gx_c 10).2.2 := by decide +kernel
theorem gkR_10_41 : gx_isR (gx_ft 10 41) = true := by decide +kernel
theorem gkN_10_42 : 42 < (gx_c 10).2.2 := by decide +kernel
theorem gkR_10_42 : gx_isR (gx_ft 10 42) = true := by decide +kernel
theorem gkN_10_43 : 43 < (gx_c 10).2.2 := by decide +kernel
theorem gkR_10_43 : gx_isR (gx_ft 10 43) = true := by decide +kernel
theorem gkN_10_44 : 44 < (gx_c 10).2.2 := by decide +kernel
theorem gkR_10_44 : gx_isR (gx_ft 10 44) = false := by decide +kernel
theorem gcb_m3 : (Int8.ofInt (-3)).toInt32 = gI (-3) := by decide +kernel
theorem gcb_m2 : (Int8.ofInt (-2)).toInt32 = gI (-2) := by decide +kernel
theorem gcb_6 : (Int8.ofInt (6)).toInt32 = gI (6) := by decide +kernel
theorem gcb_7 : (Int8.ofInt (7)).toInt32 = gI (7) := by decide +kernel
theorem gcb_8 : (Int8.ofInt (8)).toInt32 = gI (8) := by decide +kernel
theorem gcb_9 : (Int8.ofInt (9)).toInt32 = gI (9) := by decide +kernel
theorem gcb_12 : (Int8.ofInt (12)).toInt32 = gI (12) := by decide +kernel
theorem gcb_13 : (Int8.ofInt (13)).toInt32 = gI (13) := by decide +kernel
theorem gcb_16 : (Int8.ofInt (16)).toInt32 = gI (16) := by decide +kernel
theorem gcb_20 : (Int8.ofInt (20)).toInt32 = gI (20) := by decide +kernel
theorem gcb_24 : (Int8.ofInt (24)).toInt32 = gI (24) := by decide +kernel
theorem gcb_25 : (Int8.ofInt (25)).toInt32 = gI (25) := by decide +kernel
theorem gcb_26 : (Int8.ofInt (26)).toInt32 = gI (26) := by decide +kernel
theorem gcb_31 : (Int8.ofInt (31)).toInt32 = gI (31) := by decide +kernel
theorem gcb_32 : (Int8.ofInt (32)).toInt32 = gI (32) := by decide +kernel
theorem gcb_37 : (Int8.ofInt (37)).toInt32 = gI (37) := by decide +kernel
theorem gcb_40 : (Int8.ofInt (40)).toInt32 = gI (40) := by decide +kernel
theorem gcb_41 : (Int8.ofInt (41)).toInt32 = gI (41) := by decide +kernel
theorem gcb_42 : (Int8.ofInt (42)).toInt32 = gI (42) := by decide +kernel
theorem gcb_43 : (Int8.ofInt (43)).toInt32 = gI (43) := by decide +kernel
theorem gcb_48 : (Int8.ofInt (48)).toInt32 = gI (48) := by decide +kernel
theorem gcb_58 : (Int8.ofInt (58)).toInt32 = gI (58) := by decide +kernel
theorem gcb_63 : (Int8.ofInt (63)).toInt32 = gI (63) := by decide +kernel
theorem gcb_65 : (Int8.ofInt (65)).toInt32 = gI (65) := by decide +kernel
theorem gcb_72 : (Int8.ofInt (72)).toInt32 = gI (72) := by decide +kernel
theorem gcb_80 : (Int8.ofInt (80)).toInt32 = gI (80) := by decide +kernel
theorem gcb_97 : (Int8.ofInt (97)).toInt32 = gI (97) := by decide +kernel
theorem gcb_99 : (Int8.ofInt (99)).toInt32 = gI (99) := by decide +kernel
theorem gcb_100 : (Int8.ofInt (100)).toInt32 = gI (100) := by decide +kernel
theorem gcb_101 : (Int8.ofInt (101)).toInt32 = gI (101) := by decide +kernel
theorem gcb_104 : (Int8.ofInt (104)).toInt32 = gI (104) := by decide +kernel
theorem gcb_120 : (Int8.ofInt (120)).toInt32 = gI (120) := by decide +kernel
theorem gcb_124 : (Int8.ofInt (124)).toInt32 = gI (124) := by decide +kernel
theorem gcs_144 : (Int16.ofInt (144)).toInt32 = gI (144) := by decide +kernel
theorem gcs_145 : (Int16.ofInt (145)).toInt32 = gI (145) := by decide +kernel
theorem gcs_146 : (Int16.ofInt (146)).toInt32 = gI (146) := by decide +kernel
theorem gcs_150 : (Int16.ofInt (150)).toInt32 = gI (150) := by decide +kernel
theorem gcs_169 : (Int16.ofInt (169)).toInt32 = gI (169) := by decide +kernel
theorem gcs_200 : (Int16.ofInt (200)).toInt32 = gI (200) := by decide +kernel
theorem gcs_240 : (Int16.ofInt (240)).toInt32 = gI (240) := by decide +kernel
theorem gcs_255 : (Int16.ofInt (255)).toInt32 = gI (255) := by decide +kernel
theorem gcs_256 : (Int16.ofInt (256)).toInt32 = gI (256) := by decide +kernel
theorem gcs_300 : (Int16.ofInt (300)).toInt32 = gI (300) := by decide +kernel
theorem gcs_301 : (Int16.ofInt (301)).toInt32 = gI (301) := by decide +kernel
theorem gcs_511 : (Int16.ofInt (511)).toInt32 = gI (511) := by decide +kernel
theorem gcs_512 : (Int16.ofInt (512)).toInt32 = gI (512) := by decide +kernel
theorem gcs_768 : (Int16.ofInt (768)).toInt32 = gI (768) := by decide +kernel
theorem gcs_1000 : (Int16.ofInt (1000)).toInt32 = gI (1000) := by decide +kernel
theorem gcs_1009 : (Int16.ofInt (1009)).toInt32 = gI (1009) := by decide +kernel
theorem gcs_1023 : (Int16.ofInt (1023)).toInt32 = gI (1023) := by decide +kernel
theorem gcs_1152 : (Int16.ofInt (1152)).toInt32 = gI (1152) := by decide +kernel
theorem gcs_1501 : (Int16.ofInt (1501)).toInt32 = gI (1501) := by decide +kernel
theorem gcs_1600 : (Int16.ofInt (1600)).toInt32 = gI (1600) := by decide +kernel
theorem gcs_1920 : (Int16.ofInt (1920)).toInt32 = gI (1920) := by decide +kernel
theorem gcs_2000 : (Int16.ofInt (2000)).toInt32 = gI (2000) := by decide +kernel
theorem gcs_2560 : (Int16.ofInt (2560)).toInt32 = gI (2560) := by decide +kernel
theorem gcs_2704 : (Int16.ofInt (2704)).toInt32 = gI (2704) := by decide +kernel
theorem gcs_10000 : (Int16.ofInt (10000)).toInt32 = gI (10000) := by decide +kernel
theorem gcs_11680 : (Int16.ofInt (11680)).toInt32 = gI (11680) := by decide +kernel
theorem gcs_12000 : (Int16.ofInt (12000)).toInt32 = gI (12000) := by decide +kernel
theorem gcs_20000 : (Int16.ofInt (20000)).toInt32 = gI (20000) := by decide +kernel
theorem gcs_25350 : (Int16.ofInt (25350)).toInt32 = gI (25350) := by decide +kernel
def mX0_init : gx_M := (yX0_init, cX0_init, 3, none, [], { frames := 1, cells := 5, slots := 14870, locals := 18 }, none)
def mX0_facts : gx_M := (yX0_facts, cX0_facts, 1, some (.object "Grammarsmith$Facts"), [], { frames := 0, cells := 0, slots := 0, locals := 0 }, none)
def mX0_forget : gx_M := (yX0_forget, cX0_forget, 1, none, [], { frames := 0, cells := 0, slots := 0, locals := 0 }, none)
def mX0_extent : gx_M := (yX0_extent, cX0_extent, 1, some .int, [], { frames := 0, cells := 0, slots := 0, locals := 0 }, none)
def mX0_row : gx_M := (yX0_row, cX0_row, 4, some .int, [], { frames := 0, cells := 0, slots := 0, locals := 0 }, none)
def mX0_move : gx_M := (yX0_move, cX0_move, 4, some .int, [], { frames := 0, cells := 0, slots := 0, locals := 0 }, none)
def mX0_build : gx_M := (yX0_build, cX0_build, 4, none, [], { frames := 4, cells := 0, slots := 0, locals := 93 }, none)
def mX0_complete : gx_M := (yX0_complete, cX0_complete, 5, none, [], { frames := 2, cells := 0, slots := 0, locals := 51 }, none)
def mX0_addItems : gx_M := (yX0_addItems, cX0_addItems, 8, some .boolean, [], { frames := 1, cells := 0, slots := 0, locals := 24 }, none)
def mX0_widen : gx_M := (yX0_widen, cX0_widen, 5, some .boolean, [], { frames := 0, cells := 0, slots := 0, locals := 0 }, none)
def mX0_leave : gx_M := (yX0_leave, cX0_leave, 4, none, [], { frames := 3, cells := 0, slots := 0, locals := 70 }, none)
def mX0_symbolsInFront : gx_M := (yX0_symbolsInFront, cX0_symbolsInFront, 5, some .int, [], { frames := 1, cells := 0, slots := 0, locals := 23 }, none)
def mX0_advance : gx_M := (yX0_advance, cX0_advance, 4, none, [], { frames := 2, cells := 0, slots := 0, locals := 47 }, none)
def mX0_findState : gx_M := (yX0_findState, cX0_findState, 3, some .int, [], { frames := 1, cells := 0, slots := 0, locals := 24 }, none)
def mX0_beginsFresh : gx_M := (yX0_beginsFresh, cX0_beginsFresh, 5, some .boolean, [], { frames := 0, cells := 0, slots := 0, locals := 0 }, none)
def mX0_addState : gx_M := (yX0_addState, cX0_addState, 4, some .int, [], { frames := 0, cells := 0, slots := 0, locals := 0 }, none)
def mX0_mergeInto : gx_M := (yX0_mergeInto, cX0_mergeInto, 4, none, [], { frames := 1, cells := 0, slots := 0, locals := 24 }, none)
def mX1_init : gx_M := (yX1_init, cX1_init, 5, none, [], { frames := 1, cells := 1, slots := 16, locals := 18 }, none)
def mX1_facts : gx_M := (yX1_facts, cX1_facts, 1, some (.object "Grammarsmith$Facts"), [], { frames := 0, cells := 0, slots := 0, locals := 0 }, none)
def mX1_look : gx_M := (yX1_look, cX1_look, 2, some .int, [], { frames := 0, cells := 0, slots := 0, locals := 0 }, none)
def mX1_measure : gx_M := (yX1_measure, cX1_measure, 5, some .int, [], { frames := 5, cells := 0, slots := 0, locals := 127 }, none)
def mX1_fill : gx_M := (yX1_fill, cX1_fill, 5, none, [], { frames := 4, cells := 0, slots := 0, locals := 103 }, none)
def mX1_refine : gx_M := (yX1_refine, cX1_refine, 6, some .boolean, [], { frames := 3, cells := 0, slots := 0, locals := 78 }, none)
def mX1_ofProduction : gx_M := (yX1_ofProduction, cX1_ofProduction, 12, some .int, [], { frames := 2, cells := 0, slots := 0, locals := 47 }, none)
def mX1_whole : gx_M := (yX1_whole, cX1_whole, 5, some .int, [], { frames := 1, cells := 0, slots := 0, locals := 22 }, none)
def mX1_setWhole : gx_M := (yX1_setWhole, cX1_setWhole, 6, none, [], { frames := 1, cells := 0, slots := 0, locals := 22 }, none)
def mX1_part : gx_M := (yX1_part, cX1_part, 5, some .int, [], { frames := 1, cells := 0, slots := 0, locals := 22 }, none)
def mX1_setPart : gx_M := (yX1_setPart, cX1_setPart, 6, none, [], { frames := 1, cells := 0, slots := 0, locals := 22 }, none)
def mX1_cell : gx_M := (yX1_cell, cX1_cell, 3, some .int, [], { frames := 0, cells := 0, slots := 0, locals := 0 }, none)
def mX2_init : gx_M := (yX2_init, cX2_init, 5, none, [], { frames := 2, cells := 1, slots := 16, locals := 42 }, none)
def mX2_none : gx_M := (yX2_none, cX2_none, 1, some .int, [], { frames := 0, cells := 0, slots := 0, locals := 0 }, none)
def mX2_blank : gx_M := (yX2_blank, cX2_blank, 3, some .int, [], { frames := 0, cells := 0, slots := 0, locals := 0 }, none)
def mX2_ofTerminal : gx_M := (yX2_ofTerminal, cX2_ofTerminal, 4, some .int, [], { frames := 1, cells := 0, slots := 0, locals := 21 }, none)
def mX2_either : gx_M := (yX2_either, cX2_either, 3, some .int, [], { frames := 1, cells := 0, slots := 0, locals := 21 }, none)
def mX2_both : gx_M := (yX2_both, cX2_both, 3, some .int, [], { frames := 1, cells := 0, slots := 0, locals := 21 }, none)
def mX2_ofNonterminal : gx_M := (yX2_ofNonterminal, cX2_ofNonterminal, 3, some .int, [], { frames := 2, cells := 0, slots := 0, locals := 42 }, none)
def mX3_init : gx_M := (yX3_init, cX3_init, 2, none, [], { frames := 1, cells := 8, slots := 452, locals := 18 }, none)
def mX3_forget : gx_M := (yX3_forget, cX3_forget, 2, none, [], { frames := 0, cells := 0, slots := 0, locals := 0 }, none)
def mX3_learn : gx_M := (yX3_learn, cX3_learn, 1, none, [], { frames := 4, cells := 0, slots := 0, locals := 97 }, none)
def mX3_grammar : gx_M := (yX3_grammar, cX3_grammar, 1, some (.object "Grammarsmith$Grammar"), [], { frames := 0, cells := 0, slots := 0, locals := 0 }, none)
def mX3_vanishes : gx_M := (yX3_vanishes, cX3_vanishes, 2, some .boolean, [], { frames := 1, cells := 0, slots := 0, locals := 21 }, none)
def mX3_firsts : gx_M := (yX3_firsts, cX3_firsts, 2, some .int, [], { frames := 1, cells := 0, slots := 0, locals := 21 }, none)
def mX3_behind : gx_M := (yX3_behind, cX3_behind, 2, some .int, [], { frames := 0, cells := 0, slots := 0, locals := 0 }, none)
def mX3_isProductive : gx_M := (yX3_isProductive, cX3_isProductive, 2, some .boolean, [], { frames := 2, cells := 0, slots := 0, locals := 42 }, none)
def mX3_isReached : gx_M := (yX3_isReached, cX3_isReached, 2, some .boolean, [], { frames := 1, cells := 0, slots := 0, locals := 21 }, none)
def mX3_beginsItself : gx_M := (yX3_beginsItself, cX3_beginsItself, 2, some .boolean, [], { frames := 1, cells := 0, slots := 0, locals := 21 }, none)
def mX3_isCircular : gx_M := (yX3_isCircular, cX3_isCircular, 2, some .boolean, [], { frames := 1, cells := 0, slots := 0, locals := 21 }, none)
def mX3_least : gx_M := (yX3_least, cX3_least, 2, some .int, [], { frames := 1, cells := 0, slots := 0, locals := 21 }, none)
def mX3_spelled : gx_M := (yX3_spelled, cX3_spelled, 4, some .int, [], { frames := 2, cells := 0, slots := 0, locals := 42 }, none)
def mX3_prediction : gx_M := (yX3_prediction, cX3_prediction, 2, some .int, [], { frames := 0, cells := 0, slots := 0, locals := 0 }, none)
def mX3_front : gx_M := (yX3_front, cX3_front, 2, some .int, [], { frames := 0, cells := 0, slots := 0, locals := 0 }, none)
def mX3_rest : gx_M := (yX3_rest, cX3_rest, 2, some .int, [], { frames := 0, cells := 0, slots := 0, locals := 0 }, none)
def mX3_beginOf : gx_M := (yX3_beginOf, cX3_beginOf, 2, some .int, [], { frames := 0, cells := 0, slots := 0, locals := 0 }, none)
def mX3_leastOf : gx_M := (yX3_leastOf, cX3_leastOf, 2, some .int, [], { frames := 0, cells := 0, slots := 0, locals := 0 }, none)
def mX3_beginnings : gx_M := (yX3_beginnings, cX3_beginnings, 6, some .int, [], { frames := 1, cells := 0, slots := 0, locals := 23 }, none)
def mX3_widen : gx_M := (yX3_widen, cX3_widen, 3, some .boolean, [], { frames := 0, cells := 0, slots := 0, locals := 0 }, none)
def mX3_findBeginnings : gx_M := (yX3_findBeginnings, cX3_findBeginnings, 5, none, [], { frames := 2, cells := 0, slots := 0, locals := 48 }, none)
def mX3_findBehinds : gx_M := (yX3_findBehinds, cX3_findBehinds, 4, none, [], { frames := 3, cells := 0, slots := 0, locals := 74 }, none)
def mX3_widenBehinds : gx_M := (yX3_widenBehinds, cX3_widenBehinds, 7, some .boolean, [], { frames := 2, cells := 0, slots := 0, locals := 48 }, none)
def mX3_findReached : gx_M := (yX3_findReached, cX3_findReached, 3, none, [], { frames := 2, cells := 0, slots := 0, locals := 46 }, none)
def mX3_findLeftRecursive : gx_M := (yX3_findLeftRecursive, cX3_findLeftRecursive, 4, none, [], { frames := 2, cells := 0, slots := 0, locals := 46 }, none)
def mX3_findCircular : gx_M := (yX3_findCircular, cX3_findCircular, 4, none, [], { frames := 2, cells := 0, slots := 0, locals := 48 }, none)
def mX3_relate : gx_M := (yX3_relate, cX3_relate, 4, none, [], { frames := 1, cells := 0, slots := 0, locals := 23 }, none)
def mX3_closeRelation : gx_M := (yX3_closeRelation, cX3_closeRelation, 3, none, [], { frames := 1, cells := 0, slots := 0, locals := 21 }, none)
def mX3_relatedToThemselves : gx_M := (yX3_relatedToThemselves, cX3_relatedToThemselves, 3, some .int, [], { frames := 0, cells := 0, slots := 0, locals := 0 }, none)
def mX3_findLeasts : gx_M := (yX3_findLeasts, cX3_findLeasts, 7, none, [], { frames := 2, cells := 0, slots := 0, locals := 47 }, none)
def mX3_leastOfRight : gx_M := (yX3_leastOfRight, cX3_leastOfRight, 5, some .int, [], { frames := 1, cells := 0, slots := 0, locals := 23 }, none)
def mX3_findSpellings : gx_M := (yX3_findSpellings, cX3_findSpellings, 4, none, [], { frames := 3, cells := 0, slots := 0, locals := 73 }, none)
def mX3_improveSpelling : gx_M := (yX3_improveSpelling, cX3_improveSpelling, 6, some .boolean, [], { frames := 2, cells := 0, slots := 0, locals := 48 }, none)
def mX3_spell : gx_M := (yX3_spell, cX3_spell, 6, some .long, [], { frames := 1, cells := 0, slots := 0, locals := 23 }, none)
def mX3_findPredictions : gx_M := (yX3_findPredictions, cX3_findPredictions, 3, none, [], { frames := 2, cells := 0, slots := 0, locals := 48 }, none)
def mX3_findItems : gx_M := (yX3_findItems, cX3_findItems, 3, none, [], { frames := 2, cells := 0, slots := 0, locals := 48 }, none)
def mX4_init : gx_M := (yX4_init, cX4_init, 2, none, [], { frames := 2, cells := 69, slots := 1048, locals := 38 }, none)
def mX4_count : gx_M := (yX4_count, cX4_count, 1, some .int, [], { frames := 0, cells := 0, slots := 0, locals := 0 }, none)
def mX4_rules : gx_M := (yX4_rules, cX4_rules, 1, some .int, [], { frames := 0, cells := 0, slots := 0, locals := 0 }, none)
def mX4_top : gx_M := (yX4_top, cX4_top, 1, some .int, [], { frames := 0, cells := 0, slots := 0, locals := 0 }, none)
def mX4_setTop : gx_M := (yX4_setTop, cX4_setTop, 2, none, [], { frames := 0, cells := 0, slots := 0, locals := 0 }, none)
def mX4_owner : gx_M := (yX4_owner, cX4_owner, 2, some .int, [], { frames := 0, cells := 0, slots := 0, locals := 0 }, none)
def mX4_length : gx_M := (yX4_length, cX4_length, 2, some .int, [], { frames := 0, cells := 0, slots := 0, locals := 0 }, none)
def mX4_symbol : gx_M := (yX4_symbol, cX4_symbol, 4, some .int, [], { frames := 0, cells := 0, slots := 0, locals := 0 }, none)
def mX4_lastTerminal : gx_M := (yX4_lastTerminal, cX4_lastTerminal, 3, some .int, [], { frames := 1, cells := 0, slots := 0, locals := 23 }, none)
def mX4_open : gx_M := (yX4_open, cX4_open, 2, some .boolean, [], { frames := 0, cells := 0, slots := 0, locals := 0 }, none)
def mX4_extend : gx_M := (yX4_extend, cX4_extend, 3, some .boolean, [], { frames := 0, cells := 0, slots := 0, locals := 0 }, none)
def mX4_freeHelper : gx_M := (yX4_freeHelper, cX4_freeHelper, 5, some .int, [], { frames := 1, cells := 0, slots := 0, locals := 23 }, none)
def mX4_admit : gx_M := (yX4_admit, cX4_admit, 4, some .boolean, [], { frames := 4, cells := 0, slots := 0, locals := 99 }, none)
def mX4_admitAll : gx_M := (yX4_admitAll, cX4_admitAll, 7, some .boolean, [], { frames := 5, cells := 0, slots := 0, locals := 122 }, none)
def mX4_dropLastRule : gx_M := (yX4_dropLastRule, cX4_dropLastRule, 1, some .boolean, [], { frames := 0, cells := 0, slots := 0, locals := 0 }, none)
def mX5_init : gx_M := (yX5_init, cX5_init, 3, none, [], { frames := 2, cells := 2, slots := 1801, locals := 38 }, none)
def mX5_extent : gx_M := (yX5_extent, cX5_extent, 1, some .int, [], { frames := 4, cells := 0, slots := 0, locals := 92 }, none)
def mX5_clashes : gx_M := (yX5_clashes, cX5_clashes, 1, some .int, [], { frames := 4, cells := 0, slots := 0, locals := 92 }, none)
def mX5_easedClashes : gx_M := (yX5_easedClashes, cX5_easedClashes, 1, some .int, [], { frames := 0, cells := 0, slots := 0, locals := 0 }, none)
def mX5_run : gx_M := (yX5_run, cX5_run, 7, some .int, [], { frames := 3, cells := 0, slots := 0, locals := 67 }, none)
def mX5_cellsWith : gx_M := (yX5_cellsWith, cX5_cellsWith, 5, some .int, [], { frames := 3, cells := 0, slots := 0, locals := 68 }, none)
def mX5_countIn : gx_M := (yX5_countIn, cX5_countIn, 5, some .int, [], { frames := 2, cells := 0, slots := 0, locals := 44 }, none)
def mX5_lowestIn : gx_M := (yX5_lowestIn, cX5_lowestIn, 4, some .int, [], { frames := 2, cells := 0, slots := 0, locals := 44 }, none)
def mX5_isIn : gx_M := (yX5_isIn, cX5_isIn, 4, some .boolean, [], { frames := 1, cells := 0, slots := 0, locals := 21 }, none)
def mX5_next : gx_M := (yX5_next, cX5_next, 1, some .int, [], { frames := 0, cells := 0, slots := 0, locals := 0 }, none)
def mX5_push : gx_M := (yX5_push, cX5_push, 2, none, [], { frames := 0, cells := 0, slots := 0, locals := 0 }, none)
def mX5_pop : gx_M := (yX5_pop, cX5_pop, 2, some .int, [], { frames := 1, cells := 0, slots := 0, locals := 20 }, none)
def mX5_apply : gx_M := (yX5_apply, cX5_apply, 3, none, [], { frames := 1, cells := 0, slots := 0, locals := 23 }, none)
def mX5_worthOfTree : gx_M := (yX5_worthOfTree, cX5_worthOfTree, 7, some .int, [], { frames := 2, cells := 0, slots := 0, locals := 41 }, none)
def mX6_init : gx_M := (yX6_init, cX6_init, 5, none, [], { frames := 2, cells := 1, slots := 16, locals := 42 }, none)
def mX6_none : gx_M := (yX6_none, cX6_none, 1, some .int, [], { frames := 0, cells := 0, slots := 0, locals := 0 }, none)
def mX6_blank : gx_M := (yX6_blank, cX6_blank, 3, some .int, [], { frames := 0, cells := 0, slots := 0, locals := 0 }, none)
def mX6_ofTerminal : gx_M := (yX6_ofTerminal, cX6_ofTerminal, 5, some .int, [], { frames := 1, cells := 0, slots := 0, locals := 21 }, none)
def mX6_either : gx_M := (yX6_either, cX6_either, 3, some .int, [], { frames := 1, cells := 0, slots := 0, locals := 21 }, none)
def mX6_both : gx_M := (yX6_both, cX6_both, 3, some .int, [], { frames := 1, cells := 0, slots := 0, locals := 21 }, none)
def mX6_ofNonterminal : gx_M := (yX6_ofNonterminal, cX6_ofNonterminal, 3, some .int, [], { frames := 0, cells := 0, slots := 0, locals := 0 }, none)
def mX7_init : gx_M := (yX7_init, cX7_init, 1, none, [], { frames := 1, cells := 1, slots := 24, locals := 18 }, none)
def mX7_read : gx_M := (yX7_read, cX7_read, 7, some .boolean, [], { frames := 3, cells := 0, slots := 0, locals := 73 }, none)
def mX7_push : gx_M := (yX7_push, cX7_push, 2, some .boolean, [], { frames := 0, cells := 0, slots := 0, locals := 0 }, none)
def mX7_closeBracket : gx_M := (yX7_closeBracket, cX7_closeBracket, 4, some .boolean, [], { frames := 2, cells := 0, slots := 0, locals := 47 }, none)
def mX7_release : gx_M := (yX7_release, cX7_release, 6, some .boolean, [], { frames := 1, cells := 0, slots := 0, locals := 22 }, none)
def mX7_wrap : gx_M := (yX7_wrap, cX7_wrap, 7, some .boolean, [], { frames := 2, cells := 0, slots := 0, locals := 47 }, none)
def mX8_init : gx_M := (yX8_init, cX8_init, 1, none, [], { frames := 1, cells := 1, slots := 24, locals := 18 }, none)
def mX8_isFull : gx_M := (yX8_isFull, cX8_isFull, 1, some .boolean, [], { frames := 0, cells := 0, slots := 0, locals := 0 }, none)
def mX8_append : gx_M := (yX8_append, cX8_append, 2, some .int, [], { frames := 0, cells := 0, slots := 0, locals := 0 }, none)
def mX8_clear : gx_M := (yX8_clear, cX8_clear, 2, some .int, [], { frames := 0, cells := 0, slots := 0, locals := 0 }, none)
def mX8_length : gx_M := (yX8_length, cX8_length, 1, some .int, [], { frames := 0, cells := 0, slots := 0, locals := 0 }, none)
def mX8_letter : gx_M := (yX8_letter, cX8_letter, 2, some .char, [], { frames := 0, cells := 0, slots := 0, locals := 0 }, none)
def mX8_copyRenamed : gx_M := (yX8_copyRenamed, cX8_copyRenamed, 5, none, [], { frames := 1, cells := 0, slots := 0, locals := 21 }, none)
def mX8_firstFault : gx_M := (yX8_firstFault, cX8_firstFault, 5, some .int, [], { frames := 3, cells := 0, slots := 0, locals := 64 }, none)
def mX8_stateBehind : gx_M := (yX8_stateBehind, cX8_stateBehind, 3, some .int, [], { frames := 2, cells := 0, slots := 0, locals := 42 }, none)
def mX8_stateInChoice : gx_M := (yX8_stateInChoice, cX8_stateInChoice, 3, some .int, [], { frames := 1, cells := 0, slots := 0, locals := 20 }, none)
def mX9_init : gx_M := (yX9_init, cX9_init, 6, none, [], { frames := 2, cells := 2, slots := 602, locals := 38 }, none)
def mX9_extent : gx_M := (yX9_extent, cX9_extent, 1, some .int, [], { frames := 1, cells := 0, slots := 0, locals := 20 }, none)
def mX9_clashes : gx_M := (yX9_clashes, cX9_clashes, 1, some .int, [], { frames := 5, cells := 0, slots := 0, locals := 110 }, none)
def mX9_easedClashes : gx_M := (yX9_easedClashes, cX9_easedClashes, 1, some .int, [], { frames := 5, cells := 0, slots := 0, locals := 110 }, none)
def mX9_run : gx_M := (yX9_run, cX9_run, 5, some .int, [], { frames := 5, cells := 0, slots := 0, locals := 110 }, none)
def mX9_cellsInConflict : gx_M := (yX9_cellsInConflict, cX9_cellsInConflict, 5, some .int, [], { frames := 4, cells := 0, slots := 0, locals := 86 }, none)
def mX9_readCell : gx_M := (yX9_readCell, cX9_readCell, 5, none, [], { frames := 2, cells := 0, slots := 0, locals := 47 }, none)
def mX9_reducedBy : gx_M := (yX9_reducedBy, cX9_reducedBy, 5, some .int, [], { frames := 1, cells := 0, slots := 0, locals := 23 }, none)
def mX9_isConflict : gx_M := (yX9_isConflict, cX9_isConflict, 1, some .boolean, [], { frames := 0, cells := 0, slots := 0, locals := 0 }, none)
def mX9_isSettled : gx_M := (yX9_isSettled, cX9_isSettled, 2, some .boolean, [], { frames := 3, cells := 0, slots := 0, locals := 65 }, none)
def mX9_levelOf : gx_M := (yX9_levelOf, cX9_levelOf, 2, some .int, [], { frames := 0, cells := 0, slots := 0, locals := 0 }, none)
def mX9_levelOfLowest : gx_M := (yX9_levelOfLowest, cX9_levelOfLowest, 1, some .int, [], { frames := 2, cells := 0, slots := 0, locals := 45 }, none)
def mX9_action : gx_M := (yX9_action, cX9_action, 3, some .int, [], { frames := 4, cells := 0, slots := 0, locals := 88 }, none)
def mX9_settledAction : gx_M := (yX9_settledAction, cX9_settledAction, 4, some .int, [], { frames := 3, cells := 0, slots := 0, locals := 65 }, none)
def mX9_state : gx_M := (yX9_state, cX9_state, 1, some .int, [], { frames := 0, cells := 0, slots := 0, locals := 0 }, none)
def mX9_worthOfTop : gx_M := (yX9_worthOfTop, cX9_worthOfTop, 1, some .int, [], { frames := 0, cells := 0, slots := 0, locals := 0 }, none)
def mX9_push : gx_M := (yX9_push, cX9_push, 3, none, [], { frames := 0, cells := 0, slots := 0, locals := 0 }, none)
def mX9_reduce : gx_M := (yX9_reduce, cX9_reduce, 5, none, [], { frames := 1, cells := 0, slots := 0, locals := 23 }, none)
def mX10_init : gx_M := (yX10_init, cX10_init, 1, none, [], { frames := 1, cells := 0, slots := 0, locals := 18 }, none)
def mX10_worth : gx_M := (yX10_worth, cX10_worth, 1, some .int, [], { frames := 0, cells := 0, slots := 0, locals := 0 }, none)
def mX10_keepWorth : gx_M := (yX10_keepWorth, cX10_keepWorth, 2, none, [], { frames := 0, cells := 0, slots := 0, locals := 0 }, none)
def mX11_init : gx_M := (yX11_init, cX11_init, 10, none, [], { frames := 3, cells := 184, slots := 64146, locals := 66 }, none)
def mX11_type : gx_M := (yX11_type, cX11_type, 2, some .int, [], { frames := 6, cells := 1, slots := 6, locals := 88 }, none)
def mX11_wipe : gx_M := (yX11_wipe, cX11_wipe, 1, some .int, [], { frames := 1, cells := 0, slots := 0, locals := 21 }, none)
def mX11_fault : gx_M := (yX11_fault, cX11_fault, 1, some .int, [], { frames := 4, cells := 0, slots := 0, locals := 88 }, none)
def mX11_enter : gx_M := (yX11_enter, cX11_enter, 1, some .int, [], { frames := 6, cells := 1, slots := 6, locals := 122 }, none)
def mX11_undo : gx_M := (yX11_undo, cX11_undo, 1, some .int, [], { frames := 6, cells := 1, slots := 6, locals := 88 }, none)
def mX11_use : gx_M := (yX11_use, cX11_use, 4, some .int, [], { frames := 6, cells := 1, slots := 6, locals := 88 }, none)
def mX11_bring : gx_M := (yX11_bring, cX11_bring, 2, some .int, [], { frames := 6, cells := 1, slots := 6, locals := 148 }, none)
def mX11_start : gx_M := (yX11_start, cX11_start, 3, some .int, [], { frames := 6, cells := 1, slots := 6, locals := 88 }, none)
def mX11_level : gx_M := (yX11_level, cX11_level, 5, some .int, [], { frames := 6, cells := 1, slots := 6, locals := 88 }, none)
def mX11_productions : gx_M := (yX11_productions, cX11_productions, 1, some .int, [], { frames := 1, cells := 0, slots := 0, locals := 20 }, none)
def mX11_left : gx_M := (yX11_left, cX11_left, 2, some .int, [], { frames := 6, cells := 1, slots := 6, locals := 88 }, none)
def mX11_right : gx_M := (yX11_right, cX11_right, 3, some .int, [], { frames := 6, cells := 1, slots := 6, locals := 88 }, none)
def mX11_isNullable : gx_M := (yX11_isNullable, cX11_isNullable, 2, some .boolean, [], { frames := 7, cells := 1, slots := 6, locals := 117 }, none)
def mX11_first : gx_M := (yX11_first, cX11_first, 2, some .int, [], { frames := 7, cells := 1, slots := 6, locals := 117 }, none)
def mX11_follow : gx_M := (yX11_follow, cX11_follow, 2, some .int, [], { frames := 7, cells := 1, slots := 6, locals := 117 }, none)
def mX11_uses : gx_M := (yX11_uses, cX11_uses, 2, some .int, [], { frames := 7, cells := 1, slots := 6, locals := 117 }, none)
def mX11_isLeftRecursive : gx_M := (yX11_isLeftRecursive, cX11_isLeftRecursive, 2, some .boolean, [], { frames := 7, cells := 1, slots := 6, locals := 117 }, none)
def mX11_shortest : gx_M := (yX11_shortest, cX11_shortest, 2, some .int, [], { frames := 7, cells := 1, slots := 6, locals := 117 }, none)
def mX11_sentence : gx_M := (yX11_sentence, cX11_sentence, 4, some .int, [], { frames := 7, cells := 2, slots := 12, locals := 117 }, none)
def mX11_size : gx_M := (yX11_size, cX11_size, 2, some .int, [], { frames := 7, cells := 1, slots := 6, locals := 138 }, none)
def mX11_conflicts : gx_M := (yX11_conflicts, cX11_conflicts, 2, some .int, [], { frames := 7, cells := 1, slots := 6, locals := 138 }, none)
def mX11_settled : gx_M := (yX11_settled, cX11_settled, 2, some .int, [], { frames := 7, cells := 1, slots := 6, locals := 138 }, none)
def mX11_chosen : gx_M := (yX11_chosen, cX11_chosen, 3, some .int, [], { frames := 6, cells := 0, slots := 0, locals := 138 }, none)
def mX11_put : gx_M := (yX11_put, cX11_put, 4, some .int, [], { frames := 6, cells := 1, slots := 6, locals := 88 }, none)
def mX11_cut : gx_M := (yX11_cut, cX11_cut, 4, some .int, [], { frames := 6, cells := 1, slots := 6, locals := 88 }, none)
def mX11_parse : gx_M := (yX11_parse, cX11_parse, 2, some .int, [], { frames := 7, cells := 1, slots := 6, locals := 138 }, none)
def mX11_value : gx_M := (yX11_value, cX11_value, 3, some .int, [], { frames := 7, cells := 2, slots := 12, locals := 138 }, none)
def mX11_readings : gx_M := (yX11_readings, cX11_readings, 1, some .int, [], { frames := 6, cells := 0, slots := 0, locals := 151 }, none)
def mX11_repair : gx_M := (yX11_repair, cX11_repair, 1, some .int, [], { frames := 6, cells := 0, slots := 0, locals := 151 }, none)
def mX11_forget : gx_M := (yX11_forget, cX11_forget, 1, none, [], { frames := 1, cells := 0, slots := 0, locals := 21 }, none)
def mX11_table : gx_M := (yX11_table, cX11_table, 2, some (.object "Grammarsmith$Table"), [], { frames := 5, cells := 0, slots := 0, locals := 117 }, none)
def mX11_requireNonterminal : gx_M := (yX11_requireNonterminal, cX11_requireNonterminal, 1, none, [], { frames := 6, cells := 1, slots := 6, locals := 88 }, none)
def mX11_requireKind : gx_M := (yX11_requireKind, cX11_requireKind, 1, none, [], { frames := 6, cells := 1, slots := 6, locals := 88 }, none)
def mX11_isTerminal : gx_M := (yX11_isTerminal, cX11_isTerminal, 1, some .boolean, [], { frames := 0, cells := 0, slots := 0, locals := 0 }, none)
def mX11_isNonterminal : gx_M := (yX11_isNonterminal, cX11_isNonterminal, 1, some .boolean, [], { frames := 0, cells := 0, slots := 0, locals := 0 }, none)
def mX11_isTerminalLetter : gx_M := (yX11_isTerminalLetter, cX11_isTerminalLetter, 1, some .boolean, [], { frames := 0, cells := 0, slots := 0, locals := 0 }, none)
def mX11_isNonterminalLetter : gx_M := (yX11_isNonterminalLetter, cX11_isNonterminalLetter, 1, some .boolean, [], { frames := 0, cells := 0, slots := 0, locals := 0 }, none)
def mX11_isRepeat : gx_M := (yX11_isRepeat, cX11_isRepeat, 1, some .boolean, [], { frames := 0, cells := 0, slots := 0, locals := 0 }, none)
def mX11_isLetter : gx_M := (yX11_isLetter, cX11_isLetter, 1, some .boolean, [], { frames := 1, cells := 0, slots := 0, locals := 20 }, none)
def mX11_has : gx_M := (yX11_has, cX11_has, 2, some .boolean, [], { frames := 0, cells := 0, slots := 0, locals := 0 }, none)
def mX11_behindOf : gx_M := (yX11_behindOf, cX11_behindOf, 3, some .int, [], { frames := 0, cells := 0, slots := 0, locals := 0 }, none)
def mX11_lookAt : gx_M := (yX11_lookAt, cX11_lookAt, 2, some .int, [], { frames := 0, cells := 0, slots := 0, locals := 0 }, none)
def mX12_init : gx_M := (yX12_init, cX12_init, 1, none, [], { frames := 1, cells := 31, slots := 35356, locals := 18 }, none)
def mX12_thrown : gx_M := (yX12_thrown, cX12_thrown, 1, some .int, [], { frames := 0, cells := 0, slots := 0, locals := 0 }, none)
def mX12_goes : gx_M := (yX12_goes, cX12_goes, 4, some .boolean, [], { frames := 0, cells := 0, slots := 0, locals := 0 }, none)
def mX12_isBelow : gx_M := (yX12_isBelow, cX12_isBelow, 2, some .boolean, [], { frames := 0, cells := 0, slots := 0, locals := 0 }, none)
def mX12_changed : gx_M := (yX12_changed, cX12_changed, 1, none, [], { frames := 0, cells := 0, slots := 0, locals := 0 }, none)
def mX12_isTerminal : gx_M := (yX12_isTerminal, cX12_isTerminal, 1, some .boolean, [], { frames := 0, cells := 0, slots := 0, locals := 0 }, none)
def mX12_isName : gx_M := (yX12_isName, cX12_isName, 1, some .boolean, [], { frames := 0, cells := 0, slots := 0, locals := 0 }, none)
def mX12_isTail : gx_M := (yX12_isTail, cX12_isTail, 1, some .boolean, [], { frames := 0, cells := 0, slots := 0, locals := 0 }, none)
def mX12_type : gx_M := (yX12_type, cX12_type, 3, some .int, [], { frames := 1, cells := 0, slots := 0, locals := 23 }, none)
def mX12_wipe : gx_M := (yX12_wipe, cX12_wipe, 2, some .int, [], { frames := 0, cells := 0, slots := 0, locals := 0 }, none)
def mX12_faultOf : gx_M := (yX12_faultOf, cX12_faultOf, 6, some .int, [], { frames := 1, cells := 0, slots := 0, locals := 20 }, none)
def mX12_fault : gx_M := (yX12_fault, cX12_fault, 1, some .int, [], { frames := 2, cells := 0, slots := 0, locals := 45 }, none)
def mX12_helper : gx_M := (yX12_helper, cX12_helper, 6, some .int, [], { frames := 0, cells := 0, slots := 0, locals := 0 }, none)
def mX12_adds : gx_M := (yX12_adds, cX12_adds, 6, some .boolean, [], { frames := 0, cells := 0, slots := 0, locals := 0 }, none)
def mX12_addsAll : gx_M := (yX12_addsAll, cX12_addsAll, 6, some .boolean, [], { frames := 1, cells := 0, slots := 0, locals := 25 }, none)
def mX12_stands : gx_M := (yX12_stands, cX12_stands, 7, some .boolean, [], { frames := 1, cells := 0, slots := 0, locals := 25 }, none)
def mX12_closes : gx_M := (yX12_closes, cX12_closes, 3, some .boolean, [], { frames := 2, cells := 0, slots := 0, locals := 50 }, none)
def mX12_reads : gx_M := (yX12_reads, cX12_reads, 4, some .boolean, [], { frames := 3, cells := 0, slots := 0, locals := 72 }, none)
def mX12_enters : gx_M := (yX12_enters, cX12_enters, 4, some .boolean, [], { frames := 4, cells := 0, slots := 0, locals := 95 }, none)
def mX12_enter : gx_M := (yX12_enter, cX12_enter, 2, some .int, [], { frames := 5, cells := 0, slots := 0, locals := 118 }, none)
def mX12_undo : gx_M := (yX12_undo, cX12_undo, 1, some .int, [], { frames := 1, cells := 0, slots := 0, locals := 23 }, none)
def mX12_use : gx_M := (yX12_use, cX12_use, 3, some .int, [], { frames := 1, cells := 0, slots := 0, locals := 23 }, none)
def mX12_brings : gx_M := (yX12_brings, cX12_brings, 5, none, [], { frames := 1, cells := 0, slots := 0, locals := 20 }, none)
def mX12_bringsAll : gx_M := (yX12_bringsAll, cX12_bringsAll, 6, some .boolean, [], { frames := 5, cells := 0, slots := 0, locals := 118 }, none)
def mX12_bring : gx_M := (yX12_bring, cX12_bring, 6, some .int, [], { frames := 6, cells := 0, slots := 0, locals := 143 }, none)
def mX12_start : gx_M := (yX12_start, cX12_start, 3, some .int, [], { frames := 1, cells := 0, slots := 0, locals := 23 }, none)
def mX12_level : gx_M := (yX12_level, cX12_level, 5, some .int, [], { frames := 1, cells := 0, slots := 0, locals := 23 }, none)
def mX12_productions : gx_M := (yX12_productions, cX12_productions, 1, some .int, [], { frames := 0, cells := 0, slots := 0, locals := 0 }, none)
def mX12_left : gx_M := (yX12_left, cX12_left, 2, some .int, [], { frames := 1, cells := 0, slots := 0, locals := 23 }, none)
def mX12_right : gx_M := (yX12_right, cX12_right, 3, some .int, [], { frames := 2, cells := 0, slots := 0, locals := 43 }, none)
def mX12_sizeOf : gx_M := (yX12_sizeOf, cX12_sizeOf, 2, some .int, [], { frames := 0, cells := 0, slots := 0, locals := 0 }, none)
def mX12_lead : gx_M := (yX12_lead, cX12_lead, 2, some .int, [], { frames := 0, cells := 0, slots := 0, locals := 0 }, none)
def mX12_symbol : gx_M := (yX12_symbol, cX12_symbol, 3, some .int, [], { frames := 1, cells := 0, slots := 0, locals := 21 }, none)
def mX12_isEmptyFrom : gx_M := (yX12_isEmptyFrom, cX12_isEmptyFrom, 6, some .boolean, [], { frames := 2, cells := 0, slots := 0, locals := 43 }, none)
def mX12_firstFrom : gx_M := (yX12_firstFrom, cX12_firstFrom, 7, some .int, [], { frames := 2, cells := 0, slots := 0, locals := 43 }, none)
def mX12_findsMore : gx_M := (yX12_findsMore, cX12_findsMore, 6, some .boolean, [], { frames := 3, cells := 0, slots := 0, locals := 69 }, none)
def mX12_findsBehind : gx_M := (yX12_findsBehind, cX12_findsBehind, 6, some .boolean, [], { frames := 3, cells := 0, slots := 0, locals := 69 }, none)
def mX12_findsShort : gx_M := (yX12_findsShort, cX12_findsShort, 8, some .boolean, [], { frames := 2, cells := 0, slots := 0, locals := 43 }, none)
def mX12_finds : gx_M := (yX12_finds, cX12_finds, 3, none, [], { frames := 4, cells := 0, slots := 0, locals := 94 }, none)
def mX12_leadsAll : gx_M := (yX12_leadsAll, cX12_leadsAll, 5, none, [], { frames := 2, cells := 0, slots := 0, locals := 43 }, none)
def mX12_isNullable : gx_M := (yX12_isNullable, cX12_isNullable, 2, some .boolean, [], { frames := 5, cells := 0, slots := 0, locals := 116 }, none)
def mX12_first : gx_M := (yX12_first, cX12_first, 2, some .int, [], { frames := 5, cells := 0, slots := 0, locals := 116 }, none)
def mX12_follow : gx_M := (yX12_follow, cX12_follow, 2, some .int, [], { frames := 5, cells := 0, slots := 0, locals := 116 }, none)
def mX12_uses : gx_M := (yX12_uses, cX12_uses, 6, some .int, [], { frames := 5, cells := 0, slots := 0, locals := 116 }, none)
def mX12_isLeftRecursive : gx_M := (yX12_isLeftRecursive, cX12_isLeftRecursive, 2, some .boolean, [], { frames := 5, cells := 0, slots := 0, locals := 116 }, none)
def mX12_shortest : gx_M := (yX12_shortest, cX12_shortest, 2, some .int, [], { frames := 5, cells := 0, slots := 0, locals := 116 }, none)
def mX12_sentence : gx_M := (yX12_sentence, cX12_sentence, 4, some .int, [], { frames := 5, cells := 0, slots := 0, locals := 116 }, none)
def mX12_numbers : gx_M := (yX12_numbers, cX12_numbers, 2, none, [], { frames := 1, cells := 0, slots := 0, locals := 21 }, none)
def mX12_index : gx_M := (yX12_index, cX12_index, 1, some .int, [], { frames := 0, cells := 0, slots := 0, locals := 0 }, none)
def mX12_opens : gx_M := (yX12_opens, cX12_opens, 11, some .boolean, [], { frames := 3, cells := 0, slots := 0, locals := 69 }, none)
def mX12_opensAll : gx_M := (yX12_opensAll, cX12_opensAll, 6, some .boolean, [], { frames := 4, cells := 0, slots := 0, locals := 99 }, none)
def mX12_closure : gx_M := (yX12_closure, cX12_closure, 4, none, [], { frames := 5, cells := 0, slots := 0, locals := 124 }, none)
def mX12_steps : gx_M := (yX12_steps, cX12_steps, 9, some .boolean, [], { frames := 2, cells := 0, slots := 0, locals := 43 }, none)
def mX12_findState : gx_M := (yX12_findState, cX12_findState, 8, some .int, [], { frames := 0, cells := 0, slots := 0, locals := 0 }, none)
def mX12_makes : gx_M := (yX12_makes, cX12_makes, 9, some .int, [], { frames := 6, cells := 0, slots := 0, locals := 147 }, none)
def mX12_spreads : gx_M := (yX12_spreads, cX12_spreads, 9, some .boolean, [], { frames := 2, cells := 0, slots := 0, locals := 43 }, none)
def mX12_merges : gx_M := (yX12_merges, cX12_merges, 3, none, [], { frames := 7, cells := 0, slots := 0, locals := 175 }, none)
def mX12_wholes : gx_M := (yX12_wholes, cX12_wholes, 1, none, [], { frames := 7, cells := 0, slots := 0, locals := 175 }, none)
def mX12_states : gx_M := (yX12_states, cX12_states, 2, some .int, [], { frames := 8, cells := 0, slots := 0, locals := 197 }, none)
def mX12_goTo : gx_M := (yX12_goTo, cX12_goTo, 4, some .int, [], { frames := 0, cells := 0, slots := 0, locals := 0 }, none)
def mX12_reduces : gx_M := (yX12_reduces, cX12_reduces, 8, some .boolean, [], { frames := 1, cells := 0, slots := 0, locals := 21 }, none)
def mX12_levelOf : gx_M := (yX12_levelOf, cX12_levelOf, 4, some .int, [], { frames := 2, cells := 0, slots := 0, locals := 43 }, none)
def mX12_lastTerminal : gx_M := (yX12_lastTerminal, cX12_lastTerminal, 4, some .int, [], { frames := 2, cells := 0, slots := 0, locals := 43 }, none)
def mX12_cell : gx_M := (yX12_cell, cX12_cell, 13, some .int, [], { frames := 3, cells := 0, slots := 0, locals := 66 }, none)
def mX12_predicted : gx_M := (yX12_predicted, cX12_predicted, 8, some .int, [], { frames := 3, cells := 0, slots := 0, locals := 69 }, none)
def mX12_isKind : gx_M := (yX12_isKind, cX12_isKind, 1, some .boolean, [], { frames := 0, cells := 0, slots := 0, locals := 0 }, none)
def mX12_size : gx_M := (yX12_size, cX12_size, 4, some .int, [], { frames := 9, cells := 0, slots := 0, locals := 218 }, none)
def mX12_counts : gx_M := (yX12_counts, cX12_counts, 7, some .int, [], { frames := 9, cells := 0, slots := 0, locals := 218 }, none)
def mX12_conflicts : gx_M := (yX12_conflicts, cX12_conflicts, 2, some .int, [], { frames := 10, cells := 0, slots := 0, locals := 244 }, none)
def mX12_settled : gx_M := (yX12_settled, cX12_settled, 2, some .int, [], { frames := 10, cells := 0, slots := 0, locals := 244 }, none)
def mX12_chosen : gx_M := (yX12_chosen, cX12_chosen, 3, some .int, [], { frames := 10, cells := 0, slots := 0, locals := 244 }, none)
def mX12_put : gx_M := (yX12_put, cX12_put, 4, some .int, [], { frames := 1, cells := 0, slots := 0, locals := 23 }, none)
def mX12_cut : gx_M := (yX12_cut, cX12_cut, 4, some .int, [], { frames := 1, cells := 0, slots := 0, locals := 23 }, none)
def mX12_reduced : gx_M := (yX12_reduced, cX12_reduced, 6, none, [], { frames := 1, cells := 0, slots := 0, locals := 23 }, none)
def mX12_runs : gx_M := (yX12_runs, cX12_runs, 7, some .int, [], { frames := 9, cells := 0, slots := 0, locals := 218 }, none)
def mX12_gathers : gx_M := (yX12_gathers, cX12_gathers, 5, none, [], { frames := 1, cells := 0, slots := 0, locals := 21 }, none)
def mX12_derives : gx_M := (yX12_derives, cX12_derives, 7, some .int, [], { frames := 5, cells := 0, slots := 0, locals := 116 }, none)
def mX12_sizeOr : gx_M := (yX12_sizeOr, cX12_sizeOr, 2, some .int, [], { frames := 1, cells := 0, slots := 0, locals := 21 }, none)
def mX12_parses : gx_M := (yX12_parses, cX12_parses, 2, some .int, [], { frames := 10, cells := 0, slots := 0, locals := 244 }, none)
def mX12_parse : gx_M := (yX12_parse, cX12_parse, 2, some .int, [], { frames := 11, cells := 0, slots := 0, locals := 265 }, none)
def mX12_value : gx_M := (yX12_value, cX12_value, 3, some .int, [], { frames := 11, cells := 0, slots := 0, locals := 265 }, none)
def mX12_at : gx_M := (yX12_at, cX12_at, 3, some .int, [], { frames := 0, cells := 0, slots := 0, locals := 0 }, none)
def mX12_ways : gx_M := (yX12_ways, cX12_ways, 4, some .int, [], { frames := 1, cells := 0, slots := 0, locals := 22 }, none)
def mX12_waysOf : gx_M := (yX12_waysOf, cX12_waysOf, 9, some .int, [], { frames := 2, cells := 0, slots := 0, locals := 45 }, none)
def mX12_counted : gx_M := (yX12_counted, cX12_counted, 7, some .boolean, [], { frames := 3, cells := 0, slots := 0, locals := 73 }, none)
def mX12_readings : gx_M := (yX12_readings, cX12_readings, 4, some .int, [], { frames := 4, cells := 0, slots := 0, locals := 99 }, none)
def mX12_edits : gx_M := (yX12_edits, cX12_edits, 6, some .int, [], { frames := 1, cells := 0, slots := 0, locals := 22 }, none)
def mX12_editsOf : gx_M := (yX12_editsOf, cX12_editsOf, 9, some .int, [], { frames := 2, cells := 0, slots := 0, locals := 47 }, none)
def mX12_mended : gx_M := (yX12_mended, cX12_mended, 7, some .boolean, [], { frames := 3, cells := 0, slots := 0, locals := 75 }, none)
def mX12_repair : gx_M := (yX12_repair, cX12_repair, 4, some .int, [], { frames := 5, cells := 0, slots := 0, locals := 116 }, none)
def mJ9_min_7cf53 : gx_M := (yJ9_min_7cf53, cJ9_min_7cf53, 2, some .int, [], { frames := 0, cells := 0, slots := 0, locals := 0 }, none)
def mJ7_fill_53178 : gx_M := (yJ7_fill_53178, cJ7_fill_53178, 4, none, [], { frames := 0, cells := 0, slots := 0, locals := 0 }, none)
def mL_type : gx_M := (yL_type, cL_type, 4, some .int, [(0, 9, 12, 13), (0, 9, 15, 15)], { frames := 7, cells := 1, slots := 6, locals := 109 }, none)
def mL_enter : gx_M := (yL_enter, cL_enter, 3, some .int, [(0, 8, 11, 13), (0, 8, 14, 15)], { frames := 7, cells := 1, slots := 6, locals := 142 }, none)
def mL_undo : gx_M := (yL_undo, cL_undo, 3, some .int, [(0, 8, 11, 15)], { frames := 7, cells := 1, slots := 6, locals := 108 }, none)
def mL_use : gx_M := (yL_use, cL_use, 4, some .int, [(0, 9, 12, 28)], { frames := 7, cells := 1, slots := 6, locals := 111 }, none)
def mL_bring : gx_M := (yL_bring, cL_bring, 4, some .int, [(0, 9, 12, 13), (0, 9, 15, 15)], { frames := 7, cells := 1, slots := 6, locals := 169 }, none)
def mL_start : gx_M := (yL_start, cL_start, 4, some .int, [(0, 9, 12, 28)], { frames := 7, cells := 1, slots := 6, locals := 110 }, none)
def mL_level : gx_M := (yL_level, cL_level, 6, some .int, [(0, 12, 15, 28), (0, 12, 19, 13)], { frames := 7, cells := 1, slots := 6, locals := 112 }, none)
def mL_left : gx_M := (yL_left, cL_left, 4, some .int, [(0, 9, 12, 28)], { frames := 7, cells := 1, slots := 6, locals := 109 }, none)
def mL_right : gx_M := (yL_right, cL_right, 5, some .int, [(0, 10, 13, 28)], { frames := 7, cells := 1, slots := 6, locals := 110 }, none)
def mL_isNullable : gx_M := (yL_isNullable, cL_isNullable, 4, some .int, [(0, 16, 19, 28)], { frames := 8, cells := 1, slots := 6, locals := 138 }, none)
def mL_first : gx_M := (yL_first, cL_first, 4, some .int, [(0, 9, 12, 28)], { frames := 8, cells := 1, slots := 6, locals := 138 }, none)
def mL_follow : gx_M := (yL_follow, cL_follow, 4, some .int, [(0, 9, 12, 28)], { frames := 8, cells := 1, slots := 6, locals := 138 }, none)
def mL_uses : gx_M := (yL_uses, cL_uses, 4, some .int, [(0, 9, 12, 28)], { frames := 8, cells := 1, slots := 6, locals := 138 }, none)
def mL_isLeftRecursive : gx_M := (yL_isLeftRecursive, cL_isLeftRecursive, 4, some .int, [(0, 16, 19, 28)], { frames := 8, cells := 1, slots := 6, locals := 138 }, none)
def mL_shortest : gx_M := (yL_shortest, cL_shortest, 4, some .int, [(0, 9, 12, 28)], { frames := 8, cells := 1, slots := 6, locals := 138 }, none)
def mL_sentence : gx_M := (yL_sentence, cL_sentence, 5, some .int, [(0, 10, 13, 28), (0, 10, 17, 15)], { frames := 8, cells := 2, slots := 12, locals := 140 }, none)
def mL_size : gx_M := (yL_size, cL_size, 4, some .int, [(0, 9, 12, 28)], { frames := 8, cells := 1, slots := 6, locals := 159 }, none)
def mL_conflicts : gx_M := (yL_conflicts, cL_conflicts, 4, some .int, [(0, 9, 12, 28)], { frames := 8, cells := 1, slots := 6, locals := 159 }, none)
def mL_settled : gx_M := (yL_settled, cL_settled, 4, some .int, [(0, 9, 12, 28)], { frames := 8, cells := 1, slots := 6, locals := 159 }, none)
def mL_put : gx_M := (yL_put, cL_put, 5, some .int, [(0, 10, 13, 28), (0, 10, 17, 15)], { frames := 7, cells := 1, slots := 6, locals := 111 }, none)
def mL_cut : gx_M := (yL_cut, cL_cut, 4, some .int, [(0, 9, 12, 28)], { frames := 7, cells := 1, slots := 6, locals := 111 }, none)
def mL_parse : gx_M := (yL_parse, cL_parse, 4, some .int, [(0, 9, 12, 28)], { frames := 8, cells := 1, slots := 6, locals := 159 }, none)
def mL_value : gx_M := (yL_value, cL_value, 4, some .int, [(0, 9, 12, 28), (0, 9, 15, 15)], { frames := 8, cells := 2, slots := 12, locals := 160 }, none)
def mL_law (L : Nat) (xs : Nat → Int) : gx_M := (yL_law, cL_law, 7, some .boolean, [], { frames := 14, cells := 601024, slots := 7293034, locals := 574 }, gi_scr L xs)
theorem gw_cw_J7_fill_53178 : gx_cw mJ7_fill_53178 ∈ gx_tb := gx_ok (List.mem_of_getElem? (i := 100) (by decide +kernel)) (by decide +kernel)
theorem gp_J7_fill_53178 : (gx_y mJ7_fill_53178).cls ≠ "java/lang/invoke/MethodHandle" ∧ (gx_y mJ7_fill_53178).cls ≠ "java/lang/invoke/VarHandle" ∧ (parseMethodDescriptor (gx_y mJ7_fill_53178).desc).map (fun d => d.parameters.length) = some 2 := by decide +kernel
theorem gw_cw_J9_min_7cf53 : gx_cw mJ9_min_7cf53 ∈ gx_tb := gx_ok (List.mem_of_getElem? (i := 501) (by decide +kernel)) (by decide +kernel)
theorem gp_J9_min_7cf53 : (gx_y mJ9_min_7cf53).cls ≠ "java/lang/invoke/MethodHandle" ∧ (gx_y mJ9_min_7cf53).cls ≠ "java/lang/invoke/VarHandle" ∧ (parseMethodDescriptor (gx_y mJ9_min_7cf53).desc).map (fun d => d.parameters.length) = some 2 := by decide +kernel
theorem gw_cw_L_bring : gx_cw mL_bring ∈ gx_tb := gx_ok (List.mem_of_getElem? (i := 1051) (by decide +kernel)) (by decide +kernel)
theorem gp_L_bring : (gx_y mL_bring).cls ≠ "java/lang/invoke/MethodHandle" ∧ (gx_y mL_bring).cls ≠ "java/lang/invoke/VarHandle" ∧ (parseMethodDescriptor (gx_y mL_bring).desc).map (fun d => d.parameters.length) = some 3 := by decide +kernel
theorem gw_cw_L_conflicts : gx_cw mL_conflicts ∈ gx_tb := gx_ok (List.mem_of_getElem? (i := 1196) (by decide +kernel)) (by decide +kernel)
theorem gp_L_conflicts : (gx_y mL_conflicts).cls ≠ "java/lang/invoke/MethodHandle" ∧ (gx_y mL_conflicts).cls ≠ "java/lang/invoke/VarHandle" ∧ (parseMethodDescriptor (gx_y mL_conflicts).desc).map (fun d => d.parameters.length) = some 3 := by decide +kernel
theorem gw_cw_L_cut : gx_cw mL_cut ∈ gx_tb := gx_ok (List.mem_of_getElem? (i := 1219) (by decide +kernel)) (by decide +kernel)
theorem gp_L_cut : (gx_y mL_cut).cls ≠ "java/lang/invoke/MethodHandle" ∧ (gx_y mL_cut).cls ≠ "java/lang/invoke/VarHandle" ∧ (parseMethodDescriptor (gx_y mL_cut).desc).map (fun d => d.parameters.length) = some 3 := by decide +kernel
theorem gw_cw_L_enter : gx_cw mL_enter ∈ gx_tb := gx_ok (List.mem_of_getElem? (i := 942) (by decide +kernel)) (by decide +kernel)
theorem gp_L_enter : (gx_y mL_enter).cls ≠ "java/lang/invoke/MethodHandle" ∧ (gx_y mL_enter).cls ≠ "java/lang/invoke/VarHandle" ∧ (parseMethodDescriptor (gx_y mL_enter).desc).map (fun d => d.parameters.length) = some 2 := by decide +kernel
theorem gw_cw_L_first : gx_cw mL_first ∈ gx_tb := gx_ok (List.mem_of_getElem? (i := 1123) (by decide +kernel)) (by decide +kernel)
theorem gp_L_first : (gx_y mL_first).cls ≠ "java/lang/invoke/MethodHandle" ∧ (gx_y mL_first).cls ≠ "java/lang/invoke/VarHandle" ∧ (parseMethodDescriptor (gx_y mL_first).desc).map (fun d => d.parameters.length) = some 3 := by decide +kernel
theorem gw_cw_L_follow : gx_cw mL_follow ∈ gx_tb := gx_ok (List.mem_of_getElem? (i := 1134) (by decide +kernel)) (by decide +kernel)
theorem gp_L_follow : (gx_y mL_follow).cls ≠ "java/lang/invoke/MethodHandle" ∧ (gx_y mL_follow).cls ≠ "java/lang/invoke/VarHandle" ∧ (parseMethodDescriptor (gx_y mL_follow).desc).map (fun d => d.parameters.length) = some 3 := by decide +kernel
theorem gw_cw_L_isLeftRecursive : gx_cw mL_isLeftRecursive ∈ gx_tb := gx_ok (List.mem_of_getElem? (i := 1153) (by decide +kernel)) (by decide +kernel)
theorem gp_L_isLeftRecursive : (gx_y mL_isLeftRecursive).cls ≠ "java/lang/invoke/MethodHandle" ∧ (gx_y mL_isLeftRecursive).cls ≠ "java/lang/invoke/VarHandle" ∧ (parseMethodDescriptor (gx_y mL_isLeftRecursive).desc).map (fun d => d.parameters.length) = some 3 := by decide +kernel
theorem gw_cw_L_isNullable : gx_cw mL_isNullable ∈ gx_tb := gx_ok (List.mem_of_getElem? (i := 1109) (by decide +kernel)) (by decide +kernel)
theorem gp_L_isNullable : (gx_y mL_isNullable).cls ≠ "java/lang/invoke/MethodHandle" ∧ (gx_y mL_isNullable).cls ≠ "java/lang/invoke/VarHandle" ∧ (parseMethodDescriptor (gx_y mL_isNullable).desc).map (fun d => d.parameters.length) = some 3 := by decide +kernel
theorem gw_cw_L_left : gx_cw mL_left ∈ gx_tb := gx_ok (List.mem_of_getElem? (i := 1091) (by decide +kernel)) (by decide +kernel)
theorem gp_L_left : (gx_y mL_left).cls ≠ "java/lang/invoke/MethodHandle" ∧ (gx_y mL_left).cls ≠ "java/lang/invoke/VarHandle" ∧ (parseMethodDescriptor (gx_y mL_left).desc).map (fun d => d.parameters.length) = some 3 := by decide +kernel
theorem gw_cw_L_level : gx_cw mL_level ∈ gx_tb := gx_ok (List.mem_of_getElem? (i := 1081) (by decide +kernel)) (by decide +kernel)
theorem gp_L_level : (gx_y mL_level).cls ≠ "java/lang/invoke/MethodHandle" ∧ (gx_y mL_level).cls ≠ "java/lang/invoke/VarHandle" ∧ (parseMethodDescriptor (gx_y mL_level).desc).map (fun d => d.parameters.length) = some 5 := by decide +kernel
theorem gw_cw_L_parse : gx_cw mL_parse ∈ gx_tb := gx_ok (List.mem_of_getElem? (i := 1226) (by decide +kernel)) (by decide +kernel)
theorem gp_L_parse : (gx_y mL_parse).cls ≠ "java/lang/invoke/MethodHandle" ∧ (gx_y mL_parse).cls ≠ "java/lang/invoke/VarHandle" ∧ (parseMethodDescriptor (gx_y mL_parse).desc).map (fun d => d.parameters.length) = some 3 := by decide +kernel
theorem gw_cw_L_put : gx_cw mL_put ∈ gx_tb := gx_ok (List.mem_of_getElem? (i := 1210) (by decide +kernel)) (by decide +kernel)
theorem gp_L_put : (gx_y mL_put).cls ≠ "java/lang/invoke/MethodHandle" ∧ (gx_y mL_put).cls ≠ "java/lang/invoke/VarHandle" ∧ (parseMethodDescriptor (gx_y mL_put).desc).map (fun d => d.parameters.length) = some 4 := by decide +kernel
theorem gw_cw_L_right : gx_cw mL_right ∈ gx_tb := gx_ok (List.mem_of_getElem? (i := 1100) (by decide +kernel)) (by decide +kernel)
theorem gp_L_right : (gx_y mL_right).cls ≠ "java/lang/invoke/MethodHandle" ∧ (gx_y mL_right).cls ≠ "java/lang/invoke/VarHandle" ∧ (parseMethodDescriptor (gx_y mL_right).desc).map (fun d => d.parameters.length) = some 4 := by decide +kernel
theorem gw_cw_L_sentence : gx_cw mL_sentence ∈ gx_tb := gx_ok (List.mem_of_getElem? (i := 1172) (by decide +kernel)) (by decide +kernel)
theorem gp_L_sentence : (gx_y mL_sentence).cls ≠ "java/lang/invoke/MethodHandle" ∧ (gx_y mL_sentence).cls ≠ "java/lang/invoke/VarHandle" ∧ (parseMethodDescriptor (gx_y mL_sentence).desc).map (fun d => d.parameters.length) = some 4 := by decide +kernel
theorem gw_cw_L_settled : gx_cw mL_settled ∈ gx_tb := gx_ok (List.mem_of_getElem? (i := 1203) (by decide +kernel)) (by decide +kernel)
theorem gp_L_settled : (gx_y mL_settled).cls ≠ "java/lang/invoke/MethodHandle" ∧ (gx_y mL_settled).cls ≠ "java/lang/invoke/VarHandle" ∧ (parseMethodDescriptor (gx_y mL_settled).desc).map (fun d => d.parameters.length) = some 3 := by decide +kernel
theorem gw_cw_L_shortest : gx_cw mL_shortest ∈ gx_tb := gx_ok (List.mem_of_getElem? (i := 1164) (by decide +kernel)) (by decide +kernel)
theorem gp_L_shortest : (gx_y mL_shortest).cls ≠ "java/lang/invoke/MethodHandle" ∧ (gx_y mL_shortest).cls ≠ "java/lang/invoke/VarHandle" ∧ (parseMethodDescriptor (gx_y mL_shortest).desc).map (fun d => d.parameters.length) = some 3 := by decide +kernel
theorem gw_cw_L_size : gx_cw mL_size ∈ gx_tb := gx_ok (List.mem_of_getElem? (i := 1185) (by decide +kernel)) (by decide +kernel)
theorem gp_L_size : (gx_y mL_size).cls ≠ "java/lang/invoke/MethodHandle" ∧ (gx_y mL_size).cls ≠ "java/lang/invoke/VarHandle" ∧ (parseMethodDescriptor (gx_y mL_size).desc).map (fun d => d.parameters.length) = some 3 := by decide +kernel
theorem gw_cw_L_start : gx_cw mL_start ∈ gx_tb := gx_ok (List.mem_of_getElem? (i := 1069) (by decide +kernel)) (by decide +kernel)
theorem gp_L_start : (gx_y mL_start).cls ≠ "java/lang/invoke/MethodHandle" ∧ (gx_y mL_start).cls ≠ "java/lang/invoke/VarHandle" ∧ (parseMethodDescriptor (gx_y mL_start).desc).map (fun d => d.parameters.length) = some 3 := by decide +kernel
theorem gw_cw_L_type : gx_cw mL_type ∈ gx_tb := gx_ok (List.mem_of_getElem? (i := 835) (by decide +kernel)) (by decide +kernel)
theorem gp_L_type : (gx_y mL_type).cls ≠ "java/lang/invoke/MethodHandle" ∧ (gx_y mL_type).cls ≠ "java/lang/invoke/VarHandle" ∧ (parseMethodDescriptor (gx_y mL_type).desc).map (fun d => d.parameters.length) = some 3 := by decide +kernel
theorem gw_cw_L_undo : gx_cw mL_undo ∈ gx_tb := gx_ok (List.mem_of_getElem? (i := 1015) (by decide +kernel)) (by decide +kernel)
theorem gp_L_undo : (gx_y mL_undo).cls ≠ "java/lang/invoke/MethodHandle" ∧ (gx_y mL_undo).cls ≠ "java/lang/invoke/VarHandle" ∧ (parseMethodDescriptor (gx_y mL_undo).desc).map (fun d => d.parameters.length) = some 2 := by decide +kernel
theorem gw_cw_L_use : gx_cw mL_use ∈ gx_tb := gx_ok (List.mem_of_getElem? (i := 1027) (by decide +kernel)) (by decide +kernel)
theorem gp_L_use : (gx_y mL_use).cls ≠ "java/lang/invoke/MethodHandle" ∧ (gx_y mL_use).cls ≠ "java/lang/invoke/VarHandle" ∧ (parseMethodDescriptor (gx_y mL_use).desc).map (fun d => d.parameters.length) = some 3 := by decide +kernel
theorem gw_cw_L_uses : gx_cw mL_uses ∈ gx_tb := gx_ok (List.mem_of_getElem? (i := 1142) (by decide +kernel)) (by decide +kernel)
theorem gp_L_uses : (gx_y mL_uses).cls ≠ "java/lang/invoke/MethodHandle" ∧ (gx_y mL_uses).cls ≠ "java/lang/invoke/VarHandle" ∧ (parseMethodDescriptor (gx_y mL_uses).desc).map (fun d => d.parameters.length) = some 3 := by decide +kernel
theorem gw_cw_L_value : gx_cw mL_value ∈ gx_tb := gx_ok (List.mem_of_getElem? (i := 1309) (by decide +kernel)) (by decide +kernel)
theorem gp_L_value : (gx_y mL_value).cls ≠ "java/lang/invoke/MethodHandle" ∧ (gx_y mL_value).cls ≠ "java/lang/invoke/VarHandle" ∧ (parseMethodDescriptor (gx_y mL_value).desc).map (fun d => d.parameters.length) = some 3 := by decide +kernel
theorem gw_cw_X0_addItems : gx_cw mX0_addItems ∈ gx_tb := gx_ok (List.mem_of_getElem? (i := 549) (by decide +kernel)) (by decide +kernel)
theorem gp_X0_addItems : (gx_y mX0_addItems).cls ≠ "java/lang/invoke/MethodHandle" ∧ (gx_y mX0_addItems).cls ≠ "java/lang/invoke/VarHandle" ∧ (parseMethodDescriptor (gx_y mX0_addItems).desc).map (fun d => d.parameters.length) = some 2 := by decide +kernel
theorem gw_cw_X0_addState : gx_cw mX0_addState ∈ gx_tb := gx_ok (List.mem_of_getElem? (i := 531) (by decide +kernel)) (by decide +kernel)
theorem gp_X0_addState : (gx_y mX0_addState).cls ≠ "java/lang/invoke/MethodHandle" ∧ (gx_y mX0_addState).cls ≠ "java/lang/invoke/VarHandle" ∧ (parseMethodDescriptor (gx_y mX0_addState).desc).map (fun d => d.parameters.length) = some 1 := by decide +kernel
theorem gw_cw_X0_advance : gx_cw mX0_advance ∈ gx_tb := gx_ok (List.mem_of_getElem? (i := 577) (by decide +kernel)) (by decide +kernel)
theorem gp_X0_advance : (gx_y mX0_advance).cls ≠ "java/lang/invoke/MethodHandle" ∧ (gx_y mX0_advance).cls ≠ "java/lang/invoke/VarHandle" ∧ (parseMethodDescriptor (gx_y mX0_advance).desc).map (fun d => d.parameters.length) = some 2 := by decide +kernel
theorem gw_cw_X0_beginsFresh : gx_cw mX0_beginsFresh ∈ gx_tb := gx_ok (List.mem_of_getElem? (i := 585) (by decide +kernel)) (by decide +kernel)
theorem gp_X0_beginsFresh : (gx_y mX0_beginsFresh).cls ≠ "java/lang/invoke/MethodHandle" ∧ (gx_y mX0_beginsFresh).cls ≠ "java/lang/invoke/VarHandle" ∧ (parseMethodDescriptor (gx_y mX0_beginsFresh).desc).map (fun d => d.parameters.length) = some 1 := by decide +kernel
theorem gw_cw_X0_build : gx_cw mX0_build ∈ gx_tb := gx_ok (List.mem_of_getElem? (i := 526) (by decide +kernel)) (by decide +kernel)
theorem gp_X0_build : (gx_y mX0_build).cls ≠ "java/lang/invoke/MethodHandle" ∧ (gx_y mX0_build).cls ≠ "java/lang/invoke/VarHandle" ∧ (parseMethodDescriptor (gx_y mX0_build).desc).map (fun d => d.parameters.length) = some 0 := by decide +kernel
theorem gw_cw_X0_complete : gx_cw mX0_complete ∈ gx_tb := gx_ok (List.mem_of_getElem? (i := 536) (by decide +kernel)) (by decide +kernel)
theorem gp_X0_complete : (gx_y mX0_complete).cls ≠ "java/lang/invoke/MethodHandle" ∧ (gx_y mX0_complete).cls ≠ "java/lang/invoke/VarHandle" ∧ (parseMethodDescriptor (gx_y mX0_complete).desc).map (fun d => d.parameters.length) = some 1 := by decide +kernel
theorem gw_cw_X0_extent : gx_cw mX0_extent ∈ gx_tb := gx_ok (List.mem_of_getElem? (i := 622) (by decide +kernel)) (by decide +kernel)
theorem gp_X0_extent : (gx_y mX0_extent).cls ≠ "java/lang/invoke/MethodHandle" ∧ (gx_y mX0_extent).cls ≠ "java/lang/invoke/VarHandle" ∧ (parseMethodDescriptor (gx_y mX0_extent).desc).map (fun d => d.parameters.length) = some 0 := by decide +kernel
theorem gw_cw_X0_facts : gx_cw mX0_facts ∈ gx_tb := gx_ok (List.mem_of_getElem? (i := 643) (by decide +kernel)) (by decide +kernel)
theorem gp_X0_facts : (gx_y mX0_facts).cls ≠ "java/lang/invoke/MethodHandle" ∧ (gx_y mX0_facts).cls ≠ "java/lang/invoke/VarHandle" ∧ (parseMethodDescriptor (gx_y mX0_facts).desc).map (fun d => d.parameters.length) = some 0 := by decide +kernel
theorem gw_cw_X0_findState : gx_cw mX0_findState ∈ gx_tb := gx_ok (List.mem_of_getElem? (i := 581) (by decide +kernel)) (by decide +kernel)
theorem gp_X0_findState : (gx_y mX0_findState).cls ≠ "java/lang/invoke/MethodHandle" ∧ (gx_y mX0_findState).cls ≠ "java/lang/invoke/VarHandle" ∧ (parseMethodDescriptor (gx_y mX0_findState).desc).map (fun d => d.parameters.length) = some 1 := by decide +kernel
theorem gw_cw_X0_forget : gx_cw mX0_forget ∈ gx_tb := gx_ok (List.mem_of_getElem? (i := 1012) (by decide +kernel)) (by decide +kernel)
theorem gp_X0_forget : (gx_y mX0_forget).cls ≠ "java/lang/invoke/MethodHandle" ∧ (gx_y mX0_forget).cls ≠ "java/lang/invoke/VarHandle" ∧ (parseMethodDescriptor (gx_y mX0_forget).desc).map (fun d => d.parameters.length) = some 0 := by decide +kernel
theorem gw_cw_X0_init : gx_cw mX0_init ∈ gx_tb := gx_ok (List.mem_of_getElem? (i := 155) (by decide +kernel)) (by decide +kernel)
theorem gp_X0_init : (gx_y mX0_init).cls ≠ "java/lang/invoke/MethodHandle" ∧ (gx_y mX0_init).cls ≠ "java/lang/invoke/VarHandle" ∧ (parseMethodDescriptor (gx_y mX0_init).desc).map (fun d => d.parameters.length) = some 2 := by decide +kernel
theorem gw_cw_X0_leave : gx_cw mX0_leave ∈ gx_tb := gx_ok (List.mem_of_getElem? (i := 568) (by decide +kernel)) (by decide +kernel)
theorem gp_X0_leave : (gx_y mX0_leave).cls ≠ "java/lang/invoke/MethodHandle" ∧ (gx_y mX0_leave).cls ≠ "java/lang/invoke/VarHandle" ∧ (parseMethodDescriptor (gx_y mX0_leave).desc).map (fun d => d.parameters.length) = some 1 := by decide +kernel
theorem gw_cw_X0_mergeInto : gx_cw mX0_mergeInto ∈ gx_tb := gx_ok (List.mem_of_getElem? (i := 589) (by decide +kernel)) (by decide +kernel)
theorem gp_X0_mergeInto : (gx_y mX0_mergeInto).cls ≠ "java/lang/invoke/MethodHandle" ∧ (gx_y mX0_mergeInto).cls ≠ "java/lang/invoke/VarHandle" ∧ (parseMethodDescriptor (gx_y mX0_mergeInto).desc).map (fun d => d.parameters.length) = some 1 := by decide +kernel
theorem gw_cw_X0_move : gx_cw mX0_move ∈ gx_tb := gx_ok (List.mem_of_getElem? (i := 651) (by decide +kernel)) (by decide +kernel)
theorem gp_X0_move : (gx_y mX0_move).cls ≠ "java/lang/invoke/MethodHandle" ∧ (gx_y mX0_move).cls ≠ "java/lang/invoke/VarHandle" ∧ (parseMethodDescriptor (gx_y mX0_move).desc).map (fun d => d.parameters.length) = some 2 := by decide +kernel
theorem gw_cw_X0_row : gx_cw mX0_row ∈ gx_tb := gx_ok (List.mem_of_getElem? (i := 540) (by decide +kernel)) (by decide +kernel)
theorem gp_X0_row : (gx_y mX0_row).cls ≠ "java/lang/invoke/MethodHandle" ∧ (gx_y mX0_row).cls ≠ "java/lang/invoke/VarHandle" ∧ (parseMethodDescriptor (gx_y mX0_row).desc).map (fun d => d.parameters.length) = some 2 := by decide +kernel
theorem gw_cw_X0_symbolsInFront : gx_cw mX0_symbolsInFront ∈ gx_tb := gx_ok (List.mem_of_getElem? (i := 572) (by decide +kernel)) (by decide +kernel)
theorem gp_X0_symbolsInFront : (gx_y mX0_symbolsInFront).cls ≠ "java/lang/invoke/MethodHandle" ∧ (gx_y mX0_symbolsInFront).cls ≠ "java/lang/invoke/VarHandle" ∧ (parseMethodDescriptor (gx_y mX0_symbolsInFront).desc).map (fun d => d.parameters.length) = some 1 := by decide +kernel
theorem gw_cw_X0_widen : gx_cw mX0_widen ∈ gx_tb := gx_ok (List.mem_of_getElem? (i := 564) (by decide +kernel)) (by decide +kernel)
theorem gp_X0_widen : (gx_y mX0_widen).cls ≠ "java/lang/invoke/MethodHandle" ∧ (gx_y mX0_widen).cls ≠ "java/lang/invoke/VarHandle" ∧ (parseMethodDescriptor (gx_y mX0_widen).desc).map (fun d => d.parameters.length) = some 3 := by decide +kernel
theorem gw_cw_X10_init : gx_cw mX10_init ∈ gx_tb := gx_ok (List.mem_of_getElem? (i := 196) (by decide +kernel)) (by decide +kernel)
theorem gp_X10_init : (gx_y mX10_init).cls ≠ "java/lang/invoke/MethodHandle" ∧ (gx_y mX10_init).cls ≠ "java/lang/invoke/VarHandle" ∧ (parseMethodDescriptor (gx_y mX10_init).desc).map (fun d => d.parameters.length) = some 0 := by decide +kernel
theorem gw_cw_X10_keepWorth : gx_cw mX10_keepWorth ∈ gx_tb := gx_ok (List.mem_of_getElem? (i := 1266) (by decide +kernel)) (by decide +kernel)
theorem gp_X10_keepWorth : (gx_y mX10_keepWorth).cls ≠ "java/lang/invoke/MethodHandle" ∧ (gx_y mX10_keepWorth).cls ≠ "java/lang/invoke/VarHandle" ∧ (parseMethodDescriptor (gx_y mX10_keepWorth).desc).map (fun d => d.parameters.length) = some 1 := by decide +kernel
theorem gw_cw_X10_worth : gx_cw mX10_worth ∈ gx_tb := gx_ok (List.mem_of_getElem? (i := 1320) (by decide +kernel)) (by decide +kernel)
theorem gp_X10_worth : (gx_y mX10_worth).cls ≠ "java/lang/invoke/MethodHandle" ∧ (gx_y mX10_worth).cls ≠ "java/lang/invoke/VarHandle" ∧ (parseMethodDescriptor (gx_y mX10_worth).desc).map (fun d => d.parameters.length) = some 0 := by decide +kernel
theorem gw_cw_X11_behindOf : gx_cw mX11_behindOf ∈ gx_tb := gx_ok (List.mem_of_getElem? (i := 459) (by decide +kernel)) (by decide +kernel)
theorem gp_X11_behindOf : (gx_y mX11_behindOf).cls ≠ "java/lang/invoke/MethodHandle" ∧ (gx_y mX11_behindOf).cls ≠ "java/lang/invoke/VarHandle" ∧ (parseMethodDescriptor (gx_y mX11_behindOf).desc).map (fun d => d.parameters.length) = some 2 := by decide +kernel
theorem gw_cw_X11_bring : gx_cw mX11_bring ∈ gx_tb := gx_ok (List.mem_of_getElem? (i := 1055) (by decide +kernel)) (by decide +kernel)
theorem gp_X11_bring : (gx_y mX11_bring).cls ≠ "java/lang/invoke/MethodHandle" ∧ (gx_y mX11_bring).cls ≠ "java/lang/invoke/VarHandle" ∧ (parseMethodDescriptor (gx_y mX11_bring).desc).map (fun d => d.parameters.length) = some 1 := by decide +kernel
theorem gw_cw_X11_chosen : gx_cw mX11_chosen ∈ gx_tb := gx_ok (List.mem_of_getElem? (i := 399) (by decide +kernel)) (by decide +kernel)
theorem gp_X11_chosen : (gx_y mX11_chosen).cls ≠ "java/lang/invoke/MethodHandle" ∧ (gx_y mX11_chosen).cls ≠ "java/lang/invoke/VarHandle" ∧ (parseMethodDescriptor (gx_y mX11_chosen).desc).map (fun d => d.parameters.length) = some 0 := by decide +kernel
theorem gw_cw_X11_conflicts : gx_cw mX11_conflicts ∈ gx_tb := gx_ok (List.mem_of_getElem? (i := 1200) (by decide +kernel)) (by decide +kernel)
theorem gp_X11_conflicts : (gx_y mX11_conflicts).cls ≠ "java/lang/invoke/MethodHandle" ∧ (gx_y mX11_conflicts).cls ≠ "java/lang/invoke/VarHandle" ∧ (parseMethodDescriptor (gx_y mX11_conflicts).desc).map (fun d => d.parameters.length) = some 1 := by decide +kernel
theorem gw_cw_X11_cut : gx_cw mX11_cut ∈ gx_tb := gx_ok (List.mem_of_getElem? (i := 1223) (by decide +kernel)) (by decide +kernel)
theorem gp_X11_cut : (gx_y mX11_cut).cls ≠ "java/lang/invoke/MethodHandle" ∧ (gx_y mX11_cut).cls ≠ "java/lang/invoke/VarHandle" ∧ (parseMethodDescriptor (gx_y mX11_cut).desc).map (fun d => d.parameters.length) = some 1 := by decide +kernel
theorem gw_cw_X11_enter : gx_cw mX11_enter ∈ gx_tb := gx_ok (List.mem_of_getElem? (i := 946) (by decide +kernel)) (by decide +kernel)
theorem gp_X11_enter : (gx_y mX11_enter).cls ≠ "java/lang/invoke/MethodHandle" ∧ (gx_y mX11_enter).cls ≠ "java/lang/invoke/VarHandle" ∧ (parseMethodDescriptor (gx_y mX11_enter).desc).map (fun d => d.parameters.length) = some 0 := by decide +kernel
theorem gw_cw_X11_fault : gx_cw mX11_fault ∈ gx_tb := gx_ok (List.mem_of_getElem? (i := 364) (by decide +kernel)) (by decide +kernel)
theorem gp_X11_fault : (gx_y mX11_fault).cls ≠ "java/lang/invoke/MethodHandle" ∧ (gx_y mX11_fault).cls ≠ "java/lang/invoke/VarHandle" ∧ (parseMethodDescriptor (gx_y mX11_fault).desc).map (fun d => d.parameters.length) = some 0 := by decide +kernel
theorem gw_cw_X11_first : gx_cw mX11_first ∈ gx_tb := gx_ok (List.mem_of_getElem? (i := 1127) (by decide +kernel)) (by decide +kernel)
theorem gp_X11_first : (gx_y mX11_first).cls ≠ "java/lang/invoke/MethodHandle" ∧ (gx_y mX11_first).cls ≠ "java/lang/invoke/VarHandle" ∧ (parseMethodDescriptor (gx_y mX11_first).desc).map (fun d => d.parameters.length) = some 1 := by decide +kernel
theorem gw_cw_X11_follow : gx_cw mX11_follow ∈ gx_tb := gx_ok (List.mem_of_getElem? (i := 1138) (by decide +kernel)) (by decide +kernel)
theorem gp_X11_follow : (gx_y mX11_follow).cls ≠ "java/lang/invoke/MethodHandle" ∧ (gx_y mX11_follow).cls ≠ "java/lang/invoke/VarHandle" ∧ (parseMethodDescriptor (gx_y mX11_follow).desc).map (fun d => d.parameters.length) = some 1 := by decide +kernel
theorem gw_cw_X11_forget : gx_cw mX11_forget ∈ gx_tb := gx_ok (List.mem_of_getElem? (i := 1004) (by decide +kernel)) (by decide +kernel)
theorem gp_X11_forget : (gx_y mX11_forget).cls ≠ "java/lang/invoke/MethodHandle" ∧ (gx_y mX11_forget).cls ≠ "java/lang/invoke/VarHandle" ∧ (parseMethodDescriptor (gx_y mX11_forget).desc).map (fun d => d.parameters.length) = some 0 := by decide +kernel
theorem gw_cw_X11_has : gx_cw mX11_has ∈ gx_tb := gx_ok (List.mem_of_getElem? (i := 474) (by decide +kernel)) (by decide +kernel)
theorem gp_X11_has : (gx_y mX11_has).cls ≠ "java/lang/invoke/MethodHandle" ∧ (gx_y mX11_has).cls ≠ "java/lang/invoke/VarHandle" ∧ (parseMethodDescriptor (gx_y mX11_has).desc).map (fun d => d.parameters.length) = some 2 := by decide +kernel
theorem gw_cw_X11_init : gx_cw mX11_init ∈ gx_tb := gx_ok (List.mem_of_getElem? (i := 26) (by decide +kernel)) (by decide +kernel)
theorem gp_X11_init : (gx_y mX11_init).cls ≠ "java/lang/invoke/MethodHandle" ∧ (gx_y mX11_init).cls ≠ "java/lang/invoke/VarHandle" ∧ (parseMethodDescriptor (gx_y mX11_init).desc).map (fun d => d.parameters.length) = some 0 := by decide +kernel
theorem gw_cw_X11_isLeftRecursive : gx_cw mX11_isLeftRecursive ∈ gx_tb := gx_ok (List.mem_of_getElem? (i := 1157) (by decide +kernel)) (by decide +kernel)
theorem gp_X11_isLeftRecursive : (gx_y mX11_isLeftRecursive).cls ≠ "java/lang/invoke/MethodHandle" ∧ (gx_y mX11_isLeftRecursive).cls ≠ "java/lang/invoke/VarHandle" ∧ (parseMethodDescriptor (gx_y mX11_isLeftRecursive).desc).map (fun d => d.parameters.length) = some 1 := by decide +kernel
theorem gw_cw_X11_isLetter : gx_cw mX11_isLetter ∈ gx_tb := gx_ok (List.mem_of_getElem? (i := 844) (by decide +kernel)) (by decide +kernel)
theorem gp_X11_isLetter : (gx_y mX11_isLetter).cls ≠ "java/lang/invoke/MethodHandle" ∧ (gx_y mX11_isLetter).cls ≠ "java/lang/invoke/VarHandle" ∧ (parseMethodDescriptor (gx_y mX11_isLetter).desc).map (fun d => d.parameters.length) = some 1 := by decide +kernel
theorem gw_cw_X11_isNonterminal : gx_cw mX11_isNonterminal ∈ gx_tb := gx_ok (List.mem_of_getElem? (i := 452) (by decide +kernel)) (by decide +kernel)
theorem gp_X11_isNonterminal : (gx_y mX11_isNonterminal).cls ≠ "java/lang/invoke/MethodHandle" ∧ (gx_y mX11_isNonterminal).cls ≠ "java/lang/invoke/VarHandle" ∧ (parseMethodDescriptor (gx_y mX11_isNonterminal).desc).map (fun d => d.parameters.length) = some 1 := by decide +kernel
theorem gw_cw_X11_isNonterminalLetter : gx_cw mX11_isNonterminalLetter ∈ gx_tb := gx_ok (List.mem_of_getElem? (i := 378) (by decide +kernel)) (by decide +kernel)
theorem gp_X11_isNonterminalLetter : (gx_y mX11_isNonterminalLetter).cls ≠ "java/lang/invoke/MethodHandle" ∧ (gx_y mX11_isNonterminalLetter).cls ≠ "java/lang/invoke/VarHandle" ∧ (parseMethodDescriptor (gx_y mX11_isNonterminalLetter).desc).map (fun d => d.parameters.length) = some 1 := by decide +kernel
theorem gw_cw_X11_isNullable : gx_cw mX11_isNullable ∈ gx_tb := gx_ok (List.mem_of_getElem? (i := 1113) (by decide +kernel)) (by decide +kernel)
theorem gp_X11_isNullable : (gx_y mX11_isNullable).cls ≠ "java/lang/invoke/MethodHandle" ∧ (gx_y mX11_isNullable).cls ≠ "java/lang/invoke/VarHandle" ∧ (parseMethodDescriptor (gx_y mX11_isNullable).desc).map (fun d => d.parameters.length) = some 1 := by decide +kernel
theorem gw_cw_X11_isRepeat : gx_cw mX11_isRepeat ∈ gx_tb := gx_ok (List.mem_of_getElem? (i := 387) (by decide +kernel)) (by decide +kernel)
theorem gp_X11_isRepeat : (gx_y mX11_isRepeat).cls ≠ "java/lang/invoke/MethodHandle" ∧ (gx_y mX11_isRepeat).cls ≠ "java/lang/invoke/VarHandle" ∧ (parseMethodDescriptor (gx_y mX11_isRepeat).desc).map (fun d => d.parameters.length) = some 1 := by decide +kernel
theorem gw_cw_X11_isTerminal : gx_cw mX11_isTerminal ∈ gx_tb := gx_ok (List.mem_of_getElem? (i := 647) (by decide +kernel)) (by decide +kernel)
theorem gp_X11_isTerminal : (gx_y mX11_isTerminal).cls ≠ "java/lang/invoke/MethodHandle" ∧ (gx_y mX11_isTerminal).cls ≠ "java/lang/invoke/VarHandle" ∧ (parseMethodDescriptor (gx_y mX11_isTerminal).desc).map (fun d => d.parameters.length) = some 1 := by decide +kernel
theorem gw_cw_X11_isTerminalLetter : gx_cw mX11_isTerminalLetter ∈ gx_tb := gx_ok (List.mem_of_getElem? (i := 381) (by decide +kernel)) (by decide +kernel)
theorem gp_X11_isTerminalLetter : (gx_y mX11_isTerminalLetter).cls ≠ "java/lang/invoke/MethodHandle" ∧ (gx_y mX11_isTerminalLetter).cls ≠ "java/lang/invoke/VarHandle" ∧ (parseMethodDescriptor (gx_y mX11_isTerminalLetter).desc).map (fun d => d.parameters.length) = some 1 := by decide +kernel
theorem gw_cw_X11_left : gx_cw mX11_left ∈ gx_tb := gx_ok (List.mem_of_getElem? (i := 1095) (by decide +kernel)) (by decide +kernel)
theorem gp_X11_left : (gx_y mX11_left).cls ≠ "java/lang/invoke/MethodHandle" ∧ (gx_y mX11_left).cls ≠ "java/lang/invoke/VarHandle" ∧ (parseMethodDescriptor (gx_y mX11_left).desc).map (fun d => d.parameters.length) = some 1 := by decide +kernel
theorem gw_cw_X11_level : gx_cw mX11_level ∈ gx_tb := gx_ok (List.mem_of_getElem? (i := 1085) (by decide +kernel)) (by decide +kernel)
theorem gp_X11_level : (gx_y mX11_level).cls ≠ "java/lang/invoke/MethodHandle" ∧ (gx_y mX11_level).cls ≠ "java/lang/invoke/VarHandle" ∧ (parseMethodDescriptor (gx_y mX11_level).desc).map (fun d => d.parameters.length) = some 3 := by decide +kernel
theorem gw_cw_X11_lookAt : gx_cw mX11_lookAt ∈ gx_tb := gx_ok (List.mem_of_getElem? (i := 1244) (by decide +kernel)) (by decide +kernel)
theorem gp_X11_lookAt : (gx_y mX11_lookAt).cls ≠ "java/lang/invoke/MethodHandle" ∧ (gx_y mX11_lookAt).cls ≠ "java/lang/invoke/VarHandle" ∧ (parseMethodDescriptor (gx_y mX11_lookAt).desc).map (fun d => d.parameters.length) = some 2 := by decide +kernel
theorem gw_cw_X11_parse : gx_cw mX11_parse ∈ gx_tb := gx_ok (List.mem_of_getElem? (i := 1230) (by decide +kernel)) (by decide +kernel)
theorem gp_X11_parse : (gx_y mX11_parse).cls ≠ "java/lang/invoke/MethodHandle" ∧ (gx_y mX11_parse).cls ≠ "java/lang/invoke/VarHandle" ∧ (parseMethodDescriptor (gx_y mX11_parse).desc).map (fun d => d.parameters.length) = some 1 := by decide +kernel
theorem gw_cw_X11_productions : gx_cw mX11_productions ∈ gx_tb := gx_ok (List.mem_of_getElem? (i := 391) (by decide +kernel)) (by decide +kernel)
theorem gp_X11_productions : (gx_y mX11_productions).cls ≠ "java/lang/invoke/MethodHandle" ∧ (gx_y mX11_productions).cls ≠ "java/lang/invoke/VarHandle" ∧ (parseMethodDescriptor (gx_y mX11_productions).desc).map (fun d => d.parameters.length) = some 0 := by decide +kernel
theorem gw_cw_X11_put : gx_cw mX11_put ∈ gx_tb := gx_ok (List.mem_of_getElem? (i := 1214) (by decide +kernel)) (by decide +kernel)
theorem gp_X11_put : (gx_y mX11_put).cls ≠ "java/lang/invoke/MethodHandle" ∧ (gx_y mX11_put).cls ≠ "java/lang/invoke/VarHandle" ∧ (parseMethodDescriptor (gx_y mX11_put).desc).map (fun d => d.parameters.length) = some 2 := by decide +kernel
theorem gw_cw_X11_readings : gx_cw mX11_readings ∈ gx_tb := gx_ok (List.mem_of_getElem? (i := 697) (by decide +kernel)) (by decide +kernel)
theorem gp_X11_readings : (gx_y mX11_readings).cls ≠ "java/lang/invoke/MethodHandle" ∧ (gx_y mX11_readings).cls ≠ "java/lang/invoke/VarHandle" ∧ (parseMethodDescriptor (gx_y mX11_readings).desc).map (fun d => d.parameters.length) = some 0 := by decide +kernel
theorem gw_cw_X11_repair : gx_cw mX11_repair ∈ gx_tb := gx_ok (List.mem_of_getElem? (i := 823) (by decide +kernel)) (by decide +kernel)
theorem gp_X11_repair : (gx_y mX11_repair).cls ≠ "java/lang/invoke/MethodHandle" ∧ (gx_y mX11_repair).cls ≠ "java/lang/invoke/VarHandle" ∧ (parseMethodDescriptor (gx_y mX11_repair).desc).map (fun d => d.parameters.length) = some 0 := by decide +kernel
theorem gw_cw_X11_requireKind : gx_cw mX11_requireKind ∈ gx_tb := gx_ok (List.mem_of_getElem? (i := 1192) (by decide +kernel)) (by decide +kernel)
theorem gp_X11_requireKind : (gx_y mX11_requireKind).cls ≠ "java/lang/invoke/MethodHandle" ∧ (gx_y mX11_requireKind).cls ≠ "java/lang/invoke/VarHandle" ∧ (parseMethodDescriptor (gx_y mX11_requireKind).desc).map (fun d => d.parameters.length) = some 1 := by decide +kernel
theorem gw_cw_X11_requireNonterminal : gx_cw mX11_requireNonterminal ∈ gx_tb := gx_ok (List.mem_of_getElem? (i := 1116) (by decide +kernel)) (by decide +kernel)
theorem gp_X11_requireNonterminal : (gx_y mX11_requireNonterminal).cls ≠ "java/lang/invoke/MethodHandle" ∧ (gx_y mX11_requireNonterminal).cls ≠ "java/lang/invoke/VarHandle" ∧ (parseMethodDescriptor (gx_y mX11_requireNonterminal).desc).map (fun d => d.parameters.length) = some 1 := by decide +kernel
theorem gw_cw_X11_right : gx_cw mX11_right ∈ gx_tb := gx_ok (List.mem_of_getElem? (i := 1104) (by decide +kernel)) (by decide +kernel)
theorem gp_X11_right : (gx_y mX11_right).cls ≠ "java/lang/invoke/MethodHandle" ∧ (gx_y mX11_right).cls ≠ "java/lang/invoke/VarHandle" ∧ (parseMethodDescriptor (gx_y mX11_right).desc).map (fun d => d.parameters.length) = some 2 := by decide +kernel
theorem gw_cw_X11_sentence : gx_cw mX11_sentence ∈ gx_tb := gx_ok (List.mem_of_getElem? (i := 1176) (by decide +kernel)) (by decide +kernel)
theorem gp_X11_sentence : (gx_y mX11_sentence).cls ≠ "java/lang/invoke/MethodHandle" ∧ (gx_y mX11_sentence).cls ≠ "java/lang/invoke/VarHandle" ∧ (parseMethodDescriptor (gx_y mX11_sentence).desc).map (fun d => d.parameters.length) = some 2 := by decide +kernel
theorem gw_cw_X11_settled : gx_cw mX11_settled ∈ gx_tb := gx_ok (List.mem_of_getElem? (i := 1207) (by decide +kernel)) (by decide +kernel)
theorem gp_X11_settled : (gx_y mX11_settled).cls ≠ "java/lang/invoke/MethodHandle" ∧ (gx_y mX11_settled).cls ≠ "java/lang/invoke/VarHandle" ∧ (parseMethodDescriptor (gx_y mX11_settled).desc).map (fun d => d.parameters.length) = some 1 := by decide +kernel
theorem gw_cw_X11_shortest : gx_cw mX11_shortest ∈ gx_tb := gx_ok (List.mem_of_getElem? (i := 1168) (by decide +kernel)) (by decide +kernel)
theorem gp_X11_shortest : (gx_y mX11_shortest).cls ≠ "java/lang/invoke/MethodHandle" ∧ (gx_y mX11_shortest).cls ≠ "java/lang/invoke/VarHandle" ∧ (parseMethodDescriptor (gx_y mX11_shortest).desc).map (fun d => d.parameters.length) = some 1 := by decide +kernel
theorem gw_cw_X11_size : gx_cw mX11_size ∈ gx_tb := gx_ok (List.mem_of_getElem? (i := 1189) (by decide +kernel)) (by decide +kernel)
theorem gp_X11_size : (gx_y mX11_size).cls ≠ "java/lang/invoke/MethodHandle" ∧ (gx_y mX11_size).cls ≠ "java/lang/invoke/VarHandle" ∧ (parseMethodDescriptor (gx_y mX11_size).desc).map (fun d => d.parameters.length) = some 1 := by decide +kernel
theorem gw_cw_X11_start : gx_cw mX11_start ∈ gx_tb := gx_ok (List.mem_of_getElem? (i := 1073) (by decide +kernel)) (by decide +kernel)
theorem gp_X11_start : (gx_y mX11_start).cls ≠ "java/lang/invoke/MethodHandle" ∧ (gx_y mX11_start).cls ≠ "java/lang/invoke/VarHandle" ∧ (parseMethodDescriptor (gx_y mX11_start).desc).map (fun d => d.parameters.length) = some 1 := by decide +kernel
theorem gw_cw_X11_table : gx_cw mX11_table ∈ gx_tb := gx_ok (List.mem_of_getElem? (i := 403) (by decide +kernel)) (by decide +kernel)
theorem gp_X11_table : (gx_y mX11_table).cls ≠ "java/lang/invoke/MethodHandle" ∧ (gx_y mX11_table).cls ≠ "java/lang/invoke/VarHandle" ∧ (parseMethodDescriptor (gx_y mX11_table).desc).map (fun d => d.parameters.length) = some 1 := by decide +kernel
theorem gw_cw_X11_type : gx_cw mX11_type ∈ gx_tb := gx_ok (List.mem_of_getElem? (i := 841) (by decide +kernel)) (by decide +kernel)
theorem gp_X11_type : (gx_y mX11_type).cls ≠ "java/lang/invoke/MethodHandle" ∧ (gx_y mX11_type).cls ≠ "java/lang/invoke/VarHandle" ∧ (parseMethodDescriptor (gx_y mX11_type).desc).map (fun d => d.parameters.length) = some 1 := by decide +kernel
theorem gw_cw_X11_undo : gx_cw mX11_undo ∈ gx_tb := gx_ok (List.mem_of_getElem? (i := 1019) (by decide +kernel)) (by decide +kernel)
theorem gp_X11_undo : (gx_y mX11_undo).cls ≠ "java/lang/invoke/MethodHandle" ∧ (gx_y mX11_undo).cls ≠ "java/lang/invoke/VarHandle" ∧ (parseMethodDescriptor (gx_y mX11_undo).desc).map (fun d => d.parameters.length) = some 0 := by decide +kernel
theorem gw_cw_X11_use : gx_cw mX11_use ∈ gx_tb := gx_ok (List.mem_of_getElem? (i := 1032) (by decide +kernel)) (by decide +kernel)
theorem gp_X11_use : (gx_y mX11_use).cls ≠ "java/lang/invoke/MethodHandle" ∧ (gx_y mX11_use).cls ≠ "java/lang/invoke/VarHandle" ∧ (parseMethodDescriptor (gx_y mX11_use).desc).map (fun d => d.parameters.length) = some 1 := by decide +kernel
theorem gw_cw_X11_uses : gx_cw mX11_uses ∈ gx_tb := gx_ok (List.mem_of_getElem? (i := 1146) (by decide +kernel)) (by decide +kernel)
theorem gp_X11_uses : (gx_y mX11_uses).cls ≠ "java/lang/invoke/MethodHandle" ∧ (gx_y mX11_uses).cls ≠ "java/lang/invoke/VarHandle" ∧ (parseMethodDescriptor (gx_y mX11_uses).desc).map (fun d => d.parameters.length) = some 1 := by decide +kernel
theorem gw_cw_X11_value : gx_cw mX11_value ∈ gx_tb := gx_ok (List.mem_of_getElem? (i := 1313) (by decide +kernel)) (by decide +kernel)
theorem gp_X11_value : (gx_y mX11_value).cls ≠ "java/lang/invoke/MethodHandle" ∧ (gx_y mX11_value).cls ≠ "java/lang/invoke/VarHandle" ∧ (parseMethodDescriptor (gx_y mX11_value).desc).map (fun d => d.parameters.length) = some 1 := by decide +kernel
theorem gw_cw_X11_wipe : gx_cw mX11_wipe ∈ gx_tb := gx_ok (List.mem_of_getElem? (i := 356) (by decide +kernel)) (by decide +kernel)
theorem gp_X11_wipe : (gx_y mX11_wipe).cls ≠ "java/lang/invoke/MethodHandle" ∧ (gx_y mX11_wipe).cls ≠ "java/lang/invoke/VarHandle" ∧ (parseMethodDescriptor (gx_y mX11_wipe).desc).map (fun d => d.parameters.length) = some 0 := by decide +kernel
theorem gw_cw_X12_adds : gx_cw mX12_adds ∈ gx_tb := gx_ok (List.mem_of_getElem? (i := 1519) (by decide +kernel)) (by decide +kernel)
theorem gp_X12_adds : (gx_y mX12_adds).cls ≠ "java/lang/invoke/MethodHandle" ∧ (gx_y mX12_adds).cls ≠ "java/lang/invoke/VarHandle" ∧ (parseMethodDescriptor (gx_y mX12_adds).desc).map (fun d => d.parameters.length) = some 3 := by decide +kernel
theorem gw_cw_X12_addsAll : gx_cw mX12_addsAll ∈ gx_tb := gx_ok (List.mem_of_getElem? (i := 1527) (by decide +kernel)) (by decide +kernel)
theorem gp_X12_addsAll : (gx_y mX12_addsAll).cls ≠ "java/lang/invoke/MethodHandle" ∧ (gx_y mX12_addsAll).cls ≠ "java/lang/invoke/VarHandle" ∧ (parseMethodDescriptor (gx_y mX12_addsAll).desc).map (fun d => d.parameters.length) = some 2 := by decide +kernel
theorem gw_cw_X12_at : gx_cw mX12_at ∈ gx_tb := gx_ok (List.mem_of_getElem? (i := 1797) (by decide +kernel)) (by decide +kernel)
theorem gp_X12_at : (gx_y mX12_at).cls ≠ "java/lang/invoke/MethodHandle" ∧ (gx_y mX12_at).cls ≠ "java/lang/invoke/VarHandle" ∧ (parseMethodDescriptor (gx_y mX12_at).desc).map (fun d => d.parameters.length) = some 3 := by decide +kernel
theorem gw_cw_X12_bring : gx_cw mX12_bring ∈ gx_tb := gx_ok (List.mem_of_getElem? (i := 1546) (by decide +kernel)) (by decide +kernel)
theorem gp_X12_bring : (gx_y mX12_bring).cls ≠ "java/lang/invoke/MethodHandle" ∧ (gx_y mX12_bring).cls ≠ "java/lang/invoke/VarHandle" ∧ (parseMethodDescriptor (gx_y mX12_bring).desc).map (fun d => d.parameters.length) = some 1 := by decide +kernel
theorem gw_cw_X12_brings : gx_cw mX12_brings ∈ gx_tb := gx_ok (List.mem_of_getElem? (i := 1554) (by decide +kernel)) (by decide +kernel)
theorem gp_X12_brings : (gx_y mX12_brings).cls ≠ "java/lang/invoke/MethodHandle" ∧ (gx_y mX12_brings).cls ≠ "java/lang/invoke/VarHandle" ∧ (parseMethodDescriptor (gx_y mX12_brings).desc).map (fun d => d.parameters.length) = some 2 := by decide +kernel
theorem gw_cw_X12_bringsAll : gx_cw mX12_bringsAll ∈ gx_tb := gx_ok (List.mem_of_getElem? (i := 1550) (by decide +kernel)) (by decide +kernel)
theorem gp_X12_bringsAll : (gx_y mX12_bringsAll).cls ≠ "java/lang/invoke/MethodHandle" ∧ (gx_y mX12_bringsAll).cls ≠ "java/lang/invoke/VarHandle" ∧ (parseMethodDescriptor (gx_y mX12_bringsAll).desc).map (fun d => d.parameters.length) = some 1 := by decide +kernel
theorem gw_cw_X12_cell : gx_cw mX12_cell ∈ gx_tb := gx_ok (List.mem_of_getElem? (i := 1714) (by decide +kernel)) (by decide +kernel)
theorem gp_X12_cell : (gx_y mX12_cell).cls ≠ "java/lang/invoke/MethodHandle" ∧ (gx_y mX12_cell).cls ≠ "java/lang/invoke/VarHandle" ∧ (parseMethodDescriptor (gx_y mX12_cell).desc).map (fun d => d.parameters.length) = some 3 := by decide +kernel
theorem gw_cw_X12_changed : gx_cw mX12_changed ∈ gx_tb := gx_ok (List.mem_of_getElem? (i := 1531) (by decide +kernel)) (by decide +kernel)
theorem gp_X12_changed : (gx_y mX12_changed).cls ≠ "java/lang/invoke/MethodHandle" ∧ (gx_y mX12_changed).cls ≠ "java/lang/invoke/VarHandle" ∧ (parseMethodDescriptor (gx_y mX12_changed).desc).map (fun d => d.parameters.length) = some 0 := by decide +kernel
theorem gw_cw_X12_chosen : gx_cw mX12_chosen ∈ gx_tb := gx_ok (List.mem_of_getElem? (i := 1738) (by decide +kernel)) (by decide +kernel)
theorem gp_X12_chosen : (gx_y mX12_chosen).cls ≠ "java/lang/invoke/MethodHandle" ∧ (gx_y mX12_chosen).cls ≠ "java/lang/invoke/VarHandle" ∧ (parseMethodDescriptor (gx_y mX12_chosen).desc).map (fun d => d.parameters.length) = some 0 := by decide +kernel
theorem gw_cw_X12_closes : gx_cw mX12_closes ∈ gx_tb := gx_ok (List.mem_of_getElem? (i := 1523) (by decide +kernel)) (by decide +kernel)
theorem gp_X12_closes : (gx_y mX12_closes).cls ≠ "java/lang/invoke/MethodHandle" ∧ (gx_y mX12_closes).cls ≠ "java/lang/invoke/VarHandle" ∧ (parseMethodDescriptor (gx_y mX12_closes).desc).map (fun d => d.parameters.length) = some 0 := by decide +kernel
theorem gw_cw_X12_closure : gx_cw mX12_closure ∈ gx_tb := gx_ok (List.mem_of_getElem? (i := 1671) (by decide +kernel)) (by decide +kernel)
theorem gp_X12_closure : (gx_y mX12_closure).cls ≠ "java/lang/invoke/MethodHandle" ∧ (gx_y mX12_closure).cls ≠ "java/lang/invoke/VarHandle" ∧ (parseMethodDescriptor (gx_y mX12_closure).desc).map (fun d => d.parameters.length) = some 2 := by decide +kernel
theorem gw_cw_X12_conflicts : gx_cw mX12_conflicts ∈ gx_tb := gx_ok (List.mem_of_getElem? (i := 1706) (by decide +kernel)) (by decide +kernel)
theorem gp_X12_conflicts : (gx_y mX12_conflicts).cls ≠ "java/lang/invoke/MethodHandle" ∧ (gx_y mX12_conflicts).cls ≠ "java/lang/invoke/VarHandle" ∧ (parseMethodDescriptor (gx_y mX12_conflicts).desc).map (fun d => d.parameters.length) = some 1 := by decide +kernel
theorem gw_cw_X12_counted : gx_cw mX12_counted ∈ gx_tb := gx_ok (List.mem_of_getElem? (i := 1786) (by decide +kernel)) (by decide +kernel)
theorem gp_X12_counted : (gx_y mX12_counted).cls ≠ "java/lang/invoke/MethodHandle" ∧ (gx_y mX12_counted).cls ≠ "java/lang/invoke/VarHandle" ∧ (parseMethodDescriptor (gx_y mX12_counted).desc).map (fun d => d.parameters.length) = some 2 := by decide +kernel
theorem gw_cw_X12_counts : gx_cw mX12_counts ∈ gx_tb := gx_ok (List.mem_of_getElem? (i := 1710) (by decide +kernel)) (by decide +kernel)
theorem gp_X12_counts : (gx_y mX12_counts).cls ≠ "java/lang/invoke/MethodHandle" ∧ (gx_y mX12_counts).cls ≠ "java/lang/invoke/VarHandle" ∧ (parseMethodDescriptor (gx_y mX12_counts).desc).map (fun d => d.parameters.length) = some 2 := by decide +kernel
theorem gw_cw_X12_cut : gx_cw mX12_cut ∈ gx_tb := gx_ok (List.mem_of_getElem? (i := 1746) (by decide +kernel)) (by decide +kernel)
theorem gp_X12_cut : (gx_y mX12_cut).cls ≠ "java/lang/invoke/MethodHandle" ∧ (gx_y mX12_cut).cls ≠ "java/lang/invoke/VarHandle" ∧ (parseMethodDescriptor (gx_y mX12_cut).desc).map (fun d => d.parameters.length) = some 1 := by decide +kernel
theorem gw_cw_X12_derives : gx_cw mX12_derives ∈ gx_tb := gx_ok (List.mem_of_getElem? (i := 1758) (by decide +kernel)) (by decide +kernel)
theorem gp_X12_derives : (gx_y mX12_derives).cls ≠ "java/lang/invoke/MethodHandle" ∧ (gx_y mX12_derives).cls ≠ "java/lang/invoke/VarHandle" ∧ (parseMethodDescriptor (gx_y mX12_derives).desc).map (fun d => d.parameters.length) = some 0 := by decide +kernel
theorem gw_cw_X12_edits : gx_cw mX12_edits ∈ gx_tb := gx_ok (List.mem_of_getElem? (i := 1813) (by decide +kernel)) (by decide +kernel)
theorem gp_X12_edits : (gx_y mX12_edits).cls ≠ "java/lang/invoke/MethodHandle" ∧ (gx_y mX12_edits).cls ≠ "java/lang/invoke/VarHandle" ∧ (parseMethodDescriptor (gx_y mX12_edits).desc).map (fun d => d.parameters.length) = some 3 := by decide +kernel
theorem gw_cw_X12_editsOf : gx_cw mX12_editsOf ∈ gx_tb := gx_ok (List.mem_of_getElem? (i := 1809) (by decide +kernel)) (by decide +kernel)
theorem gp_X12_editsOf : (gx_y mX12_editsOf).cls ≠ "java/lang/invoke/MethodHandle" ∧ (gx_y mX12_editsOf).cls ≠ "java/lang/invoke/VarHandle" ∧ (parseMethodDescriptor (gx_y mX12_editsOf).desc).map (fun d => d.parameters.length) = some 3 := by decide +kernel
theorem gw_cw_X12_enter : gx_cw mX12_enter ∈ gx_tb := gx_ok (List.mem_of_getElem? (i := 1499) (by decide +kernel)) (by decide +kernel)
theorem gp_X12_enter : (gx_y mX12_enter).cls ≠ "java/lang/invoke/MethodHandle" ∧ (gx_y mX12_enter).cls ≠ "java/lang/invoke/VarHandle" ∧ (parseMethodDescriptor (gx_y mX12_enter).desc).map (fun d => d.parameters.length) = some 0 := by decide +kernel
theorem gw_cw_X12_enters : gx_cw mX12_enters ∈ gx_tb := gx_ok (List.mem_of_getElem? (i := 1503) (by decide +kernel)) (by decide +kernel)
theorem gp_X12_enters : (gx_y mX12_enters).cls ≠ "java/lang/invoke/MethodHandle" ∧ (gx_y mX12_enters).cls ≠ "java/lang/invoke/VarHandle" ∧ (parseMethodDescriptor (gx_y mX12_enters).desc).map (fun d => d.parameters.length) = some 0 := by decide +kernel
theorem gw_cw_X12_fault : gx_cw mX12_fault ∈ gx_tb := gx_ok (List.mem_of_getElem? (i := 1491) (by decide +kernel)) (by decide +kernel)
theorem gp_X12_fault : (gx_y mX12_fault).cls ≠ "java/lang/invoke/MethodHandle" ∧ (gx_y mX12_fault).cls ≠ "java/lang/invoke/VarHandle" ∧ (parseMethodDescriptor (gx_y mX12_fault).desc).map (fun d => d.parameters.length) = some 0 := by decide +kernel
theorem gw_cw_X12_faultOf : gx_cw mX12_faultOf ∈ gx_tb := gx_ok (List.mem_of_getElem? (i := 1495) (by decide +kernel)) (by decide +kernel)
theorem gp_X12_faultOf : (gx_y mX12_faultOf).cls ≠ "java/lang/invoke/MethodHandle" ∧ (gx_y mX12_faultOf).cls ≠ "java/lang/invoke/VarHandle" ∧ (parseMethodDescriptor (gx_y mX12_faultOf).desc).map (fun d => d.parameters.length) = some 0 := by decide +kernel
theorem gw_cw_X12_findState : gx_cw mX12_findState ∈ gx_tb := gx_ok (List.mem_of_getElem? (i := 1690) (by decide +kernel)) (by decide +kernel)
theorem gp_X12_findState : (gx_y mX12_findState).cls ≠ "java/lang/invoke/MethodHandle" ∧ (gx_y mX12_findState).cls ≠ "java/lang/invoke/VarHandle" ∧ (parseMethodDescriptor (gx_y mX12_findState).desc).map (fun d => d.parameters.length) = some 3 := by decide +kernel
theorem gw_cw_X12_finds : gx_cw mX12_finds ∈ gx_tb := gx_ok (List.mem_of_getElem? (i := 1590) (by decide +kernel)) (by decide +kernel)
theorem gp_X12_finds : (gx_y mX12_finds).cls ≠ "java/lang/invoke/MethodHandle" ∧ (gx_y mX12_finds).cls ≠ "java/lang/invoke/VarHandle" ∧ (parseMethodDescriptor (gx_y mX12_finds).desc).map (fun d => d.parameters.length) = some 0 := by decide +kernel
theorem gw_cw_X12_findsBehind : gx_cw mX12_findsBehind ∈ gx_tb := gx_ok (List.mem_of_getElem? (i := 1610) (by decide +kernel)) (by decide +kernel)
theorem gp_X12_findsBehind : (gx_y mX12_findsBehind).cls ≠ "java/lang/invoke/MethodHandle" ∧ (gx_y mX12_findsBehind).cls ≠ "java/lang/invoke/VarHandle" ∧ (parseMethodDescriptor (gx_y mX12_findsBehind).desc).map (fun d => d.parameters.length) = some 0 := by decide +kernel
theorem gw_cw_X12_findsMore : gx_cw mX12_findsMore ∈ gx_tb := gx_ok (List.mem_of_getElem? (i := 1594) (by decide +kernel)) (by decide +kernel)
theorem gp_X12_findsMore : (gx_y mX12_findsMore).cls ≠ "java/lang/invoke/MethodHandle" ∧ (gx_y mX12_findsMore).cls ≠ "java/lang/invoke/VarHandle" ∧ (parseMethodDescriptor (gx_y mX12_findsMore).desc).map (fun d => d.parameters.length) = some 0 := by decide +kernel
theorem gw_cw_X12_findsShort : gx_cw mX12_findsShort ∈ gx_tb := gx_ok (List.mem_of_getElem? (i := 1614) (by decide +kernel)) (by decide +kernel)
theorem gp_X12_findsShort : (gx_y mX12_findsShort).cls ≠ "java/lang/invoke/MethodHandle" ∧ (gx_y mX12_findsShort).cls ≠ "java/lang/invoke/VarHandle" ∧ (parseMethodDescriptor (gx_y mX12_findsShort).desc).map (fun d => d.parameters.length) = some 1 := by decide +kernel
theorem gw_cw_X12_first : gx_cw mX12_first ∈ gx_tb := gx_ok (List.mem_of_getElem? (i := 1623) (by decide +kernel)) (by decide +kernel)
theorem gp_X12_first : (gx_y mX12_first).cls ≠ "java/lang/invoke/MethodHandle" ∧ (gx_y mX12_first).cls ≠ "java/lang/invoke/VarHandle" ∧ (parseMethodDescriptor (gx_y mX12_first).desc).map (fun d => d.parameters.length) = some 1 := by decide +kernel
theorem gw_cw_X12_firstFrom : gx_cw mX12_firstFrom ∈ gx_tb := gx_ok (List.mem_of_getElem? (i := 1602) (by decide +kernel)) (by decide +kernel)
theorem gp_X12_firstFrom : (gx_y mX12_firstFrom).cls ≠ "java/lang/invoke/MethodHandle" ∧ (gx_y mX12_firstFrom).cls ≠ "java/lang/invoke/VarHandle" ∧ (parseMethodDescriptor (gx_y mX12_firstFrom).desc).map (fun d => d.parameters.length) = some 2 := by decide +kernel
theorem gw_cw_X12_follow : gx_cw mX12_follow ∈ gx_tb := gx_ok (List.mem_of_getElem? (i := 1627) (by decide +kernel)) (by decide +kernel)
theorem gp_X12_follow : (gx_y mX12_follow).cls ≠ "java/lang/invoke/MethodHandle" ∧ (gx_y mX12_follow).cls ≠ "java/lang/invoke/VarHandle" ∧ (parseMethodDescriptor (gx_y mX12_follow).desc).map (fun d => d.parameters.length) = some 1 := by decide +kernel
theorem gw_cw_X12_gathers : gx_cw mX12_gathers ∈ gx_tb := gx_ok (List.mem_of_getElem? (i := 1762) (by decide +kernel)) (by decide +kernel)
theorem gp_X12_gathers : (gx_y mX12_gathers).cls ≠ "java/lang/invoke/MethodHandle" ∧ (gx_y mX12_gathers).cls ≠ "java/lang/invoke/VarHandle" ∧ (parseMethodDescriptor (gx_y mX12_gathers).desc).map (fun d => d.parameters.length) = some 1 := by decide +kernel
theorem gw_cw_X12_goTo : gx_cw mX12_goTo ∈ gx_tb := gx_ok (List.mem_of_getElem? (i := 1722) (by decide +kernel)) (by decide +kernel)
theorem gp_X12_goTo : (gx_y mX12_goTo).cls ≠ "java/lang/invoke/MethodHandle" ∧ (gx_y mX12_goTo).cls ≠ "java/lang/invoke/VarHandle" ∧ (parseMethodDescriptor (gx_y mX12_goTo).desc).map (fun d => d.parameters.length) = some 3 := by decide +kernel
theorem gw_cw_X12_goes : gx_cw mX12_goes ∈ gx_tb := gx_ok (List.mem_of_getElem? (i := 1483) (by decide +kernel)) (by decide +kernel)
theorem gp_X12_goes : (gx_y mX12_goes).cls ≠ "java/lang/invoke/MethodHandle" ∧ (gx_y mX12_goes).cls ≠ "java/lang/invoke/VarHandle" ∧ (parseMethodDescriptor (gx_y mX12_goes).desc).map (fun d => d.parameters.length) = some 3 := by decide +kernel
theorem gw_cw_X12_helper : gx_cw mX12_helper ∈ gx_tb := gx_ok (List.mem_of_getElem? (i := 1515) (by decide +kernel)) (by decide +kernel)
theorem gp_X12_helper : (gx_y mX12_helper).cls ≠ "java/lang/invoke/MethodHandle" ∧ (gx_y mX12_helper).cls ≠ "java/lang/invoke/VarHandle" ∧ (parseMethodDescriptor (gx_y mX12_helper).desc).map (fun d => d.parameters.length) = some 0 := by decide +kernel
theorem gw_cw_X12_index : gx_cw mX12_index ∈ gx_tb := gx_ok (List.mem_of_getElem? (i := 1686) (by decide +kernel)) (by decide +kernel)
theorem gp_X12_index : (gx_y mX12_index).cls ≠ "java/lang/invoke/MethodHandle" ∧ (gx_y mX12_index).cls ≠ "java/lang/invoke/VarHandle" ∧ (parseMethodDescriptor (gx_y mX12_index).desc).map (fun d => d.parameters.length) = some 1 := by decide +kernel
theorem gw_cw_X12_init : gx_cw mX12_init ∈ gx_tb := gx_ok (List.mem_of_getElem? (i := 1325) (by decide +kernel)) (by decide +kernel)
theorem gp_X12_init : (gx_y mX12_init).cls ≠ "java/lang/invoke/MethodHandle" ∧ (gx_y mX12_init).cls ≠ "java/lang/invoke/VarHandle" ∧ (parseMethodDescriptor (gx_y mX12_init).desc).map (fun d => d.parameters.length) = some 0 := by decide +kernel
theorem gw_cw_X12_isBelow : gx_cw mX12_isBelow ∈ gx_tb := gx_ok (List.mem_of_getElem? (i := 1542) (by decide +kernel)) (by decide +kernel)
theorem gp_X12_isBelow : (gx_y mX12_isBelow).cls ≠ "java/lang/invoke/MethodHandle" ∧ (gx_y mX12_isBelow).cls ≠ "java/lang/invoke/VarHandle" ∧ (parseMethodDescriptor (gx_y mX12_isBelow).desc).map (fun d => d.parameters.length) = some 2 := by decide +kernel
theorem gw_cw_X12_isEmptyFrom : gx_cw mX12_isEmptyFrom ∈ gx_tb := gx_ok (List.mem_of_getElem? (i := 1606) (by decide +kernel)) (by decide +kernel)
theorem gp_X12_isEmptyFrom : (gx_y mX12_isEmptyFrom).cls ≠ "java/lang/invoke/MethodHandle" ∧ (gx_y mX12_isEmptyFrom).cls ≠ "java/lang/invoke/VarHandle" ∧ (parseMethodDescriptor (gx_y mX12_isEmptyFrom).desc).map (fun d => d.parameters.length) = some 2 := by decide +kernel
theorem gw_cw_X12_isKind : gx_cw mX12_isKind ∈ gx_tb := gx_ok (List.mem_of_getElem? (i := 1651) (by decide +kernel)) (by decide +kernel)
theorem gp_X12_isKind : (gx_y mX12_isKind).cls ≠ "java/lang/invoke/MethodHandle" ∧ (gx_y mX12_isKind).cls ≠ "java/lang/invoke/VarHandle" ∧ (parseMethodDescriptor (gx_y mX12_isKind).desc).map (fun d => d.parameters.length) = some 1 := by decide +kernel
theorem gw_cw_X12_isLeftRecursive : gx_cw mX12_isLeftRecursive ∈ gx_tb := gx_ok (List.mem_of_getElem? (i := 1635) (by decide +kernel)) (by decide +kernel)
theorem gp_X12_isLeftRecursive : (gx_y mX12_isLeftRecursive).cls ≠ "java/lang/invoke/MethodHandle" ∧ (gx_y mX12_isLeftRecursive).cls ≠ "java/lang/invoke/VarHandle" ∧ (parseMethodDescriptor (gx_y mX12_isLeftRecursive).desc).map (fun d => d.parameters.length) = some 1 := by decide +kernel
theorem gw_cw_X12_isName : gx_cw mX12_isName ∈ gx_tb := gx_ok (List.mem_of_getElem? (i := 1476) (by decide +kernel)) (by decide +kernel)
theorem gp_X12_isName : (gx_y mX12_isName).cls ≠ "java/lang/invoke/MethodHandle" ∧ (gx_y mX12_isName).cls ≠ "java/lang/invoke/VarHandle" ∧ (parseMethodDescriptor (gx_y mX12_isName).desc).map (fun d => d.parameters.length) = some 1 := by decide +kernel
theorem gw_cw_X12_isNullable : gx_cw mX12_isNullable ∈ gx_tb := gx_ok (List.mem_of_getElem? (i := 1586) (by decide +kernel)) (by decide +kernel)
theorem gp_X12_isNullable : (gx_y mX12_isNullable).cls ≠ "java/lang/invoke/MethodHandle" ∧ (gx_y mX12_isNullable).cls ≠ "java/lang/invoke/VarHandle" ∧ (parseMethodDescriptor (gx_y mX12_isNullable).desc).map (fun d => d.parameters.length) = some 1 := by decide +kernel
theorem gw_cw_X12_isTail : gx_cw mX12_isTail ∈ gx_tb := gx_ok (List.mem_of_getElem? (i := 1479) (by decide +kernel)) (by decide +kernel)
theorem gp_X12_isTail : (gx_y mX12_isTail).cls ≠ "java/lang/invoke/MethodHandle" ∧ (gx_y mX12_isTail).cls ≠ "java/lang/invoke/VarHandle" ∧ (parseMethodDescriptor (gx_y mX12_isTail).desc).map (fun d => d.parameters.length) = some 1 := by decide +kernel
theorem gw_cw_X12_isTerminal : gx_cw mX12_isTerminal ∈ gx_tb := gx_ok (List.mem_of_getElem? (i := 1473) (by decide +kernel)) (by decide +kernel)
theorem gp_X12_isTerminal : (gx_y mX12_isTerminal).cls ≠ "java/lang/invoke/MethodHandle" ∧ (gx_y mX12_isTerminal).cls ≠ "java/lang/invoke/VarHandle" ∧ (parseMethodDescriptor (gx_y mX12_isTerminal).desc).map (fun d => d.parameters.length) = some 1 := by decide +kernel
theorem gw_cw_X12_lastTerminal : gx_cw mX12_lastTerminal ∈ gx_tb := gx_ok (List.mem_of_getElem? (i := 1726) (by decide +kernel)) (by decide +kernel)
theorem gp_X12_lastTerminal : (gx_y mX12_lastTerminal).cls ≠ "java/lang/invoke/MethodHandle" ∧ (gx_y mX12_lastTerminal).cls ≠ "java/lang/invoke/VarHandle" ∧ (parseMethodDescriptor (gx_y mX12_lastTerminal).desc).map (fun d => d.parameters.length) = some 1 := by decide +kernel
theorem gw_cw_X12_lead : gx_cw mX12_lead ∈ gx_tb := gx_ok (List.mem_of_getElem? (i := 1598) (by decide +kernel)) (by decide +kernel)
theorem gp_X12_lead : (gx_y mX12_lead).cls ≠ "java/lang/invoke/MethodHandle" ∧ (gx_y mX12_lead).cls ≠ "java/lang/invoke/VarHandle" ∧ (parseMethodDescriptor (gx_y mX12_lead).desc).map (fun d => d.parameters.length) = some 1 := by decide +kernel
theorem gw_cw_X12_leadsAll : gx_cw mX12_leadsAll ∈ gx_tb := gx_ok (List.mem_of_getElem? (i := 1619) (by decide +kernel)) (by decide +kernel)
theorem gp_X12_leadsAll : (gx_y mX12_leadsAll).cls ≠ "java/lang/invoke/MethodHandle" ∧ (gx_y mX12_leadsAll).cls ≠ "java/lang/invoke/VarHandle" ∧ (parseMethodDescriptor (gx_y mX12_leadsAll).desc).map (fun d => d.parameters.length) = some 0 := by decide +kernel
theorem gw_cw_X12_left : gx_cw mX12_left ∈ gx_tb := gx_ok (List.mem_of_getElem? (i := 1570) (by decide +kernel)) (by decide +kernel)
theorem gp_X12_left : (gx_y mX12_left).cls ≠ "java/lang/invoke/MethodHandle" ∧ (gx_y mX12_left).cls ≠ "java/lang/invoke/VarHandle" ∧ (parseMethodDescriptor (gx_y mX12_left).desc).map (fun d => d.parameters.length) = some 1 := by decide +kernel
theorem gw_cw_X12_level : gx_cw mX12_level ∈ gx_tb := gx_ok (List.mem_of_getElem? (i := 1562) (by decide +kernel)) (by decide +kernel)
theorem gp_X12_level : (gx_y mX12_level).cls ≠ "java/lang/invoke/MethodHandle" ∧ (gx_y mX12_level).cls ≠ "java/lang/invoke/VarHandle" ∧ (parseMethodDescriptor (gx_y mX12_level).desc).map (fun d => d.parameters.length) = some 3 := by decide +kernel
theorem gw_cw_X12_levelOf : gx_cw mX12_levelOf ∈ gx_tb := gx_ok (List.mem_of_getElem? (i := 1730) (by decide +kernel)) (by decide +kernel)
theorem gp_X12_levelOf : (gx_y mX12_levelOf).cls ≠ "java/lang/invoke/MethodHandle" ∧ (gx_y mX12_levelOf).cls ≠ "java/lang/invoke/VarHandle" ∧ (parseMethodDescriptor (gx_y mX12_levelOf).desc).map (fun d => d.parameters.length) = some 1 := by decide +kernel
theorem gw_cw_X12_makes : gx_cw mX12_makes ∈ gx_tb := gx_ok (List.mem_of_getElem? (i := 1663) (by decide +kernel)) (by decide +kernel)
theorem gp_X12_makes : (gx_y mX12_makes).cls ≠ "java/lang/invoke/MethodHandle" ∧ (gx_y mX12_makes).cls ≠ "java/lang/invoke/VarHandle" ∧ (parseMethodDescriptor (gx_y mX12_makes).desc).map (fun d => d.parameters.length) = some 3 := by decide +kernel
theorem gw_cw_X12_mended : gx_cw mX12_mended ∈ gx_tb := gx_ok (List.mem_of_getElem? (i := 1805) (by decide +kernel)) (by decide +kernel)
theorem gp_X12_mended : (gx_y mX12_mended).cls ≠ "java/lang/invoke/MethodHandle" ∧ (gx_y mX12_mended).cls ≠ "java/lang/invoke/VarHandle" ∧ (parseMethodDescriptor (gx_y mX12_mended).desc).map (fun d => d.parameters.length) = some 2 := by decide +kernel
theorem gw_cw_X12_merges : gx_cw mX12_merges ∈ gx_tb := gx_ok (List.mem_of_getElem? (i := 1694) (by decide +kernel)) (by decide +kernel)
theorem gp_X12_merges : (gx_y mX12_merges).cls ≠ "java/lang/invoke/MethodHandle" ∧ (gx_y mX12_merges).cls ≠ "java/lang/invoke/VarHandle" ∧ (parseMethodDescriptor (gx_y mX12_merges).desc).map (fun d => d.parameters.length) = some 0 := by decide +kernel
theorem gw_cw_X12_numbers : gx_cw mX12_numbers ∈ gx_tb := gx_ok (List.mem_of_getElem? (i := 1667) (by decide +kernel)) (by decide +kernel)
theorem gp_X12_numbers : (gx_y mX12_numbers).cls ≠ "java/lang/invoke/MethodHandle" ∧ (gx_y mX12_numbers).cls ≠ "java/lang/invoke/VarHandle" ∧ (parseMethodDescriptor (gx_y mX12_numbers).desc).map (fun d => d.parameters.length) = some 0 := by decide +kernel
theorem gw_cw_X12_opens : gx_cw mX12_opens ∈ gx_tb := gx_ok (List.mem_of_getElem? (i := 1679) (by decide +kernel)) (by decide +kernel)
theorem gp_X12_opens : (gx_y mX12_opens).cls ≠ "java/lang/invoke/MethodHandle" ∧ (gx_y mX12_opens).cls ≠ "java/lang/invoke/VarHandle" ∧ (parseMethodDescriptor (gx_y mX12_opens).desc).map (fun d => d.parameters.length) = some 4 := by decide +kernel
theorem gw_cw_X12_opensAll : gx_cw mX12_opensAll ∈ gx_tb := gx_ok (List.mem_of_getElem? (i := 1675) (by decide +kernel)) (by decide +kernel)
theorem gp_X12_opensAll : (gx_y mX12_opensAll).cls ≠ "java/lang/invoke/MethodHandle" ∧ (gx_y mX12_opensAll).cls ≠ "java/lang/invoke/VarHandle" ∧ (parseMethodDescriptor (gx_y mX12_opensAll).desc).map (fun d => d.parameters.length) = some 2 := by decide +kernel
theorem gw_cw_X12_parse : gx_cw mX12_parse ∈ gx_tb := gx_ok (List.mem_of_getElem? (i := 1750) (by decide +kernel)) (by decide +kernel)
theorem gp_X12_parse : (gx_y mX12_parse).cls ≠ "java/lang/invoke/MethodHandle" ∧ (gx_y mX12_parse).cls ≠ "java/lang/invoke/VarHandle" ∧ (parseMethodDescriptor (gx_y mX12_parse).desc).map (fun d => d.parameters.length) = some 1 := by decide +kernel
theorem gw_cw_X12_parses : gx_cw mX12_parses ∈ gx_tb := gx_ok (List.mem_of_getElem? (i := 1754) (by decide +kernel)) (by decide +kernel)
theorem gp_X12_parses : (gx_y mX12_parses).cls ≠ "java/lang/invoke/MethodHandle" ∧ (gx_y mX12_parses).cls ≠ "java/lang/invoke/VarHandle" ∧ (parseMethodDescriptor (gx_y mX12_parses).desc).map (fun d => d.parameters.length) = some 1 := by decide +kernel
theorem gw_cw_X12_predicted : gx_cw mX12_predicted ∈ gx_tb := gx_ok (List.mem_of_getElem? (i := 1702) (by decide +kernel)) (by decide +kernel)
theorem gp_X12_predicted : (gx_y mX12_predicted).cls ≠ "java/lang/invoke/MethodHandle" ∧ (gx_y mX12_predicted).cls ≠ "java/lang/invoke/VarHandle" ∧ (parseMethodDescriptor (gx_y mX12_predicted).desc).map (fun d => d.parameters.length) = some 2 := by decide +kernel
theorem gw_cw_X12_productions : gx_cw mX12_productions ∈ gx_tb := gx_ok (List.mem_of_getElem? (i := 1566) (by decide +kernel)) (by decide +kernel)
theorem gp_X12_productions : (gx_y mX12_productions).cls ≠ "java/lang/invoke/MethodHandle" ∧ (gx_y mX12_productions).cls ≠ "java/lang/invoke/VarHandle" ∧ (parseMethodDescriptor (gx_y mX12_productions).desc).map (fun d => d.parameters.length) = some 0 := by decide +kernel
theorem gw_cw_X12_put : gx_cw mX12_put ∈ gx_tb := gx_ok (List.mem_of_getElem? (i := 1742) (by decide +kernel)) (by decide +kernel)
theorem gp_X12_put : (gx_y mX12_put).cls ≠ "java/lang/invoke/MethodHandle" ∧ (gx_y mX12_put).cls ≠ "java/lang/invoke/VarHandle" ∧ (parseMethodDescriptor (gx_y mX12_put).desc).map (fun d => d.parameters.length) = some 2 := by decide +kernel
theorem gw_cw_X12_readings : gx_cw mX12_readings ∈ gx_tb := gx_ok (List.mem_of_getElem? (i := 1782) (by decide +kernel)) (by decide +kernel)
theorem gp_X12_readings : (gx_y mX12_readings).cls ≠ "java/lang/invoke/MethodHandle" ∧ (gx_y mX12_readings).cls ≠ "java/lang/invoke/VarHandle" ∧ (parseMethodDescriptor (gx_y mX12_readings).desc).map (fun d => d.parameters.length) = some 0 := by decide +kernel
theorem gw_cw_X12_reads : gx_cw mX12_reads ∈ gx_tb := gx_ok (List.mem_of_getElem? (i := 1507) (by decide +kernel)) (by decide +kernel)
theorem gp_X12_reads : (gx_y mX12_reads).cls ≠ "java/lang/invoke/MethodHandle" ∧ (gx_y mX12_reads).cls ≠ "java/lang/invoke/VarHandle" ∧ (parseMethodDescriptor (gx_y mX12_reads).desc).map (fun d => d.parameters.length) = some 0 := by decide +kernel
theorem gw_cw_X12_reduced : gx_cw mX12_reduced ∈ gx_tb := gx_ok (List.mem_of_getElem? (i := 1774) (by decide +kernel)) (by decide +kernel)
theorem gp_X12_reduced : (gx_y mX12_reduced).cls ≠ "java/lang/invoke/MethodHandle" ∧ (gx_y mX12_reduced).cls ≠ "java/lang/invoke/VarHandle" ∧ (parseMethodDescriptor (gx_y mX12_reduced).desc).map (fun d => d.parameters.length) = some 2 := by decide +kernel
theorem gw_cw_X12_reduces : gx_cw mX12_reduces ∈ gx_tb := gx_ok (List.mem_of_getElem? (i := 1718) (by decide +kernel)) (by decide +kernel)
theorem gp_X12_reduces : (gx_y mX12_reduces).cls ≠ "java/lang/invoke/MethodHandle" ∧ (gx_y mX12_reduces).cls ≠ "java/lang/invoke/VarHandle" ∧ (parseMethodDescriptor (gx_y mX12_reduces).desc).map (fun d => d.parameters.length) = some 4 := by decide +kernel
theorem gw_cw_X12_repair : gx_cw mX12_repair ∈ gx_tb := gx_ok (List.mem_of_getElem? (i := 1801) (by decide +kernel)) (by decide +kernel)
theorem gp_X12_repair : (gx_y mX12_repair).cls ≠ "java/lang/invoke/MethodHandle" ∧ (gx_y mX12_repair).cls ≠ "java/lang/invoke/VarHandle" ∧ (parseMethodDescriptor (gx_y mX12_repair).desc).map (fun d => d.parameters.length) = some 0 := by decide +kernel
theorem gw_cw_X12_right : gx_cw mX12_right ∈ gx_tb := gx_ok (List.mem_of_getElem? (i := 1574) (by decide +kernel)) (by decide +kernel)
theorem gp_X12_right : (gx_y mX12_right).cls ≠ "java/lang/invoke/MethodHandle" ∧ (gx_y mX12_right).cls ≠ "java/lang/invoke/VarHandle" ∧ (parseMethodDescriptor (gx_y mX12_right).desc).map (fun d => d.parameters.length) = some 2 := by decide +kernel
theorem gw_cw_X12_runs : gx_cw mX12_runs ∈ gx_tb := gx_ok (List.mem_of_getElem? (i := 1770) (by decide +kernel)) (by decide +kernel)
theorem gp_X12_runs : (gx_y mX12_runs).cls ≠ "java/lang/invoke/MethodHandle" ∧ (gx_y mX12_runs).cls ≠ "java/lang/invoke/VarHandle" ∧ (parseMethodDescriptor (gx_y mX12_runs).desc).map (fun d => d.parameters.length) = some 1 := by decide +kernel
theorem gw_cw_X12_sentence : gx_cw mX12_sentence ∈ gx_tb := gx_ok (List.mem_of_getElem? (i := 1643) (by decide +kernel)) (by decide +kernel)
theorem gp_X12_sentence : (gx_y mX12_sentence).cls ≠ "java/lang/invoke/MethodHandle" ∧ (gx_y mX12_sentence).cls ≠ "java/lang/invoke/VarHandle" ∧ (parseMethodDescriptor (gx_y mX12_sentence).desc).map (fun d => d.parameters.length) = some 2 := by decide +kernel
theorem gw_cw_X12_settled : gx_cw mX12_settled ∈ gx_tb := gx_ok (List.mem_of_getElem? (i := 1734) (by decide +kernel)) (by decide +kernel)
theorem gp_X12_settled : (gx_y mX12_settled).cls ≠ "java/lang/invoke/MethodHandle" ∧ (gx_y mX12_settled).cls ≠ "java/lang/invoke/VarHandle" ∧ (parseMethodDescriptor (gx_y mX12_settled).desc).map (fun d => d.parameters.length) = some 1 := by decide +kernel
theorem gw_cw_X12_shortest : gx_cw mX12_shortest ∈ gx_tb := gx_ok (List.mem_of_getElem? (i := 1639) (by decide +kernel)) (by decide +kernel)
theorem gp_X12_shortest : (gx_y mX12_shortest).cls ≠ "java/lang/invoke/MethodHandle" ∧ (gx_y mX12_shortest).cls ≠ "java/lang/invoke/VarHandle" ∧ (parseMethodDescriptor (gx_y mX12_shortest).desc).map (fun d => d.parameters.length) = some 1 := by decide +kernel
theorem gw_cw_X12_size : gx_cw mX12_size ∈ gx_tb := gx_ok (List.mem_of_getElem? (i := 1648) (by decide +kernel)) (by decide +kernel)
theorem gp_X12_size : (gx_y mX12_size).cls ≠ "java/lang/invoke/MethodHandle" ∧ (gx_y mX12_size).cls ≠ "java/lang/invoke/VarHandle" ∧ (parseMethodDescriptor (gx_y mX12_size).desc).map (fun d => d.parameters.length) = some 1 := by decide +kernel
theorem gw_cw_X12_sizeOf : gx_cw mX12_sizeOf ∈ gx_tb := gx_ok (List.mem_of_getElem? (i := 1582) (by decide +kernel)) (by decide +kernel)
theorem gp_X12_sizeOf : (gx_y mX12_sizeOf).cls ≠ "java/lang/invoke/MethodHandle" ∧ (gx_y mX12_sizeOf).cls ≠ "java/lang/invoke/VarHandle" ∧ (parseMethodDescriptor (gx_y mX12_sizeOf).desc).map (fun d => d.parameters.length) = some 1 := by decide +kernel
theorem gw_cw_X12_sizeOr : gx_cw mX12_sizeOr ∈ gx_tb := gx_ok (List.mem_of_getElem? (i := 1766) (by decide +kernel)) (by decide +kernel)
theorem gp_X12_sizeOr : (gx_y mX12_sizeOr).cls ≠ "java/lang/invoke/MethodHandle" ∧ (gx_y mX12_sizeOr).cls ≠ "java/lang/invoke/VarHandle" ∧ (parseMethodDescriptor (gx_y mX12_sizeOr).desc).map (fun d => d.parameters.length) = some 1 := by decide +kernel
theorem gw_cw_X12_spreads : gx_cw mX12_spreads ∈ gx_tb := gx_ok (List.mem_of_getElem? (i := 1698) (by decide +kernel)) (by decide +kernel)
theorem gp_X12_spreads : (gx_y mX12_spreads).cls ≠ "java/lang/invoke/MethodHandle" ∧ (gx_y mX12_spreads).cls ≠ "java/lang/invoke/VarHandle" ∧ (parseMethodDescriptor (gx_y mX12_spreads).desc).map (fun d => d.parameters.length) = some 1 := by decide +kernel
theorem gw_cw_X12_stands : gx_cw mX12_stands ∈ gx_tb := gx_ok (List.mem_of_getElem? (i := 1511) (by decide +kernel)) (by decide +kernel)
theorem gp_X12_stands : (gx_y mX12_stands).cls ≠ "java/lang/invoke/MethodHandle" ∧ (gx_y mX12_stands).cls ≠ "java/lang/invoke/VarHandle" ∧ (parseMethodDescriptor (gx_y mX12_stands).desc).map (fun d => d.parameters.length) = some 2 := by decide +kernel
theorem gw_cw_X12_start : gx_cw mX12_start ∈ gx_tb := gx_ok (List.mem_of_getElem? (i := 1558) (by decide +kernel)) (by decide +kernel)
theorem gp_X12_start : (gx_y mX12_start).cls ≠ "java/lang/invoke/MethodHandle" ∧ (gx_y mX12_start).cls ≠ "java/lang/invoke/VarHandle" ∧ (parseMethodDescriptor (gx_y mX12_start).desc).map (fun d => d.parameters.length) = some 1 := by decide +kernel
theorem gw_cw_X12_states : gx_cw mX12_states ∈ gx_tb := gx_ok (List.mem_of_getElem? (i := 1655) (by decide +kernel)) (by decide +kernel)
theorem gp_X12_states : (gx_y mX12_states).cls ≠ "java/lang/invoke/MethodHandle" ∧ (gx_y mX12_states).cls ≠ "java/lang/invoke/VarHandle" ∧ (parseMethodDescriptor (gx_y mX12_states).desc).map (fun d => d.parameters.length) = some 1 := by decide +kernel
theorem gw_cw_X12_steps : gx_cw mX12_steps ∈ gx_tb := gx_ok (List.mem_of_getElem? (i := 1683) (by decide +kernel)) (by decide +kernel)
theorem gp_X12_steps : (gx_y mX12_steps).cls ≠ "java/lang/invoke/MethodHandle" ∧ (gx_y mX12_steps).cls ≠ "java/lang/invoke/VarHandle" ∧ (parseMethodDescriptor (gx_y mX12_steps).desc).map (fun d => d.parameters.length) = some 3 := by decide +kernel
theorem gw_cw_X12_symbol : gx_cw mX12_symbol ∈ gx_tb := gx_ok (List.mem_of_getElem? (i := 1578) (by decide +kernel)) (by decide +kernel)
theorem gp_X12_symbol : (gx_y mX12_symbol).cls ≠ "java/lang/invoke/MethodHandle" ∧ (gx_y mX12_symbol).cls ≠ "java/lang/invoke/VarHandle" ∧ (parseMethodDescriptor (gx_y mX12_symbol).desc).map (fun d => d.parameters.length) = some 2 := by decide +kernel
theorem gw_cw_X12_thrown : gx_cw mX12_thrown ∈ gx_tb := gx_ok (List.mem_of_getElem? (i := 1466) (by decide +kernel)) (by decide +kernel)
theorem gp_X12_thrown : (gx_y mX12_thrown).cls ≠ "java/lang/invoke/MethodHandle" ∧ (gx_y mX12_thrown).cls ≠ "java/lang/invoke/VarHandle" ∧ (parseMethodDescriptor (gx_y mX12_thrown).desc).map (fun d => d.parameters.length) = some 0 := by decide +kernel
theorem gw_cw_X12_type : gx_cw mX12_type ∈ gx_tb := gx_ok (List.mem_of_getElem? (i := 1470) (by decide +kernel)) (by decide +kernel)
theorem gp_X12_type : (gx_y mX12_type).cls ≠ "java/lang/invoke/MethodHandle" ∧ (gx_y mX12_type).cls ≠ "java/lang/invoke/VarHandle" ∧ (parseMethodDescriptor (gx_y mX12_type).desc).map (fun d => d.parameters.length) = some 1 := by decide +kernel
theorem gw_cw_X12_undo : gx_cw mX12_undo ∈ gx_tb := gx_ok (List.mem_of_getElem? (i := 1535) (by decide +kernel)) (by decide +kernel)
theorem gp_X12_undo : (gx_y mX12_undo).cls ≠ "java/lang/invoke/MethodHandle" ∧ (gx_y mX12_undo).cls ≠ "java/lang/invoke/VarHandle" ∧ (parseMethodDescriptor (gx_y mX12_undo).desc).map (fun d => d.parameters.length) = some 0 := by decide +kernel
theorem gw_cw_X12_use : gx_cw mX12_use ∈ gx_tb := gx_ok (List.mem_of_getElem? (i := 1539) (by decide +kernel)) (by decide +kernel)
theorem gp_X12_use : (gx_y mX12_use).cls ≠ "java/lang/invoke/MethodHandle" ∧ (gx_y mX12_use).cls ≠ "java/lang/invoke/VarHandle" ∧ (parseMethodDescriptor (gx_y mX12_use).desc).map (fun d => d.parameters.length) = some 1 := by decide +kernel
theorem gw_cw_X12_uses : gx_cw mX12_uses ∈ gx_tb := gx_ok (List.mem_of_getElem? (i := 1631) (by decide +kernel)) (by decide +kernel)
theorem gp_X12_uses : (gx_y mX12_uses).cls ≠ "java/lang/invoke/MethodHandle" ∧ (gx_y mX12_uses).cls ≠ "java/lang/invoke/VarHandle" ∧ (parseMethodDescriptor (gx_y mX12_uses).desc).map (fun d => d.parameters.length) = some 1 := by decide +kernel
theorem gw_cw_X12_value : gx_cw mX12_value ∈ gx_tb := gx_ok (List.mem_of_getElem? (i := 1778) (by decide +kernel)) (by decide +kernel)
theorem gp_X12_value : (gx_y mX12_value).cls ≠ "java/lang/invoke/MethodHandle" ∧ (gx_y mX12_value).cls ≠ "java/lang/invoke/VarHandle" ∧ (parseMethodDescriptor (gx_y mX12_value).desc).map (fun d => d.parameters.length) = some 1 := by decide +kernel
theorem gw_cw_X12_ways : gx_cw mX12_ways ∈ gx_tb := gx_ok (List.mem_of_getElem? (i := 1794) (by decide +kernel)) (by decide +kernel)
theorem gp_X12_ways : (gx_y mX12_ways).cls ≠ "java/lang/invoke/MethodHandle" ∧ (gx_y mX12_ways).cls ≠ "java/lang/invoke/VarHandle" ∧ (parseMethodDescriptor (gx_y mX12_ways).desc).map (fun d => d.parameters.length) = some 3 := by decide +kernel
theorem gw_cw_X12_waysOf : gx_cw mX12_waysOf ∈ gx_tb := gx_ok (List.mem_of_getElem? (i := 1790) (by decide +kernel)) (by decide +kernel)
theorem gp_X12_waysOf : (gx_y mX12_waysOf).cls ≠ "java/lang/invoke/MethodHandle" ∧ (gx_y mX12_waysOf).cls ≠ "java/lang/invoke/VarHandle" ∧ (parseMethodDescriptor (gx_y mX12_waysOf).desc).map (fun d => d.parameters.length) = some 3 := by decide +kernel
theorem gw_cw_X12_wholes : gx_cw mX12_wholes ∈ gx_tb := gx_ok (List.mem_of_getElem? (i := 1659) (by decide +kernel)) (by decide +kernel)
theorem gp_X12_wholes : (gx_y mX12_wholes).cls ≠ "java/lang/invoke/MethodHandle" ∧ (gx_y mX12_wholes).cls ≠ "java/lang/invoke/VarHandle" ∧ (parseMethodDescriptor (gx_y mX12_wholes).desc).map (fun d => d.parameters.length) = some 0 := by decide +kernel
theorem gw_cw_X12_wipe : gx_cw mX12_wipe ∈ gx_tb := gx_ok (List.mem_of_getElem? (i := 1487) (by decide +kernel)) (by decide +kernel)
theorem gp_X12_wipe : (gx_y mX12_wipe).cls ≠ "java/lang/invoke/MethodHandle" ∧ (gx_y mX12_wipe).cls ≠ "java/lang/invoke/VarHandle" ∧ (parseMethodDescriptor (gx_y mX12_wipe).desc).map (fun d => d.parameters.length) = some 0 := by decide +kernel
theorem gw_cw_X1_cell : gx_cw mX1_cell ∈ gx_tb := gx_ok (List.mem_of_getElem? (i := 724) (by decide +kernel)) (by decide +kernel)
theorem gp_X1_cell : (gx_y mX1_cell).cls ≠ "java/lang/invoke/MethodHandle" ∧ (gx_y mX1_cell).cls ≠ "java/lang/invoke/VarHandle" ∧ (parseMethodDescriptor (gx_y mX1_cell).desc).map (fun d => d.parameters.length) = some 3 := by decide +kernel
theorem gw_cw_X1_facts : gx_cw mX1_facts ∈ gx_tb := gx_ok (List.mem_of_getElem? (i := 811) (by decide +kernel)) (by decide +kernel)
theorem gp_X1_facts : (gx_y mX1_facts).cls ≠ "java/lang/invoke/MethodHandle" ∧ (gx_y mX1_facts).cls ≠ "java/lang/invoke/VarHandle" ∧ (parseMethodDescriptor (gx_y mX1_facts).desc).map (fun d => d.parameters.length) = some 0 := by decide +kernel
theorem gw_cw_X1_fill : gx_cw mX1_fill ∈ gx_tb := gx_ok (List.mem_of_getElem? (i := 708) (by decide +kernel)) (by decide +kernel)
theorem gp_X1_fill : (gx_y mX1_fill).cls ≠ "java/lang/invoke/MethodHandle" ∧ (gx_y mX1_fill).cls ≠ "java/lang/invoke/VarHandle" ∧ (parseMethodDescriptor (gx_y mX1_fill).desc).map (fun d => d.parameters.length) = some 2 := by decide +kernel
theorem gw_cw_X1_init : gx_cw mX1_init ∈ gx_tb := gx_ok (List.mem_of_getElem? (i := 271) (by decide +kernel)) (by decide +kernel)
theorem gp_X1_init : (gx_y mX1_init).cls ≠ "java/lang/invoke/MethodHandle" ∧ (gx_y mX1_init).cls ≠ "java/lang/invoke/VarHandle" ∧ (parseMethodDescriptor (gx_y mX1_init).desc).map (fun d => d.parameters.length) = some 4 := by decide +kernel
theorem gw_cw_X1_look : gx_cw mX1_look ∈ gx_tb := gx_ok (List.mem_of_getElem? (i := 769) (by decide +kernel)) (by decide +kernel)
theorem gp_X1_look : (gx_y mX1_look).cls ≠ "java/lang/invoke/MethodHandle" ∧ (gx_y mX1_look).cls ≠ "java/lang/invoke/VarHandle" ∧ (parseMethodDescriptor (gx_y mX1_look).desc).map (fun d => d.parameters.length) = some 1 := by decide +kernel
theorem gw_cw_X1_measure : gx_cw mX1_measure ∈ gx_tb := gx_ok (List.mem_of_getElem? (i := 703) (by decide +kernel)) (by decide +kernel)
theorem gp_X1_measure : (gx_y mX1_measure).cls ≠ "java/lang/invoke/MethodHandle" ∧ (gx_y mX1_measure).cls ≠ "java/lang/invoke/VarHandle" ∧ (parseMethodDescriptor (gx_y mX1_measure).desc).map (fun d => d.parameters.length) = some 1 := by decide +kernel
theorem gw_cw_X1_ofProduction : gx_cw mX1_ofProduction ∈ gx_tb := gx_ok (List.mem_of_getElem? (i := 737) (by decide +kernel)) (by decide +kernel)
theorem gp_X1_ofProduction : (gx_y mX1_ofProduction).cls ≠ "java/lang/invoke/MethodHandle" ∧ (gx_y mX1_ofProduction).cls ≠ "java/lang/invoke/VarHandle" ∧ (parseMethodDescriptor (gx_y mX1_ofProduction).desc).map (fun d => d.parameters.length) = some 3 := by decide +kernel
theorem gw_cw_X1_part : gx_cw mX1_part ∈ gx_tb := gx_ok (List.mem_of_getElem? (i := 756) (by decide +kernel)) (by decide +kernel)
theorem gp_X1_part : (gx_y mX1_part).cls ≠ "java/lang/invoke/MethodHandle" ∧ (gx_y mX1_part).cls ≠ "java/lang/invoke/VarHandle" ∧ (parseMethodDescriptor (gx_y mX1_part).desc).map (fun d => d.parameters.length) = some 3 := by decide +kernel
theorem gw_cw_X1_refine : gx_cw mX1_refine ∈ gx_tb := gx_ok (List.mem_of_getElem? (i := 729) (by decide +kernel)) (by decide +kernel)
theorem gp_X1_refine : (gx_y mX1_refine).cls ≠ "java/lang/invoke/MethodHandle" ∧ (gx_y mX1_refine).cls ≠ "java/lang/invoke/VarHandle" ∧ (parseMethodDescriptor (gx_y mX1_refine).desc).map (fun d => d.parameters.length) = some 2 := by decide +kernel
theorem gw_cw_X1_setPart : gx_cw mX1_setPart ∈ gx_tb := gx_ok (List.mem_of_getElem? (i := 750) (by decide +kernel)) (by decide +kernel)
theorem gp_X1_setPart : (gx_y mX1_setPart).cls ≠ "java/lang/invoke/MethodHandle" ∧ (gx_y mX1_setPart).cls ≠ "java/lang/invoke/VarHandle" ∧ (parseMethodDescriptor (gx_y mX1_setPart).desc).map (fun d => d.parameters.length) = some 4 := by decide +kernel
theorem gw_cw_X1_setWhole : gx_cw mX1_setWhole ∈ gx_tb := gx_ok (List.mem_of_getElem? (i := 721) (by decide +kernel)) (by decide +kernel)
theorem gp_X1_setWhole : (gx_y mX1_setWhole).cls ≠ "java/lang/invoke/MethodHandle" ∧ (gx_y mX1_setWhole).cls ≠ "java/lang/invoke/VarHandle" ∧ (parseMethodDescriptor (gx_y mX1_setWhole).desc).map (fun d => d.parameters.length) = some 4 := by decide +kernel
theorem gw_cw_X1_whole : gx_cw mX1_whole ∈ gx_tb := gx_ok (List.mem_of_getElem? (i := 779) (by decide +kernel)) (by decide +kernel)
theorem gp_X1_whole : (gx_y mX1_whole).cls ≠ "java/lang/invoke/MethodHandle" ∧ (gx_y mX1_whole).cls ≠ "java/lang/invoke/VarHandle" ∧ (parseMethodDescriptor (gx_y mX1_whole).desc).map (fun d => d.parameters.length) = some 3 := by decide +kernel
theorem gw_cw_X2_blank : gx_cw mX2_blank ∈ gx_tb := gx_ok (List.mem_of_getElem? (i := 743) (by decide +kernel)) (by decide +kernel)
theorem gp_X2_blank : (gx_y mX2_blank).cls ≠ "java/lang/invoke/MethodHandle" ∧ (gx_y mX2_blank).cls ≠ "java/lang/invoke/VarHandle" ∧ (parseMethodDescriptor (gx_y mX2_blank).desc).map (fun d => d.parameters.length) = some 2 := by decide +kernel
theorem gw_cw_X2_both : gx_cw mX2_both ∈ gx_tb := gx_ok (List.mem_of_getElem? (i := 785) (by decide +kernel)) (by decide +kernel)
theorem gp_X2_both : (gx_y mX2_both).cls ≠ "java/lang/invoke/MethodHandle" ∧ (gx_y mX2_both).cls ≠ "java/lang/invoke/VarHandle" ∧ (parseMethodDescriptor (gx_y mX2_both).desc).map (fun d => d.parameters.length) = some 2 := by decide +kernel
theorem gw_cw_X2_either : gx_cw mX2_either ∈ gx_tb := gx_ok (List.mem_of_getElem? (i := 796) (by decide +kernel)) (by decide +kernel)
theorem gp_X2_either : (gx_y mX2_either).cls ≠ "java/lang/invoke/MethodHandle" ∧ (gx_y mX2_either).cls ≠ "java/lang/invoke/VarHandle" ∧ (parseMethodDescriptor (gx_y mX2_either).desc).map (fun d => d.parameters.length) = some 2 := by decide +kernel
theorem gw_cw_X2_init : gx_cw mX2_init ∈ gx_tb := gx_ok (List.mem_of_getElem? (i := 268) (by decide +kernel)) (by decide +kernel)
theorem gp_X2_init : (gx_y mX2_init).cls ≠ "java/lang/invoke/MethodHandle" ∧ (gx_y mX2_init).cls ≠ "java/lang/invoke/VarHandle" ∧ (parseMethodDescriptor (gx_y mX2_init).desc).map (fun d => d.parameters.length) = some 4 := by decide +kernel
theorem gw_cw_X2_none : gx_cw mX2_none ∈ gx_tb := gx_ok (List.mem_of_getElem? (i := 714) (by decide +kernel)) (by decide +kernel)
theorem gp_X2_none : (gx_y mX2_none).cls ≠ "java/lang/invoke/MethodHandle" ∧ (gx_y mX2_none).cls ≠ "java/lang/invoke/VarHandle" ∧ (parseMethodDescriptor (gx_y mX2_none).desc).map (fun d => d.parameters.length) = some 0 := by decide +kernel
theorem gw_cw_X2_ofNonterminal : gx_cw mX2_ofNonterminal ∈ gx_tb := gx_ok (List.mem_of_getElem? (i := 805) (by decide +kernel)) (by decide +kernel)
theorem gp_X2_ofNonterminal : (gx_y mX2_ofNonterminal).cls ≠ "java/lang/invoke/MethodHandle" ∧ (gx_y mX2_ofNonterminal).cls ≠ "java/lang/invoke/VarHandle" ∧ (parseMethodDescriptor (gx_y mX2_ofNonterminal).desc).map (fun d => d.parameters.length) = some 2 := by decide +kernel
theorem gw_cw_X2_ofTerminal : gx_cw mX2_ofTerminal ∈ gx_tb := gx_ok (List.mem_of_getElem? (i := 763) (by decide +kernel)) (by decide +kernel)
theorem gp_X2_ofTerminal : (gx_y mX2_ofTerminal).cls ≠ "java/lang/invoke/MethodHandle" ∧ (gx_y mX2_ofTerminal).cls ≠ "java/lang/invoke/VarHandle" ∧ (parseMethodDescriptor (gx_y mX2_ofTerminal).desc).map (fun d => d.parameters.length) = some 3 := by decide +kernel
theorem gw_cw_X3_beginOf : gx_cw mX3_beginOf ∈ gx_tb := gx_ok (List.mem_of_getElem? (i := 434) (by decide +kernel)) (by decide +kernel)
theorem gp_X3_beginOf : (gx_y mX3_beginOf).cls ≠ "java/lang/invoke/MethodHandle" ∧ (gx_y mX3_beginOf).cls ≠ "java/lang/invoke/VarHandle" ∧ (parseMethodDescriptor (gx_y mX3_beginOf).desc).map (fun d => d.parameters.length) = some 1 := by decide +kernel
theorem gw_cw_X3_beginnings : gx_cw mX3_beginnings ∈ gx_tb := gx_ok (List.mem_of_getElem? (i := 422) (by decide +kernel)) (by decide +kernel)
theorem gp_X3_beginnings : (gx_y mX3_beginnings).cls ≠ "java/lang/invoke/MethodHandle" ∧ (gx_y mX3_beginnings).cls ≠ "java/lang/invoke/VarHandle" ∧ (parseMethodDescriptor (gx_y mX3_beginnings).desc).map (fun d => d.parameters.length) = some 2 := by decide +kernel
theorem gw_cw_X3_beginsItself : gx_cw mX3_beginsItself ∈ gx_tb := gx_ok (List.mem_of_getElem? (i := 1161) (by decide +kernel)) (by decide +kernel)
theorem gp_X3_beginsItself : (gx_y mX3_beginsItself).cls ≠ "java/lang/invoke/MethodHandle" ∧ (gx_y mX3_beginsItself).cls ≠ "java/lang/invoke/VarHandle" ∧ (parseMethodDescriptor (gx_y mX3_beginsItself).desc).map (fun d => d.parameters.length) = some 1 := by decide +kernel
theorem gw_cw_X3_behind : gx_cw mX3_behind ∈ gx_tb := gx_ok (List.mem_of_getElem? (i := 456) (by decide +kernel)) (by decide +kernel)
theorem gp_X3_behind : (gx_y mX3_behind).cls ≠ "java/lang/invoke/MethodHandle" ∧ (gx_y mX3_behind).cls ≠ "java/lang/invoke/VarHandle" ∧ (parseMethodDescriptor (gx_y mX3_behind).desc).map (fun d => d.parameters.length) = some 1 := by decide +kernel
theorem gw_cw_X3_closeRelation : gx_cw mX3_closeRelation ∈ gx_tb := gx_ok (List.mem_of_getElem? (i := 471) (by decide +kernel)) (by decide +kernel)
theorem gp_X3_closeRelation : (gx_y mX3_closeRelation).cls ≠ "java/lang/invoke/MethodHandle" ∧ (gx_y mX3_closeRelation).cls ≠ "java/lang/invoke/VarHandle" ∧ (parseMethodDescriptor (gx_y mX3_closeRelation).desc).map (fun d => d.parameters.length) = some 0 := by decide +kernel
theorem gw_cw_X3_findBeginnings : gx_cw mX3_findBeginnings ∈ gx_tb := gx_ok (List.mem_of_getElem? (i := 411) (by decide +kernel)) (by decide +kernel)
theorem gp_X3_findBeginnings : (gx_y mX3_findBeginnings).cls ≠ "java/lang/invoke/MethodHandle" ∧ (gx_y mX3_findBeginnings).cls ≠ "java/lang/invoke/VarHandle" ∧ (parseMethodDescriptor (gx_y mX3_findBeginnings).desc).map (fun d => d.parameters.length) = some 0 := by decide +kernel
theorem gw_cw_X3_findBehinds : gx_cw mX3_findBehinds ∈ gx_tb := gx_ok (List.mem_of_getElem? (i := 441) (by decide +kernel)) (by decide +kernel)
theorem gp_X3_findBehinds : (gx_y mX3_findBehinds).cls ≠ "java/lang/invoke/MethodHandle" ∧ (gx_y mX3_findBehinds).cls ≠ "java/lang/invoke/VarHandle" ∧ (parseMethodDescriptor (gx_y mX3_findBehinds).desc).map (fun d => d.parameters.length) = some 0 := by decide +kernel
theorem gw_cw_X3_findCircular : gx_cw mX3_findCircular ∈ gx_tb := gx_ok (List.mem_of_getElem? (i := 486) (by decide +kernel)) (by decide +kernel)
theorem gp_X3_findCircular : (gx_y mX3_findCircular).cls ≠ "java/lang/invoke/MethodHandle" ∧ (gx_y mX3_findCircular).cls ≠ "java/lang/invoke/VarHandle" ∧ (parseMethodDescriptor (gx_y mX3_findCircular).desc).map (fun d => d.parameters.length) = some 0 := by decide +kernel
theorem gw_cw_X3_findItems : gx_cw mX3_findItems ∈ gx_tb := gx_ok (List.mem_of_getElem? (i := 522) (by decide +kernel)) (by decide +kernel)
theorem gp_X3_findItems : (gx_y mX3_findItems).cls ≠ "java/lang/invoke/MethodHandle" ∧ (gx_y mX3_findItems).cls ≠ "java/lang/invoke/VarHandle" ∧ (parseMethodDescriptor (gx_y mX3_findItems).desc).map (fun d => d.parameters.length) = some 0 := by decide +kernel
theorem gw_cw_X3_findLeasts : gx_cw mX3_findLeasts ∈ gx_tb := gx_ok (List.mem_of_getElem? (i := 490) (by decide +kernel)) (by decide +kernel)
theorem gp_X3_findLeasts : (gx_y mX3_findLeasts).cls ≠ "java/lang/invoke/MethodHandle" ∧ (gx_y mX3_findLeasts).cls ≠ "java/lang/invoke/VarHandle" ∧ (parseMethodDescriptor (gx_y mX3_findLeasts).desc).map (fun d => d.parameters.length) = some 0 := by decide +kernel
theorem gw_cw_X3_findLeftRecursive : gx_cw mX3_findLeftRecursive ∈ gx_tb := gx_ok (List.mem_of_getElem? (i := 478) (by decide +kernel)) (by decide +kernel)
theorem gp_X3_findLeftRecursive : (gx_y mX3_findLeftRecursive).cls ≠ "java/lang/invoke/MethodHandle" ∧ (gx_y mX3_findLeftRecursive).cls ≠ "java/lang/invoke/VarHandle" ∧ (parseMethodDescriptor (gx_y mX3_findLeftRecursive).desc).map (fun d => d.parameters.length) = some 0 := by decide +kernel
theorem gw_cw_X3_findPredictions : gx_cw mX3_findPredictions ∈ gx_tb := gx_ok (List.mem_of_getElem? (i := 518) (by decide +kernel)) (by decide +kernel)
theorem gp_X3_findPredictions : (gx_y mX3_findPredictions).cls ≠ "java/lang/invoke/MethodHandle" ∧ (gx_y mX3_findPredictions).cls ≠ "java/lang/invoke/VarHandle" ∧ (parseMethodDescriptor (gx_y mX3_findPredictions).desc).map (fun d => d.parameters.length) = some 0 := by decide +kernel
theorem gw_cw_X3_findReached : gx_cw mX3_findReached ∈ gx_tb := gx_ok (List.mem_of_getElem? (i := 463) (by decide +kernel)) (by decide +kernel)
theorem gp_X3_findReached : (gx_y mX3_findReached).cls ≠ "java/lang/invoke/MethodHandle" ∧ (gx_y mX3_findReached).cls ≠ "java/lang/invoke/VarHandle" ∧ (parseMethodDescriptor (gx_y mX3_findReached).desc).map (fun d => d.parameters.length) = some 0 := by decide +kernel
theorem gw_cw_X3_findSpellings : gx_cw mX3_findSpellings ∈ gx_tb := gx_ok (List.mem_of_getElem? (i := 505) (by decide +kernel)) (by decide +kernel)
theorem gp_X3_findSpellings : (gx_y mX3_findSpellings).cls ≠ "java/lang/invoke/MethodHandle" ∧ (gx_y mX3_findSpellings).cls ≠ "java/lang/invoke/VarHandle" ∧ (parseMethodDescriptor (gx_y mX3_findSpellings).desc).map (fun d => d.parameters.length) = some 0 := by decide +kernel
theorem gw_cw_X3_firsts : gx_cw mX3_firsts ∈ gx_tb := gx_ok (List.mem_of_getElem? (i := 1131) (by decide +kernel)) (by decide +kernel)
theorem gp_X3_firsts : (gx_y mX3_firsts).cls ≠ "java/lang/invoke/MethodHandle" ∧ (gx_y mX3_firsts).cls ≠ "java/lang/invoke/VarHandle" ∧ (parseMethodDescriptor (gx_y mX3_firsts).desc).map (fun d => d.parameters.length) = some 1 := by decide +kernel
theorem gw_cw_X3_forget : gx_cw mX3_forget ∈ gx_tb := gx_ok (List.mem_of_getElem? (i := 1008) (by decide +kernel)) (by decide +kernel)
theorem gp_X3_forget : (gx_y mX3_forget).cls ≠ "java/lang/invoke/MethodHandle" ∧ (gx_y mX3_forget).cls ≠ "java/lang/invoke/VarHandle" ∧ (parseMethodDescriptor (gx_y mX3_forget).desc).map (fun d => d.parameters.length) = some 1 := by decide +kernel
theorem gw_cw_X3_front : gx_cw mX3_front ∈ gx_tb := gx_ok (List.mem_of_getElem? (i := 544) (by decide +kernel)) (by decide +kernel)
theorem gp_X3_front : (gx_y mX3_front).cls ≠ "java/lang/invoke/MethodHandle" ∧ (gx_y mX3_front).cls ≠ "java/lang/invoke/VarHandle" ∧ (parseMethodDescriptor (gx_y mX3_front).desc).map (fun d => d.parameters.length) = some 1 := by decide +kernel
theorem gw_cw_X3_grammar : gx_cw mX3_grammar ∈ gx_tb := gx_ok (List.mem_of_getElem? (i := 558) (by decide +kernel)) (by decide +kernel)
theorem gp_X3_grammar : (gx_y mX3_grammar).cls ≠ "java/lang/invoke/MethodHandle" ∧ (gx_y mX3_grammar).cls ≠ "java/lang/invoke/VarHandle" ∧ (parseMethodDescriptor (gx_y mX3_grammar).desc).map (fun d => d.parameters.length) = some 0 := by decide +kernel
theorem gw_cw_X3_improveSpelling : gx_cw mX3_improveSpelling ∈ gx_tb := gx_ok (List.mem_of_getElem? (i := 509) (by decide +kernel)) (by decide +kernel)
theorem gp_X3_improveSpelling : (gx_y mX3_improveSpelling).cls ≠ "java/lang/invoke/MethodHandle" ∧ (gx_y mX3_improveSpelling).cls ≠ "java/lang/invoke/VarHandle" ∧ (parseMethodDescriptor (gx_y mX3_improveSpelling).desc).map (fun d => d.parameters.length) = some 1 := by decide +kernel
theorem gw_cw_X3_init : gx_cw mX3_init ∈ gx_tb := gx_ok (List.mem_of_getElem? (i := 105) (by decide +kernel)) (by decide +kernel)
theorem gp_X3_init : (gx_y mX3_init).cls ≠ "java/lang/invoke/MethodHandle" ∧ (gx_y mX3_init).cls ≠ "java/lang/invoke/VarHandle" ∧ (parseMethodDescriptor (gx_y mX3_init).desc).map (fun d => d.parameters.length) = some 1 := by decide +kernel
theorem gw_cw_X3_isCircular : gx_cw mX3_isCircular ∈ gx_tb := gx_ok (List.mem_of_getElem? (i := 815) (by decide +kernel)) (by decide +kernel)
theorem gp_X3_isCircular : (gx_y mX3_isCircular).cls ≠ "java/lang/invoke/MethodHandle" ∧ (gx_y mX3_isCircular).cls ≠ "java/lang/invoke/VarHandle" ∧ (parseMethodDescriptor (gx_y mX3_isCircular).desc).map (fun d => d.parameters.length) = some 1 := by decide +kernel
theorem gw_cw_X3_isProductive : gx_cw mX3_isProductive ∈ gx_tb := gx_ok (List.mem_of_getElem? (i := 828) (by decide +kernel)) (by decide +kernel)
theorem gp_X3_isProductive : (gx_y mX3_isProductive).cls ≠ "java/lang/invoke/MethodHandle" ∧ (gx_y mX3_isProductive).cls ≠ "java/lang/invoke/VarHandle" ∧ (parseMethodDescriptor (gx_y mX3_isProductive).desc).map (fun d => d.parameters.length) = some 1 := by decide +kernel
theorem gw_cw_X3_isReached : gx_cw mX3_isReached ∈ gx_tb := gx_ok (List.mem_of_getElem? (i := 1150) (by decide +kernel)) (by decide +kernel)
theorem gp_X3_isReached : (gx_y mX3_isReached).cls ≠ "java/lang/invoke/MethodHandle" ∧ (gx_y mX3_isReached).cls ≠ "java/lang/invoke/VarHandle" ∧ (parseMethodDescriptor (gx_y mX3_isReached).desc).map (fun d => d.parameters.length) = some 1 := by decide +kernel
theorem gw_cw_X3_learn : gx_cw mX3_learn ∈ gx_tb := gx_ok (List.mem_of_getElem? (i := 407) (by decide +kernel)) (by decide +kernel)
theorem gp_X3_learn : (gx_y mX3_learn).cls ≠ "java/lang/invoke/MethodHandle" ∧ (gx_y mX3_learn).cls ≠ "java/lang/invoke/VarHandle" ∧ (parseMethodDescriptor (gx_y mX3_learn).desc).map (fun d => d.parameters.length) = some 0 := by decide +kernel
theorem gw_cw_X3_least : gx_cw mX3_least ∈ gx_tb := gx_ok (List.mem_of_getElem? (i := 832) (by decide +kernel)) (by decide +kernel)
theorem gp_X3_least : (gx_y mX3_least).cls ≠ "java/lang/invoke/MethodHandle" ∧ (gx_y mX3_least).cls ≠ "java/lang/invoke/VarHandle" ∧ (parseMethodDescriptor (gx_y mX3_least).desc).map (fun d => d.parameters.length) = some 1 := by decide +kernel
theorem gw_cw_X3_leastOf : gx_cw mX3_leastOf ∈ gx_tb := gx_ok (List.mem_of_getElem? (i := 498) (by decide +kernel)) (by decide +kernel)
theorem gp_X3_leastOf : (gx_y mX3_leastOf).cls ≠ "java/lang/invoke/MethodHandle" ∧ (gx_y mX3_leastOf).cls ≠ "java/lang/invoke/VarHandle" ∧ (parseMethodDescriptor (gx_y mX3_leastOf).desc).map (fun d => d.parameters.length) = some 1 := by decide +kernel
theorem gw_cw_X3_leastOfRight : gx_cw mX3_leastOfRight ∈ gx_tb := gx_ok (List.mem_of_getElem? (i := 494) (by decide +kernel)) (by decide +kernel)
theorem gp_X3_leastOfRight : (gx_y mX3_leastOfRight).cls ≠ "java/lang/invoke/MethodHandle" ∧ (gx_y mX3_leastOfRight).cls ≠ "java/lang/invoke/VarHandle" ∧ (parseMethodDescriptor (gx_y mX3_leastOfRight).desc).map (fun d => d.parameters.length) = some 1 := by decide +kernel
theorem gw_cw_X3_prediction : gx_cw mX3_prediction ∈ gx_tb := gx_ok (List.mem_of_getElem? (i := 614) (by decide +kernel)) (by decide +kernel)
theorem gp_X3_prediction : (gx_y mX3_prediction).cls ≠ "java/lang/invoke/MethodHandle" ∧ (gx_y mX3_prediction).cls ≠ "java/lang/invoke/VarHandle" ∧ (parseMethodDescriptor (gx_y mX3_prediction).desc).map (fun d => d.parameters.length) = some 1 := by decide +kernel
theorem gw_cw_X3_relate : gx_cw mX3_relate ∈ gx_tb := gx_ok (List.mem_of_getElem? (i := 467) (by decide +kernel)) (by decide +kernel)
theorem gp_X3_relate : (gx_y mX3_relate).cls ≠ "java/lang/invoke/MethodHandle" ∧ (gx_y mX3_relate).cls ≠ "java/lang/invoke/VarHandle" ∧ (parseMethodDescriptor (gx_y mX3_relate).desc).map (fun d => d.parameters.length) = some 2 := by decide +kernel
theorem gw_cw_X3_relatedToThemselves : gx_cw mX3_relatedToThemselves ∈ gx_tb := gx_ok (List.mem_of_getElem? (i := 482) (by decide +kernel)) (by decide +kernel)
theorem gp_X3_relatedToThemselves : (gx_y mX3_relatedToThemselves).cls ≠ "java/lang/invoke/MethodHandle" ∧ (gx_y mX3_relatedToThemselves).cls ≠ "java/lang/invoke/VarHandle" ∧ (parseMethodDescriptor (gx_y mX3_relatedToThemselves).desc).map (fun d => d.parameters.length) = some 0 := by decide +kernel
theorem gw_cw_X3_rest : gx_cw mX3_rest ∈ gx_tb := gx_ok (List.mem_of_getElem? (i := 553) (by decide +kernel)) (by decide +kernel)
theorem gp_X3_rest : (gx_y mX3_rest).cls ≠ "java/lang/invoke/MethodHandle" ∧ (gx_y mX3_rest).cls ≠ "java/lang/invoke/VarHandle" ∧ (parseMethodDescriptor (gx_y mX3_rest).desc).map (fun d => d.parameters.length) = some 1 := by decide +kernel
theorem gw_cw_X3_spell : gx_cw mX3_spell ∈ gx_tb := gx_ok (List.mem_of_getElem? (i := 513) (by decide +kernel)) (by decide +kernel)
theorem gp_X3_spell : (gx_y mX3_spell).cls ≠ "java/lang/invoke/MethodHandle" ∧ (gx_y mX3_spell).cls ≠ "java/lang/invoke/VarHandle" ∧ (parseMethodDescriptor (gx_y mX3_spell).desc).map (fun d => d.parameters.length) = some 1 := by decide +kernel
theorem gw_cw_X3_spelled : gx_cw mX3_spelled ∈ gx_tb := gx_ok (List.mem_of_getElem? (i := 1182) (by decide +kernel)) (by decide +kernel)
theorem gp_X3_spelled : (gx_y mX3_spelled).cls ≠ "java/lang/invoke/MethodHandle" ∧ (gx_y mX3_spelled).cls ≠ "java/lang/invoke/VarHandle" ∧ (parseMethodDescriptor (gx_y mX3_spelled).desc).map (fun d => d.parameters.length) = some 2 := by decide +kernel
theorem gw_cw_X3_vanishes : gx_cw mX3_vanishes ∈ gx_tb := gx_ok (List.mem_of_getElem? (i := 1120) (by decide +kernel)) (by decide +kernel)
theorem gp_X3_vanishes : (gx_y mX3_vanishes).cls ≠ "java/lang/invoke/MethodHandle" ∧ (gx_y mX3_vanishes).cls ≠ "java/lang/invoke/VarHandle" ∧ (parseMethodDescriptor (gx_y mX3_vanishes).desc).map (fun d => d.parameters.length) = some 1 := by decide +kernel
theorem gw_cw_X3_widen : gx_cw mX3_widen ∈ gx_tb := gx_ok (List.mem_of_getElem? (i := 437) (by decide +kernel)) (by decide +kernel)
theorem gp_X3_widen : (gx_y mX3_widen).cls ≠ "java/lang/invoke/MethodHandle" ∧ (gx_y mX3_widen).cls ≠ "java/lang/invoke/VarHandle" ∧ (parseMethodDescriptor (gx_y mX3_widen).desc).map (fun d => d.parameters.length) = some 3 := by decide +kernel
theorem gw_cw_X3_widenBehinds : gx_cw mX3_widenBehinds ∈ gx_tb := gx_ok (List.mem_of_getElem? (i := 449) (by decide +kernel)) (by decide +kernel)
theorem gp_X3_widenBehinds : (gx_y mX3_widenBehinds).cls ≠ "java/lang/invoke/MethodHandle" ∧ (gx_y mX3_widenBehinds).cls ≠ "java/lang/invoke/VarHandle" ∧ (parseMethodDescriptor (gx_y mX3_widenBehinds).desc).map (fun d => d.parameters.length) = some 1 := by decide +kernel
theorem gw_cw_X4_admit : gx_cw mX4_admit ∈ gx_tb := gx_ok (List.mem_of_getElem? (i := 951) (by decide +kernel)) (by decide +kernel)
theorem gp_X4_admit : (gx_y mX4_admit).cls ≠ "java/lang/invoke/MethodHandle" ∧ (gx_y mX4_admit).cls ≠ "java/lang/invoke/VarHandle" ∧ (parseMethodDescriptor (gx_y mX4_admit).desc).map (fun d => d.parameters.length) = some 1 := by decide +kernel
theorem gw_cw_X4_admitAll : gx_cw mX4_admitAll ∈ gx_tb := gx_ok (List.mem_of_getElem? (i := 1060) (by decide +kernel)) (by decide +kernel)
theorem gp_X4_admitAll : (gx_y mX4_admitAll).cls ≠ "java/lang/invoke/MethodHandle" ∧ (gx_y mX4_admitAll).cls ≠ "java/lang/invoke/VarHandle" ∧ (parseMethodDescriptor (gx_y mX4_admitAll).desc).map (fun d => d.parameters.length) = some 2 := by decide +kernel
theorem gw_cw_X4_count : gx_cw mX4_count ∈ gx_tb := gx_ok (List.mem_of_getElem? (i := 395) (by decide +kernel)) (by decide +kernel)
theorem gp_X4_count : (gx_y mX4_count).cls ≠ "java/lang/invoke/MethodHandle" ∧ (gx_y mX4_count).cls ≠ "java/lang/invoke/VarHandle" ∧ (parseMethodDescriptor (gx_y mX4_count).desc).map (fun d => d.parameters.length) = some 0 := by decide +kernel
theorem gw_cw_X4_dropLastRule : gx_cw mX4_dropLastRule ∈ gx_tb := gx_ok (List.mem_of_getElem? (i := 1023) (by decide +kernel)) (by decide +kernel)
theorem gp_X4_dropLastRule : (gx_y mX4_dropLastRule).cls ≠ "java/lang/invoke/MethodHandle" ∧ (gx_y mX4_dropLastRule).cls ≠ "java/lang/invoke/VarHandle" ∧ (parseMethodDescriptor (gx_y mX4_dropLastRule).desc).map (fun d => d.parameters.length) = some 0 := by decide +kernel
theorem gw_cw_X4_extend : gx_cw mX4_extend ∈ gx_tb := gx_ok (List.mem_of_getElem? (i := 979) (by decide +kernel)) (by decide +kernel)
theorem gp_X4_extend : (gx_y mX4_extend).cls ≠ "java/lang/invoke/MethodHandle" ∧ (gx_y mX4_extend).cls ≠ "java/lang/invoke/VarHandle" ∧ (parseMethodDescriptor (gx_y mX4_extend).desc).map (fun d => d.parameters.length) = some 1 := by decide +kernel
theorem gw_cw_X4_freeHelper : gx_cw mX4_freeHelper ∈ gx_tb := gx_ok (List.mem_of_getElem? (i := 968) (by decide +kernel)) (by decide +kernel)
theorem gp_X4_freeHelper : (gx_y mX4_freeHelper).cls ≠ "java/lang/invoke/MethodHandle" ∧ (gx_y mX4_freeHelper).cls ≠ "java/lang/invoke/VarHandle" ∧ (parseMethodDescriptor (gx_y mX4_freeHelper).desc).map (fun d => d.parameters.length) = some 0 := by decide +kernel
theorem gw_cw_X4_init : gx_cw mX4_init ∈ gx_tb := gx_ok (List.mem_of_getElem? (i := 48) (by decide +kernel)) (by decide +kernel)
theorem gp_X4_init : (gx_y mX4_init).cls ≠ "java/lang/invoke/MethodHandle" ∧ (gx_y mX4_init).cls ≠ "java/lang/invoke/VarHandle" ∧ (parseMethodDescriptor (gx_y mX4_init).desc).map (fun d => d.parameters.length) = some 0 := by decide +kernel
theorem gw_cw_X4_lastTerminal : gx_cw mX4_lastTerminal ∈ gx_tb := gx_ok (List.mem_of_getElem? (i := 681) (by decide +kernel)) (by decide +kernel)
theorem gp_X4_lastTerminal : (gx_y mX4_lastTerminal).cls ≠ "java/lang/invoke/MethodHandle" ∧ (gx_y mX4_lastTerminal).cls ≠ "java/lang/invoke/VarHandle" ∧ (parseMethodDescriptor (gx_y mX4_lastTerminal).desc).map (fun d => d.parameters.length) = some 1 := by decide +kernel
theorem gw_cw_X4_length : gx_cw mX4_length ∈ gx_tb := gx_ok (List.mem_of_getElem? (i := 426) (by decide +kernel)) (by decide +kernel)
theorem gp_X4_length : (gx_y mX4_length).cls ≠ "java/lang/invoke/MethodHandle" ∧ (gx_y mX4_length).cls ≠ "java/lang/invoke/VarHandle" ∧ (parseMethodDescriptor (gx_y mX4_length).desc).map (fun d => d.parameters.length) = some 1 := by decide +kernel
theorem gw_cw_X4_open : gx_cw mX4_open ∈ gx_tb := gx_ok (List.mem_of_getElem? (i := 975) (by decide +kernel)) (by decide +kernel)
theorem gp_X4_open : (gx_y mX4_open).cls ≠ "java/lang/invoke/MethodHandle" ∧ (gx_y mX4_open).cls ≠ "java/lang/invoke/VarHandle" ∧ (parseMethodDescriptor (gx_y mX4_open).desc).map (fun d => d.parameters.length) = some 1 := by decide +kernel
theorem gw_cw_X4_owner : gx_cw mX4_owner ∈ gx_tb := gx_ok (List.mem_of_getElem? (i := 418) (by decide +kernel)) (by decide +kernel)
theorem gp_X4_owner : (gx_y mX4_owner).cls ≠ "java/lang/invoke/MethodHandle" ∧ (gx_y mX4_owner).cls ≠ "java/lang/invoke/VarHandle" ∧ (parseMethodDescriptor (gx_y mX4_owner).desc).map (fun d => d.parameters.length) = some 1 := by decide +kernel
theorem gw_cw_X4_rules : gx_cw mX4_rules ∈ gx_tb := gx_ok (List.mem_of_getElem? (i := 1066) (by decide +kernel)) (by decide +kernel)
theorem gp_X4_rules : (gx_y mX4_rules).cls ≠ "java/lang/invoke/MethodHandle" ∧ (gx_y mX4_rules).cls ≠ "java/lang/invoke/VarHandle" ∧ (parseMethodDescriptor (gx_y mX4_rules).desc).map (fun d => d.parameters.length) = some 0 := by decide +kernel
theorem gw_cw_X4_setTop : gx_cw mX4_setTop ∈ gx_tb := gx_ok (List.mem_of_getElem? (i := 1078) (by decide +kernel)) (by decide +kernel)
theorem gp_X4_setTop : (gx_y mX4_setTop).cls ≠ "java/lang/invoke/MethodHandle" ∧ (gx_y mX4_setTop).cls ≠ "java/lang/invoke/VarHandle" ∧ (parseMethodDescriptor (gx_y mX4_setTop).desc).map (fun d => d.parameters.length) = some 1 := by decide +kernel
theorem gw_cw_X4_symbol : gx_cw mX4_symbol ∈ gx_tb := gx_ok (List.mem_of_getElem? (i := 430) (by decide +kernel)) (by decide +kernel)
theorem gp_X4_symbol : (gx_y mX4_symbol).cls ≠ "java/lang/invoke/MethodHandle" ∧ (gx_y mX4_symbol).cls ≠ "java/lang/invoke/VarHandle" ∧ (parseMethodDescriptor (gx_y mX4_symbol).desc).map (fun d => d.parameters.length) = some 2 := by decide +kernel
theorem gw_cw_X4_top : gx_cw mX4_top ∈ gx_tb := gx_ok (List.mem_of_getElem? (i := 445) (by decide +kernel)) (by decide +kernel)
theorem gp_X4_top : (gx_y mX4_top).cls ≠ "java/lang/invoke/MethodHandle" ∧ (gx_y mX4_top).cls ≠ "java/lang/invoke/VarHandle" ∧ (parseMethodDescriptor (gx_y mX4_top).desc).map (fun d => d.parameters.length) = some 0 := by decide +kernel
theorem gw_cw_X5_apply : gx_cw mX5_apply ∈ gx_tb := gx_ok (List.mem_of_getElem? (i := 1275) (by decide +kernel)) (by decide +kernel)
theorem gp_X5_apply : (gx_y mX5_apply).cls ≠ "java/lang/invoke/MethodHandle" ∧ (gx_y mX5_apply).cls ≠ "java/lang/invoke/VarHandle" ∧ (parseMethodDescriptor (gx_y mX5_apply).desc).map (fun d => d.parameters.length) = some 1 := by decide +kernel
theorem gw_cw_X5_cellsWith : gx_cw mX5_cellsWith ∈ gx_tb := gx_ok (List.mem_of_getElem? (i := 599) (by decide +kernel)) (by decide +kernel)
theorem gp_X5_cellsWith : (gx_y mX5_cellsWith).cls ≠ "java/lang/invoke/MethodHandle" ∧ (gx_y mX5_cellsWith).cls ≠ "java/lang/invoke/VarHandle" ∧ (parseMethodDescriptor (gx_y mX5_cellsWith).desc).map (fun d => d.parameters.length) = some 1 := by decide +kernel
theorem gw_cw_X5_clashes : gx_cw mX5_clashes ∈ gx_tb := gx_ok (List.mem_of_getElem? (i := 628) (by decide +kernel)) (by decide +kernel)
theorem gp_X5_clashes : (gx_y mX5_clashes).cls ≠ "java/lang/invoke/MethodHandle" ∧ (gx_y mX5_clashes).cls ≠ "java/lang/invoke/VarHandle" ∧ (parseMethodDescriptor (gx_y mX5_clashes).desc).map (fun d => d.parameters.length) = some 0 := by decide +kernel
theorem gw_cw_X5_countIn : gx_cw mX5_countIn ∈ gx_tb := gx_ok (List.mem_of_getElem? (i := 603) (by decide +kernel)) (by decide +kernel)
theorem gp_X5_countIn : (gx_y mX5_countIn).cls ≠ "java/lang/invoke/MethodHandle" ∧ (gx_y mX5_countIn).cls ≠ "java/lang/invoke/VarHandle" ∧ (parseMethodDescriptor (gx_y mX5_countIn).desc).map (fun d => d.parameters.length) = some 2 := by decide +kernel
theorem gw_cw_X5_easedClashes : gx_cw mX5_easedClashes ∈ gx_tb := gx_ok (List.mem_of_getElem? (i := 690) (by decide +kernel)) (by decide +kernel)
theorem gp_X5_easedClashes : (gx_y mX5_easedClashes).cls ≠ "java/lang/invoke/MethodHandle" ∧ (gx_y mX5_easedClashes).cls ≠ "java/lang/invoke/VarHandle" ∧ (parseMethodDescriptor (gx_y mX5_easedClashes).desc).map (fun d => d.parameters.length) = some 0 := by decide +kernel
theorem gw_cw_X5_extent : gx_cw mX5_extent ∈ gx_tb := gx_ok (List.mem_of_getElem? (i := 595) (by decide +kernel)) (by decide +kernel)
theorem gp_X5_extent : (gx_y mX5_extent).cls ≠ "java/lang/invoke/MethodHandle" ∧ (gx_y mX5_extent).cls ≠ "java/lang/invoke/VarHandle" ∧ (parseMethodDescriptor (gx_y mX5_extent).desc).map (fun d => d.parameters.length) = some 0 := by decide +kernel
theorem gw_cw_X5_init : gx_cw mX5_init ∈ gx_tb := gx_ok (List.mem_of_getElem? (i := 193) (by decide +kernel)) (by decide +kernel)
theorem gp_X5_init : (gx_y mX5_init).cls ≠ "java/lang/invoke/MethodHandle" ∧ (gx_y mX5_init).cls ≠ "java/lang/invoke/VarHandle" ∧ (parseMethodDescriptor (gx_y mX5_init).desc).map (fun d => d.parameters.length) = some 2 := by decide +kernel
theorem gw_cw_X5_isIn : gx_cw mX5_isIn ∈ gx_tb := gx_ok (List.mem_of_getElem? (i := 609) (by decide +kernel)) (by decide +kernel)
theorem gp_X5_isIn : (gx_y mX5_isIn).cls ≠ "java/lang/invoke/MethodHandle" ∧ (gx_y mX5_isIn).cls ≠ "java/lang/invoke/VarHandle" ∧ (parseMethodDescriptor (gx_y mX5_isIn).desc).map (fun d => d.parameters.length) = some 3 := by decide +kernel
theorem gw_cw_X5_lowestIn : gx_cw mX5_lowestIn ∈ gx_tb := gx_ok (List.mem_of_getElem? (i := 1271) (by decide +kernel)) (by decide +kernel)
theorem gp_X5_lowestIn : (gx_y mX5_lowestIn).cls ≠ "java/lang/invoke/MethodHandle" ∧ (gx_y mX5_lowestIn).cls ≠ "java/lang/invoke/VarHandle" ∧ (parseMethodDescriptor (gx_y mX5_lowestIn).desc).map (fun d => d.parameters.length) = some 2 := by decide +kernel
theorem gw_cw_X5_next : gx_cw mX5_next ∈ gx_tb := gx_ok (List.mem_of_getElem? (i := 1260) (by decide +kernel)) (by decide +kernel)
theorem gp_X5_next : (gx_y mX5_next).cls ≠ "java/lang/invoke/MethodHandle" ∧ (gx_y mX5_next).cls ≠ "java/lang/invoke/VarHandle" ∧ (parseMethodDescriptor (gx_y mX5_next).desc).map (fun d => d.parameters.length) = some 0 := by decide +kernel
theorem gw_cw_X5_pop : gx_cw mX5_pop ∈ gx_tb := gx_ok (List.mem_of_getElem? (i := 1256) (by decide +kernel)) (by decide +kernel)
theorem gp_X5_pop : (gx_y mX5_pop).cls ≠ "java/lang/invoke/MethodHandle" ∧ (gx_y mX5_pop).cls ≠ "java/lang/invoke/VarHandle" ∧ (parseMethodDescriptor (gx_y mX5_pop).desc).map (fun d => d.parameters.length) = some 0 := by decide +kernel
theorem gw_cw_X5_push : gx_cw mX5_push ∈ gx_tb := gx_ok (List.mem_of_getElem? (i := 1241) (by decide +kernel)) (by decide +kernel)
theorem gp_X5_push : (gx_y mX5_push).cls ≠ "java/lang/invoke/MethodHandle" ∧ (gx_y mX5_push).cls ≠ "java/lang/invoke/VarHandle" ∧ (parseMethodDescriptor (gx_y mX5_push).desc).map (fun d => d.parameters.length) = some 1 := by decide +kernel
theorem gw_cw_X5_run : gx_cw mX5_run ∈ gx_tb := gx_ok (List.mem_of_getElem? (i := 1236) (by decide +kernel)) (by decide +kernel)
theorem gp_X5_run : (gx_y mX5_run).cls ≠ "java/lang/invoke/MethodHandle" ∧ (gx_y mX5_run).cls ≠ "java/lang/invoke/VarHandle" ∧ (parseMethodDescriptor (gx_y mX5_run).desc).map (fun d => d.parameters.length) = some 0 := by decide +kernel
theorem gw_cw_X5_worthOfTree : gx_cw mX5_worthOfTree ∈ gx_tb := gx_ok (List.mem_of_getElem? (i := 1248) (by decide +kernel)) (by decide +kernel)
theorem gp_X5_worthOfTree : (gx_y mX5_worthOfTree).cls ≠ "java/lang/invoke/MethodHandle" ∧ (gx_y mX5_worthOfTree).cls ≠ "java/lang/invoke/VarHandle" ∧ (parseMethodDescriptor (gx_y mX5_worthOfTree).desc).map (fun d => d.parameters.length) = some 0 := by decide +kernel
theorem gw_cw_X6_blank : gx_cw mX6_blank ∈ gx_tb := gx_ok (List.mem_of_getElem? (i := 746) (by decide +kernel)) (by decide +kernel)
theorem gp_X6_blank : (gx_y mX6_blank).cls ≠ "java/lang/invoke/MethodHandle" ∧ (gx_y mX6_blank).cls ≠ "java/lang/invoke/VarHandle" ∧ (parseMethodDescriptor (gx_y mX6_blank).desc).map (fun d => d.parameters.length) = some 2 := by decide +kernel
theorem gw_cw_X6_both : gx_cw mX6_both ∈ gx_tb := gx_ok (List.mem_of_getElem? (i := 789) (by decide +kernel)) (by decide +kernel)
theorem gp_X6_both : (gx_y mX6_both).cls ≠ "java/lang/invoke/MethodHandle" ∧ (gx_y mX6_both).cls ≠ "java/lang/invoke/VarHandle" ∧ (parseMethodDescriptor (gx_y mX6_both).desc).map (fun d => d.parameters.length) = some 2 := by decide +kernel
theorem gw_cw_X6_either : gx_cw mX6_either ∈ gx_tb := gx_ok (List.mem_of_getElem? (i := 799) (by decide +kernel)) (by decide +kernel)
theorem gp_X6_either : (gx_y mX6_either).cls ≠ "java/lang/invoke/MethodHandle" ∧ (gx_y mX6_either).cls ≠ "java/lang/invoke/VarHandle" ∧ (parseMethodDescriptor (gx_y mX6_either).desc).map (fun d => d.parameters.length) = some 2 := by decide +kernel
theorem gw_cw_X6_init : gx_cw mX6_init ∈ gx_tb := gx_ok (List.mem_of_getElem? (i := 293) (by decide +kernel)) (by decide +kernel)
theorem gp_X6_init : (gx_y mX6_init).cls ≠ "java/lang/invoke/MethodHandle" ∧ (gx_y mX6_init).cls ≠ "java/lang/invoke/VarHandle" ∧ (parseMethodDescriptor (gx_y mX6_init).desc).map (fun d => d.parameters.length) = some 4 := by decide +kernel
theorem gw_cw_X6_none : gx_cw mX6_none ∈ gx_tb := gx_ok (List.mem_of_getElem? (i := 717) (by decide +kernel)) (by decide +kernel)
theorem gp_X6_none : (gx_y mX6_none).cls ≠ "java/lang/invoke/MethodHandle" ∧ (gx_y mX6_none).cls ≠ "java/lang/invoke/VarHandle" ∧ (parseMethodDescriptor (gx_y mX6_none).desc).map (fun d => d.parameters.length) = some 0 := by decide +kernel
theorem gw_cw_X6_ofNonterminal : gx_cw mX6_ofNonterminal ∈ gx_tb := gx_ok (List.mem_of_getElem? (i := 818) (by decide +kernel)) (by decide +kernel)
theorem gp_X6_ofNonterminal : (gx_y mX6_ofNonterminal).cls ≠ "java/lang/invoke/MethodHandle" ∧ (gx_y mX6_ofNonterminal).cls ≠ "java/lang/invoke/VarHandle" ∧ (parseMethodDescriptor (gx_y mX6_ofNonterminal).desc).map (fun d => d.parameters.length) = some 2 := by decide +kernel
theorem gw_cw_X6_ofTerminal : gx_cw mX6_ofTerminal ∈ gx_tb := gx_ok (List.mem_of_getElem? (i := 772) (by decide +kernel)) (by decide +kernel)
theorem gp_X6_ofTerminal : (gx_y mX6_ofTerminal).cls ≠ "java/lang/invoke/MethodHandle" ∧ (gx_y mX6_ofTerminal).cls ≠ "java/lang/invoke/VarHandle" ∧ (parseMethodDescriptor (gx_y mX6_ofTerminal).desc).map (fun d => d.parameters.length) = some 3 := by decide +kernel
theorem gw_cw_X7_closeBracket : gx_cw mX7_closeBracket ∈ gx_tb := gx_ok (List.mem_of_getElem? (i := 989) (by decide +kernel)) (by decide +kernel)
theorem gp_X7_closeBracket : (gx_y mX7_closeBracket).cls ≠ "java/lang/invoke/MethodHandle" ∧ (gx_y mX7_closeBracket).cls ≠ "java/lang/invoke/VarHandle" ∧ (parseMethodDescriptor (gx_y mX7_closeBracket).desc).map (fun d => d.parameters.length) = some 1 := by decide +kernel
theorem gw_cw_X7_init : gx_cw mX7_init ∈ gx_tb := gx_ok (List.mem_of_getElem? (i := 57) (by decide +kernel)) (by decide +kernel)
theorem gp_X7_init : (gx_y mX7_init).cls ≠ "java/lang/invoke/MethodHandle" ∧ (gx_y mX7_init).cls ≠ "java/lang/invoke/VarHandle" ∧ (parseMethodDescriptor (gx_y mX7_init).desc).map (fun d => d.parameters.length) = some 0 := by decide +kernel
theorem gw_cw_X7_push : gx_cw mX7_push ∈ gx_tb := gx_ok (List.mem_of_getElem? (i := 984) (by decide +kernel)) (by decide +kernel)
theorem gp_X7_push : (gx_y mX7_push).cls ≠ "java/lang/invoke/MethodHandle" ∧ (gx_y mX7_push).cls ≠ "java/lang/invoke/VarHandle" ∧ (parseMethodDescriptor (gx_y mX7_push).desc).map (fun d => d.parameters.length) = some 1 := by decide +kernel
theorem gw_cw_X7_read : gx_cw mX7_read ∈ gx_tb := gx_ok (List.mem_of_getElem? (i := 955) (by decide +kernel)) (by decide +kernel)
theorem gp_X7_read : (gx_y mX7_read).cls ≠ "java/lang/invoke/MethodHandle" ∧ (gx_y mX7_read).cls ≠ "java/lang/invoke/VarHandle" ∧ (parseMethodDescriptor (gx_y mX7_read).desc).map (fun d => d.parameters.length) = some 2 := by decide +kernel
theorem gw_cw_X7_release : gx_cw mX7_release ∈ gx_tb := gx_ok (List.mem_of_getElem? (i := 993) (by decide +kernel)) (by decide +kernel)
theorem gp_X7_release : (gx_y mX7_release).cls ≠ "java/lang/invoke/MethodHandle" ∧ (gx_y mX7_release).cls ≠ "java/lang/invoke/VarHandle" ∧ (parseMethodDescriptor (gx_y mX7_release).desc).map (fun d => d.parameters.length) = some 3 := by decide +kernel
theorem gw_cw_X7_wrap : gx_cw mX7_wrap ∈ gx_tb := gx_ok (List.mem_of_getElem? (i := 964) (by decide +kernel)) (by decide +kernel)
theorem gp_X7_wrap : (gx_y mX7_wrap).cls ≠ "java/lang/invoke/MethodHandle" ∧ (gx_y mX7_wrap).cls ≠ "java/lang/invoke/VarHandle" ∧ (parseMethodDescriptor (gx_y mX7_wrap).desc).map (fun d => d.parameters.length) = some 3 := by decide +kernel
theorem gw_cw_X8_append : gx_cw mX8_append ∈ gx_tb := gx_ok (List.mem_of_getElem? (i := 939) (by decide +kernel)) (by decide +kernel)
theorem gp_X8_append : (gx_y mX8_append).cls ≠ "java/lang/invoke/MethodHandle" ∧ (gx_y mX8_append).cls ≠ "java/lang/invoke/VarHandle" ∧ (parseMethodDescriptor (gx_y mX8_append).desc).map (fun d => d.parameters.length) = some 1 := by decide +kernel
theorem gw_cw_X8_clear : gx_cw mX8_clear ∈ gx_tb := gx_ok (List.mem_of_getElem? (i := 360) (by decide +kernel)) (by decide +kernel)
theorem gp_X8_clear : (gx_y mX8_clear).cls ≠ "java/lang/invoke/MethodHandle" ∧ (gx_y mX8_clear).cls ≠ "java/lang/invoke/VarHandle" ∧ (parseMethodDescriptor (gx_y mX8_clear).desc).map (fun d => d.parameters.length) = some 0 := by decide +kernel
theorem gw_cw_X8_copyRenamed : gx_cw mX8_copyRenamed ∈ gx_tb := gx_ok (List.mem_of_getElem? (i := 998) (by decide +kernel)) (by decide +kernel)
theorem gp_X8_copyRenamed : (gx_y mX8_copyRenamed).cls ≠ "java/lang/invoke/MethodHandle" ∧ (gx_y mX8_copyRenamed).cls ≠ "java/lang/invoke/VarHandle" ∧ (parseMethodDescriptor (gx_y mX8_copyRenamed).desc).map (fun d => d.parameters.length) = some 2 := by decide +kernel
theorem gw_cw_X8_firstFault : gx_cw mX8_firstFault ∈ gx_tb := gx_ok (List.mem_of_getElem? (i := 368) (by decide +kernel)) (by decide +kernel)
theorem gp_X8_firstFault : (gx_y mX8_firstFault).cls ≠ "java/lang/invoke/MethodHandle" ∧ (gx_y mX8_firstFault).cls ≠ "java/lang/invoke/VarHandle" ∧ (parseMethodDescriptor (gx_y mX8_firstFault).desc).map (fun d => d.parameters.length) = some 0 := by decide +kernel
theorem gw_cw_X8_init : gx_cw mX8_init ∈ gx_tb := gx_ok (List.mem_of_getElem? (i := 34) (by decide +kernel)) (by decide +kernel)
theorem gp_X8_init : (gx_y mX8_init).cls ≠ "java/lang/invoke/MethodHandle" ∧ (gx_y mX8_init).cls ≠ "java/lang/invoke/VarHandle" ∧ (parseMethodDescriptor (gx_y mX8_init).desc).map (fun d => d.parameters.length) = some 0 := by decide +kernel
theorem gw_cw_X8_isFull : gx_cw mX8_isFull ∈ gx_tb := gx_ok (List.mem_of_getElem? (i := 919) (by decide +kernel)) (by decide +kernel)
theorem gp_X8_isFull : (gx_y mX8_isFull).cls ≠ "java/lang/invoke/MethodHandle" ∧ (gx_y mX8_isFull).cls ≠ "java/lang/invoke/VarHandle" ∧ (parseMethodDescriptor (gx_y mX8_isFull).desc).map (fun d => d.parameters.length) = some 0 := by decide +kernel
theorem gw_cw_X8_length : gx_cw mX8_length ∈ gx_tb := gx_ok (List.mem_of_getElem? (i := 959) (by decide +kernel)) (by decide +kernel)
theorem gp_X8_length : (gx_y mX8_length).cls ≠ "java/lang/invoke/MethodHandle" ∧ (gx_y mX8_length).cls ≠ "java/lang/invoke/VarHandle" ∧ (parseMethodDescriptor (gx_y mX8_length).desc).map (fun d => d.parameters.length) = some 0 := by decide +kernel
theorem gw_cw_X8_letter : gx_cw mX8_letter ∈ gx_tb := gx_ok (List.mem_of_getElem? (i := 372) (by decide +kernel)) (by decide +kernel)
theorem gp_X8_letter : (gx_y mX8_letter).cls ≠ "java/lang/invoke/MethodHandle" ∧ (gx_y mX8_letter).cls ≠ "java/lang/invoke/VarHandle" ∧ (parseMethodDescriptor (gx_y mX8_letter).desc).map (fun d => d.parameters.length) = some 1 := by decide +kernel
theorem gw_cw_X8_stateBehind : gx_cw mX8_stateBehind ∈ gx_tb := gx_ok (List.mem_of_getElem? (i := 375) (by decide +kernel)) (by decide +kernel)
theorem gp_X8_stateBehind : (gx_y mX8_stateBehind).cls ≠ "java/lang/invoke/MethodHandle" ∧ (gx_y mX8_stateBehind).cls ≠ "java/lang/invoke/VarHandle" ∧ (parseMethodDescriptor (gx_y mX8_stateBehind).desc).map (fun d => d.parameters.length) = some 3 := by decide +kernel
theorem gw_cw_X8_stateInChoice : gx_cw mX8_stateInChoice ∈ gx_tb := gx_ok (List.mem_of_getElem? (i := 384) (by decide +kernel)) (by decide +kernel)
theorem gp_X8_stateInChoice : (gx_y mX8_stateInChoice).cls ≠ "java/lang/invoke/MethodHandle" ∧ (gx_y mX8_stateInChoice).cls ≠ "java/lang/invoke/VarHandle" ∧ (parseMethodDescriptor (gx_y mX8_stateInChoice).desc).map (fun d => d.parameters.length) = some 3 := by decide +kernel
theorem gw_cw_X9_action : gx_cw mX9_action ∈ gx_tb := gx_ok (List.mem_of_getElem? (i := 1291) (by decide +kernel)) (by decide +kernel)
theorem gp_X9_action : (gx_y mX9_action).cls ≠ "java/lang/invoke/MethodHandle" ∧ (gx_y mX9_action).cls ≠ "java/lang/invoke/VarHandle" ∧ (parseMethodDescriptor (gx_y mX9_action).desc).map (fun d => d.parameters.length) = some 2 := by decide +kernel
theorem gw_cw_X9_cellsInConflict : gx_cw mX9_cellsInConflict ∈ gx_tb := gx_ok (List.mem_of_getElem? (i := 635) (by decide +kernel)) (by decide +kernel)
theorem gp_X9_cellsInConflict : (gx_y mX9_cellsInConflict).cls ≠ "java/lang/invoke/MethodHandle" ∧ (gx_y mX9_cellsInConflict).cls ≠ "java/lang/invoke/VarHandle" ∧ (parseMethodDescriptor (gx_y mX9_cellsInConflict).desc).map (fun d => d.parameters.length) = some 1 := by decide +kernel
theorem gw_cw_X9_clashes : gx_cw mX9_clashes ∈ gx_tb := gx_ok (List.mem_of_getElem? (i := 631) (by decide +kernel)) (by decide +kernel)
theorem gp_X9_clashes : (gx_y mX9_clashes).cls ≠ "java/lang/invoke/MethodHandle" ∧ (gx_y mX9_clashes).cls ≠ "java/lang/invoke/VarHandle" ∧ (parseMethodDescriptor (gx_y mX9_clashes).desc).map (fun d => d.parameters.length) = some 0 := by decide +kernel
theorem gw_cw_X9_easedClashes : gx_cw mX9_easedClashes ∈ gx_tb := gx_ok (List.mem_of_getElem? (i := 693) (by decide +kernel)) (by decide +kernel)
theorem gp_X9_easedClashes : (gx_y mX9_easedClashes).cls ≠ "java/lang/invoke/MethodHandle" ∧ (gx_y mX9_easedClashes).cls ≠ "java/lang/invoke/VarHandle" ∧ (parseMethodDescriptor (gx_y mX9_easedClashes).desc).map (fun d => d.parameters.length) = some 0 := by decide +kernel
theorem gw_cw_X9_extent : gx_cw mX9_extent ∈ gx_tb := gx_ok (List.mem_of_getElem? (i := 618) (by decide +kernel)) (by decide +kernel)
theorem gp_X9_extent : (gx_y mX9_extent).cls ≠ "java/lang/invoke/MethodHandle" ∧ (gx_y mX9_extent).cls ≠ "java/lang/invoke/VarHandle" ∧ (parseMethodDescriptor (gx_y mX9_extent).desc).map (fun d => d.parameters.length) = some 0 := by decide +kernel
theorem gw_cw_X9_init : gx_cw mX9_init ∈ gx_tb := gx_ok (List.mem_of_getElem? (i := 224) (by decide +kernel)) (by decide +kernel)
theorem gp_X9_init : (gx_y mX9_init).cls ≠ "java/lang/invoke/MethodHandle" ∧ (gx_y mX9_init).cls ≠ "java/lang/invoke/VarHandle" ∧ (parseMethodDescriptor (gx_y mX9_init).desc).map (fun d => d.parameters.length) = some 5 := by decide +kernel
theorem gw_cw_X9_isConflict : gx_cw mX9_isConflict ∈ gx_tb := gx_ok (List.mem_of_getElem? (i := 665) (by decide +kernel)) (by decide +kernel)
theorem gp_X9_isConflict : (gx_y mX9_isConflict).cls ≠ "java/lang/invoke/MethodHandle" ∧ (gx_y mX9_isConflict).cls ≠ "java/lang/invoke/VarHandle" ∧ (parseMethodDescriptor (gx_y mX9_isConflict).desc).map (fun d => d.parameters.length) = some 0 := by decide +kernel
theorem gw_cw_X9_isSettled : gx_cw mX9_isSettled ∈ gx_tb := gx_ok (List.mem_of_getElem? (i := 669) (by decide +kernel)) (by decide +kernel)
theorem gp_X9_isSettled : (gx_y mX9_isSettled).cls ≠ "java/lang/invoke/MethodHandle" ∧ (gx_y mX9_isSettled).cls ≠ "java/lang/invoke/VarHandle" ∧ (parseMethodDescriptor (gx_y mX9_isSettled).desc).map (fun d => d.parameters.length) = some 1 := by decide +kernel
theorem gw_cw_X9_levelOf : gx_cw mX9_levelOf ∈ gx_tb := gx_ok (List.mem_of_getElem? (i := 673) (by decide +kernel)) (by decide +kernel)
theorem gp_X9_levelOf : (gx_y mX9_levelOf).cls ≠ "java/lang/invoke/MethodHandle" ∧ (gx_y mX9_levelOf).cls ≠ "java/lang/invoke/VarHandle" ∧ (parseMethodDescriptor (gx_y mX9_levelOf).desc).map (fun d => d.parameters.length) = some 1 := by decide +kernel
theorem gw_cw_X9_levelOfLowest : gx_cw mX9_levelOfLowest ∈ gx_tb := gx_ok (List.mem_of_getElem? (i := 677) (by decide +kernel)) (by decide +kernel)
theorem gp_X9_levelOfLowest : (gx_y mX9_levelOfLowest).cls ≠ "java/lang/invoke/MethodHandle" ∧ (gx_y mX9_levelOfLowest).cls ≠ "java/lang/invoke/VarHandle" ∧ (parseMethodDescriptor (gx_y mX9_levelOfLowest).desc).map (fun d => d.parameters.length) = some 0 := by decide +kernel
theorem gw_cw_X9_push : gx_cw mX9_push ∈ gx_tb := gx_ok (List.mem_of_getElem? (i := 1282) (by decide +kernel)) (by decide +kernel)
theorem gp_X9_push : (gx_y mX9_push).cls ≠ "java/lang/invoke/MethodHandle" ∧ (gx_y mX9_push).cls ≠ "java/lang/invoke/VarHandle" ∧ (parseMethodDescriptor (gx_y mX9_push).desc).map (fun d => d.parameters.length) = some 2 := by decide +kernel
theorem gw_cw_X9_readCell : gx_cw mX9_readCell ∈ gx_tb := gx_ok (List.mem_of_getElem? (i := 639) (by decide +kernel)) (by decide +kernel)
theorem gp_X9_readCell : (gx_y mX9_readCell).cls ≠ "java/lang/invoke/MethodHandle" ∧ (gx_y mX9_readCell).cls ≠ "java/lang/invoke/VarHandle" ∧ (parseMethodDescriptor (gx_y mX9_readCell).desc).map (fun d => d.parameters.length) = some 2 := by decide +kernel
theorem gw_cw_X9_reduce : gx_cw mX9_reduce ∈ gx_tb := gx_ok (List.mem_of_getElem? (i := 1306) (by decide +kernel)) (by decide +kernel)
theorem gp_X9_reduce : (gx_y mX9_reduce).cls ≠ "java/lang/invoke/MethodHandle" ∧ (gx_y mX9_reduce).cls ≠ "java/lang/invoke/VarHandle" ∧ (parseMethodDescriptor (gx_y mX9_reduce).desc).map (fun d => d.parameters.length) = some 1 := by decide +kernel
theorem gw_cw_X9_reducedBy : gx_cw mX9_reducedBy ∈ gx_tb := gx_ok (List.mem_of_getElem? (i := 658) (by decide +kernel)) (by decide +kernel)
theorem gp_X9_reducedBy : (gx_y mX9_reducedBy).cls ≠ "java/lang/invoke/MethodHandle" ∧ (gx_y mX9_reducedBy).cls ≠ "java/lang/invoke/VarHandle" ∧ (parseMethodDescriptor (gx_y mX9_reducedBy).desc).map (fun d => d.parameters.length) = some 2 := by decide +kernel
theorem gw_cw_X9_run : gx_cw mX9_run ∈ gx_tb := gx_ok (List.mem_of_getElem? (i := 1278) (by decide +kernel)) (by decide +kernel)
theorem gp_X9_run : (gx_y mX9_run).cls ≠ "java/lang/invoke/MethodHandle" ∧ (gx_y mX9_run).cls ≠ "java/lang/invoke/VarHandle" ∧ (parseMethodDescriptor (gx_y mX9_run).desc).map (fun d => d.parameters.length) = some 0 := by decide +kernel
theorem gw_cw_X9_settledAction : gx_cw mX9_settledAction ∈ gx_tb := gx_ok (List.mem_of_getElem? (i := 1295) (by decide +kernel)) (by decide +kernel)
theorem gp_X9_settledAction : (gx_y mX9_settledAction).cls ≠ "java/lang/invoke/MethodHandle" ∧ (gx_y mX9_settledAction).cls ≠ "java/lang/invoke/VarHandle" ∧ (parseMethodDescriptor (gx_y mX9_settledAction).desc).map (fun d => d.parameters.length) = some 1 := by decide +kernel
theorem gw_cw_X9_state : gx_cw mX9_state ∈ gx_tb := gx_ok (List.mem_of_getElem? (i := 1287) (by decide +kernel)) (by decide +kernel)
theorem gp_X9_state : (gx_y mX9_state).cls ≠ "java/lang/invoke/MethodHandle" ∧ (gx_y mX9_state).cls ≠ "java/lang/invoke/VarHandle" ∧ (parseMethodDescriptor (gx_y mX9_state).desc).map (fun d => d.parameters.length) = some 0 := by decide +kernel
theorem gw_cw_X9_worthOfTop : gx_cw mX9_worthOfTop ∈ gx_tb := gx_ok (List.mem_of_getElem? (i := 1299) (by decide +kernel)) (by decide +kernel)
theorem gp_X9_worthOfTop : (gx_y mX9_worthOfTop).cls ≠ "java/lang/invoke/MethodHandle" ∧ (gx_y mX9_worthOfTop).cls ≠ "java/lang/invoke/VarHandle" ∧ (parseMethodDescriptor (gx_y mX9_worthOfTop).desc).map (fun d => d.parameters.length) = some 0 := by decide +kernel
theorem gt_105_107_109 : gx_thok 105 107 109 gx_IAE "no letter of a rule" := ⟨gx_ok (by decide +kernel) (by decide +kernel), gx_ok (by decide +kernel) (by decide +kernel), by decide +kernel, by decide +kernel, by decide +kernel, by decide +kernel⟩
theorem gt_105_132_109 : gx_thok 105 132 109 gx_IAE "the text is no rule" := ⟨gx_ok (by decide +kernel) (by decide +kernel), gx_ok (by decide +kernel) (by decide +kernel), by decide +kernel, by decide +kernel, by decide +kernel, by decide +kernel⟩
theorem gt_105_160_109 : gx_thok 105 160 109 gx_IAE "no such shift" := ⟨gx_ok (by decide +kernel) (by decide +kernel), gx_ok (by decide +kernel) (by decide +kernel), by decide +kernel, by decide +kernel, by decide +kernel, by decide +kernel⟩
theorem gt_105_186_109 : gx_thok 105 186 109 gx_IAE "no such level" := ⟨gx_ok (by decide +kernel) (by decide +kernel), gx_ok (by decide +kernel) (by decide +kernel), by decide +kernel, by decide +kernel, by decide +kernel, by decide +kernel⟩
theorem gt_116_118_120 : gx_thok 116 118 120 gx_ISE "the text has 24 letters" := ⟨gx_ok (by decide +kernel) (by decide +kernel), gx_ok (by decide +kernel) (by decide +kernel), by decide +kernel, by decide +kernel, by decide +kernel, by decide +kernel⟩
theorem gt_116_138_120 : gx_thok 116 138 120 gx_ISE "the grammar has no room for the rule" := ⟨gx_ok (by decide +kernel) (by decide +kernel), gx_ok (by decide +kernel) (by decide +kernel), by decide +kernel, by decide +kernel, by decide +kernel, by decide +kernel⟩
theorem gt_116_149_120 : gx_thok 116 149 120 gx_ISE "there is no rule" := ⟨gx_ok (by decide +kernel) (by decide +kernel), gx_ok (by decide +kernel) (by decide +kernel), by decide +kernel, by decide +kernel, by decide +kernel, by decide +kernel⟩
theorem gt_116_166_120 : gx_thok 116 166 120 gx_ISE "the grammar has no room for the rules" := ⟨gx_ok (by decide +kernel) (by decide +kernel), gx_ok (by decide +kernel) (by decide +kernel), by decide +kernel, by decide +kernel, by decide +kernel, by decide +kernel⟩
theorem gt_116_229_120 : gx_thok 116 229 120 gx_ISE "no terminal is there" := ⟨gx_ok (by decide +kernel) (by decide +kernel), gx_ok (by decide +kernel) (by decide +kernel), by decide +kernel, by decide +kernel, by decide +kernel, by decide +kernel⟩
theorem gt_116_257_120 : gx_thok 116 257 120 gx_ISE "the sentence has 12 terminals" := ⟨gx_ok (by decide +kernel) (by decide +kernel), gx_ok (by decide +kernel) (by decide +kernel), by decide +kernel, by decide +kernel, by decide +kernel, by decide +kernel⟩
theorem gt_116_262_120 : gx_thok 116 262 120 gx_ISE "the sentence is not accepted" := ⟨gx_ok (by decide +kernel) (by decide +kernel), gx_ok (by decide +kernel) (by decide +kernel), by decide +kernel, by decide +kernel, by decide +kernel, by decide +kernel⟩
theorem gt_151_153_155 : gx_thok 151 153 155 gx_IOB "no such grammar" := ⟨gx_ok (by decide +kernel) (by decide +kernel), gx_ok (by decide +kernel) (by decide +kernel), by decide +kernel, by decide +kernel, by decide +kernel, by decide +kernel⟩
theorem gt_151_171_155 : gx_thok 151 171 155 gx_IOB "no such nonterminal" := ⟨gx_ok (by decide +kernel) (by decide +kernel), gx_ok (by decide +kernel) (by decide +kernel), by decide +kernel, by decide +kernel, by decide +kernel, by decide +kernel⟩
theorem gt_151_184_155 : gx_thok 151 184 155 gx_IOB "no such terminal or side" := ⟨gx_ok (by decide +kernel) (by decide +kernel), gx_ok (by decide +kernel) (by decide +kernel), by decide +kernel, by decide +kernel, by decide +kernel, by decide +kernel⟩
theorem gt_151_188_155 : gx_thok 151 188 155 gx_IOB "no such production" := ⟨gx_ok (by decide +kernel) (by decide +kernel), gx_ok (by decide +kernel) (by decide +kernel), by decide +kernel, by decide +kernel, by decide +kernel, by decide +kernel⟩
theorem gt_151_194_155 : gx_thok 151 194 155 gx_IOB "no such production or place" := ⟨gx_ok (by decide +kernel) (by decide +kernel), gx_ok (by decide +kernel) (by decide +kernel), by decide +kernel, by decide +kernel, by decide +kernel, by decide +kernel⟩
theorem gt_151_227_155 : gx_thok 151 227 155 gx_IOB "no such place" := ⟨gx_ok (by decide +kernel) (by decide +kernel), gx_ok (by decide +kernel) (by decide +kernel), by decide +kernel, by decide +kernel, by decide +kernel, by decide +kernel⟩
theorem gt_151_255_155 : gx_thok 151 255 155 gx_IOB "no such place or terminal" := ⟨gx_ok (by decide +kernel) (by decide +kernel), gx_ok (by decide +kernel) (by decide +kernel), by decide +kernel, by decide +kernel, by decide +kernel, by decide +kernel⟩
theorem gt_151_278_155 : gx_thok 151 278 155 gx_IOB "no such kind" := ⟨gx_ok (by decide +kernel) (by decide +kernel), gx_ok (by decide +kernel) (by decide +kernel), by decide +kernel, by decide +kernel, by decide +kernel, by decide +kernel⟩
