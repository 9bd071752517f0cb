theorem dX3_leastOfRight_31 : decode cX3_leastOfRight 31 = .ok (.iload 4, 2) := by decide +kernel
theorem dX3_leastOfRight_33 : decode cX3_leastOfRight 33 = .ok (.iconst (-1), 1) := by decide +kernel
theorem dX3_leastOfRight_34 : decode cX3_leastOfRight 34 = .ok (.if_icmp .ne 5, 3) := by decide +kernel
theorem dX3_leastOfRight_37 : decode cX3_leastOfRight 37 = .ok (.iconst (-1), 1) := by decide +kernel
theorem dX3_leastOfRight_38 : decode cX3_leastOfRight 38 = .ok (.ireturn, 1) := by decide +kernel
theorem dX3_leastOfRight_39 : decode cX3_leastOfRight 39 = .ok (.bipush 99, 2) := by decide +kernel
theorem dX3_leastOfRight_41 : decode cX3_leastOfRight 41 = .ok (.iload_n 2, 1) := by decide +kernel
theorem dX3_leastOfRight_42 : decode cX3_leastOfRight 42 = .ok (.iload 4, 2) := by decide +kernel
theorem dX3_leastOfRight_44 : decode cX3_leastOfRight 44 = .ok (.iadd, 1) := by decide +kernel
theorem dX3_leastOfRight_45 : decode cX3_leastOfRight 45 = .ok (.invokestatic 155, 3) := by decide +kernel
theorem dX3_leastOfRight_48 : decode cX3_leastOfRight 48 = .ok (.istore_n 2, 1) := by decide +kernel
theorem dX3_leastOfRight_49 : decode cX3_leastOfRight 49 = .ok (.iinc 3 1, 3) := by decide +kernel
theorem dX3_leastOfRight_52 : decode cX3_leastOfRight 52 = .ok (.goto (-48), 3) := by decide +kernel
theorem dX3_leastOfRight_55 : decode cX3_leastOfRight 55 = .ok (.iload_n 2, 1) := by decide +kernel
theorem dX3_leastOfRight_56 : decode cX3_leastOfRight 56 = .ok (.ireturn, 1) := by decide +kernel
theorem dX3_findSpellings_0 : decode cX3_findSpellings 0 = .ok (.aload_n 0, 1) := by decide +kernel
theorem dX3_findSpellings_1 : decode cX3_findSpellings 1 = .ok (.sipush 255, 3) := by decide +kernel
theorem dX3_findSpellings_4 : decode cX3_findSpellings 4 = .ok (.putfield 160, 3) := by decide +kernel
theorem dX3_findSpellings_7 : decode cX3_findSpellings 7 = .ok (.iconst 0, 1) := by decide +kernel
theorem dX3_findSpellings_8 : decode cX3_findSpellings 8 = .ok (.istore_n 1, 1) := by decide +kernel
theorem dX3_findSpellings_9 : decode cX3_findSpellings 9 = .ok (.iload_n 1, 1) := by decide +kernel
theorem dX3_findSpellings_10 : decode cX3_findSpellings 10 = .ok (.bipush 8, 2) := by decide +kernel
theorem dX3_findSpellings_12 : decode cX3_findSpellings 12 = .ok (.if_icmp .ge 17, 3) := by decide +kernel
theorem dX3_findSpellings_15 : decode cX3_findSpellings 15 = .ok (.aload_n 0, 1) := by decide +kernel
theorem dX3_findSpellings_16 : decode cX3_findSpellings 16 = .ok (.getfield 24, 3) := by decide +kernel
theorem dX3_findSpellings_19 : decode cX3_findSpellings 19 = .ok (.iload_n 1, 1) := by decide +kernel
theorem dX3_findSpellings_20 : decode cX3_findSpellings 20 = .ok (.iload_n 1, 1) := by decide +kernel
theorem dX3_findSpellings_21 : decode cX3_findSpellings 21 = .ok (.i2l, 1) := by decide +kernel
theorem dX3_findSpellings_22 : decode cX3_findSpellings 22 = .ok (.lastore, 1) := by decide +kernel
theorem dX3_findSpellings_23 : decode cX3_findSpellings 23 = .ok (.iinc 1 1, 3) := by decide +kernel
theorem dX3_findSpellings_26 : decode cX3_findSpellings 26 = .ok (.goto (-17), 3) := by decide +kernel
theorem dX3_findSpellings_29 : decode cX3_findSpellings 29 = .ok (.iconst 1, 1) := by decide +kernel
theorem dX3_findSpellings_30 : decode cX3_findSpellings 30 = .ok (.istore_n 1, 1) := by decide +kernel
theorem dX3_findSpellings_31 : decode cX3_findSpellings 31 = .ok (.iconst 0, 1) := by decide +kernel
theorem dX3_findSpellings_32 : decode cX3_findSpellings 32 = .ok (.istore_n 2, 1) := by decide +kernel
theorem dX3_findSpellings_33 : decode cX3_findSpellings 33 = .ok (.iload_n 2, 1) := by decide +kernel
theorem dX3_findSpellings_34 : decode cX3_findSpellings 34 = .ok (.ldc 111, 2) := by decide +kernel
theorem dX3_findSpellings_36 : decode cX3_findSpellings 36 = .ok (.if_icmp .ge 42, 3) := by decide +kernel
theorem dX3_findSpellings_39 : decode cX3_findSpellings 39 = .ok (.iload_n 1, 1) := by decide +kernel
theorem dX3_findSpellings_40 : decode cX3_findSpellings 40 = .ok (.ifCond .eq 38, 3) := by decide +kernel
theorem dX3_findSpellings_43 : decode cX3_findSpellings 43 = .ok (.iconst 0, 1) := by decide +kernel
theorem dX3_findSpellings_44 : decode cX3_findSpellings 44 = .ok (.istore_n 1, 1) := by decide +kernel
theorem dX3_findSpellings_45 : decode cX3_findSpellings 45 = .ok (.iconst 0, 1) := by decide +kernel
theorem dX3_findSpellings_46 : decode cX3_findSpellings 46 = .ok (.istore_n 3, 1) := by decide +kernel
theorem dX3_findSpellings_47 : decode cX3_findSpellings 47 = .ok (.iload_n 3, 1) := by decide +kernel
theorem dX3_findSpellings_48 : decode cX3_findSpellings 48 = .ok (.aload_n 0, 1) := by decide +kernel
theorem dX3_findSpellings_49 : decode cX3_findSpellings 49 = .ok (.getfield 37, 3) := by decide +kernel
theorem dX3_findSpellings_52 : decode cX3_findSpellings 52 = .ok (.invokevirtual 112, 3) := by decide +kernel
theorem dX3_findSpellings_55 : decode cX3_findSpellings 55 = .ok (.if_icmp .ge 17, 3) := by decide +kernel
theorem dX3_findSpellings_58 : decode cX3_findSpellings 58 = .ok (.iload_n 1, 1) := by decide +kernel
theorem dX3_findSpellings_59 : decode cX3_findSpellings 59 = .ok (.aload_n 0, 1) := by decide +kernel
theorem dX3_findSpellings_60 : decode cX3_findSpellings 60 = .ok (.iload_n 3, 1) := by decide +kernel
theorem dX3_findSpellings_61 : decode cX3_findSpellings 61 = .ok (.invokevirtual 163, 3) := by decide +kernel
theorem dX3_findSpellings_64 : decode cX3_findSpellings 64 = .ok (.ior, 1) := by decide +kernel
theorem dX3_findSpellings_65 : decode cX3_findSpellings 65 = .ok (.istore_n 1, 1) := by decide +kernel
theorem dX3_findSpellings_66 : decode cX3_findSpellings 66 = .ok (.iinc 3 1, 3) := by decide +kernel
theorem dX3_findSpellings_69 : decode cX3_findSpellings 69 = .ok (.goto (-22), 3) := by decide +kernel
theorem dX3_findSpellings_72 : decode cX3_findSpellings 72 = .ok (.iinc 2 1, 3) := by decide +kernel
theorem dX3_findSpellings_75 : decode cX3_findSpellings 75 = .ok (.goto (-42), 3) := by decide +kernel
theorem dX3_findSpellings_78 : decode cX3_findSpellings 78 = .ok (.return_, 1) := by decide +kernel
theorem dX3_improveSpelling_0 : decode cX3_improveSpelling 0 = .ok (.bipush 16, 2) := by decide +kernel
theorem dX3_improveSpelling_2 : decode cX3_improveSpelling 2 = .ok (.aload_n 0, 1) := by decide +kernel
theorem dX3_improveSpelling_3 : decode cX3_improveSpelling 3 = .ok (.getfield 37, 3) := by decide +kernel
theorem dX3_improveSpelling_6 : decode cX3_improveSpelling 6 = .ok (.iload_n 1, 1) := by decide +kernel
theorem dX3_improveSpelling_7 : decode cX3_improveSpelling 7 = .ok (.invokevirtual 116, 3) := by decide +kernel
theorem dX3_improveSpelling_10 : decode cX3_improveSpelling 10 = .ok (.iadd, 1) := by decide +kernel
theorem dX3_improveSpelling_11 : decode cX3_improveSpelling 11 = .ok (.istore_n 2, 1) := by decide +kernel
theorem dX3_improveSpelling_12 : decode cX3_improveSpelling 12 = .ok (.aload_n 0, 1) := by decide +kernel
theorem dX3_improveSpelling_13 : decode cX3_improveSpelling 13 = .ok (.iload_n 1, 1) := by decide +kernel
theorem dX3_improveSpelling_14 : decode cX3_improveSpelling 14 = .ok (.invokevirtual 152, 3) := by decide +kernel
theorem dX3_improveSpelling_17 : decode cX3_improveSpelling 17 = .ok (.istore_n 3, 1) := by decide +kernel
theorem dX3_improveSpelling_18 : decode cX3_improveSpelling 18 = .ok (.iload_n 3, 1) := by decide +kernel
theorem dX3_improveSpelling_19 : decode cX3_improveSpelling 19 = .ok (.iconst (-1), 1) := by decide +kernel
theorem dX3_improveSpelling_20 : decode cX3_improveSpelling 20 = .ok (.if_icmp .eq 25, 3) := by decide +kernel
theorem dX3_improveSpelling_23 : decode cX3_improveSpelling 23 = .ok (.iload_n 3, 1) := by decide +kernel
theorem dX3_improveSpelling_24 : decode cX3_improveSpelling 24 = .ok (.bipush 20, 2) := by decide +kernel
theorem dX3_improveSpelling_26 : decode cX3_improveSpelling 26 = .ok (.if_icmp .gt 19, 3) := by decide +kernel
theorem dX3_improveSpelling_29 : decode cX3_improveSpelling 29 = .ok (.iload_n 3, 1) := by decide +kernel
theorem dX3_improveSpelling_30 : decode cX3_improveSpelling 30 = .ok (.aload_n 0, 1) := by decide +kernel
theorem dX3_improveSpelling_31 : decode cX3_improveSpelling 31 = .ok (.iload_n 2, 1) := by decide +kernel
theorem dX3_improveSpelling_32 : decode cX3_improveSpelling 32 = .ok (.invokevirtual 93, 3) := by decide +kernel
theorem dX3_improveSpelling_35 : decode cX3_improveSpelling 35 = .ok (.if_icmp .ne 10, 3) := by decide +kernel
theorem dX3_improveSpelling_38 : decode cX3_improveSpelling 38 = .ok (.iload_n 2, 1) := by decide +kernel
theorem dX3_improveSpelling_39 : decode cX3_improveSpelling 39 = .ok (.invokestatic 133, 3) := by decide +kernel
theorem dX3_improveSpelling_42 : decode cX3_improveSpelling 42 = .ok (.ifCond .ne 5, 3) := by decide +kernel
theorem dX3_improveSpelling_45 : decode cX3_improveSpelling 45 = .ok (.iconst 0, 1) := by decide +kernel
theorem dX3_improveSpelling_46 : decode cX3_improveSpelling 46 = .ok (.ireturn, 1) := by decide +kernel
theorem dX3_improveSpelling_47 : decode cX3_improveSpelling 47 = .ok (.aload_n 0, 1) := by decide +kernel
theorem dX3_improveSpelling_48 : decode cX3_improveSpelling 48 = .ok (.iload_n 1, 1) := by decide +kernel
theorem dX3_improveSpelling_49 : decode cX3_improveSpelling 49 = .ok (.invokevirtual 166, 3) := by decide +kernel
theorem dX3_improveSpelling_52 : decode cX3_improveSpelling 52 = .ok (.lstore 4, 2) := by decide +kernel
theorem dX3_improveSpelling_54 : decode cX3_improveSpelling 54 = .ok (.lload 4, 2) := by decide +kernel
theorem dX3_improveSpelling_56 : decode cX3_improveSpelling 56 = .ok (.ldc2_w 170, 3) := by decide +kernel
theorem dX3_improveSpelling_59 : decode cX3_improveSpelling 59 = .ok (.lcmp, 1) := by decide +kernel
theorem dX3_improveSpelling_60 : decode cX3_improveSpelling 60 = .ok (.ifCond .eq 26, 3) := by decide +kernel
theorem dX3_improveSpelling_63 : decode cX3_improveSpelling 63 = .ok (.aload_n 0, 1) := by decide +kernel
theorem dX3_improveSpelling_64 : decode cX3_improveSpelling 64 = .ok (.getfield 160, 3) := by decide +kernel
theorem dX3_improveSpelling_67 : decode cX3_improveSpelling 67 = .ok (.iload_n 2, 1) := by decide +kernel
theorem dX3_improveSpelling_68 : decode cX3_improveSpelling 68 = .ok (.invokestatic 83, 3) := by decide +kernel
theorem dX3_improveSpelling_71 : decode cX3_improveSpelling 71 = .ok (.ifCond .eq 17, 3) := by decide +kernel
theorem dX3_improveSpelling_74 : decode cX3_improveSpelling 74 = .ok (.lload 4, 2) := by decide +kernel
theorem dX3_improveSpelling_76 : decode cX3_improveSpelling 76 = .ok (.aload_n 0, 1) := by decide +kernel
theorem dX3_improveSpelling_77 : decode cX3_improveSpelling 77 = .ok (.getfield 24, 3) := by decide +kernel
theorem dX3_improveSpelling_80 : decode cX3_improveSpelling 80 = .ok (.iload_n 2, 1) := by decide +kernel
theorem dX3_improveSpelling_81 : decode cX3_improveSpelling 81 = .ok (.laload, 1) := by decide +kernel
theorem dX3_improveSpelling_82 : decode cX3_improveSpelling 82 = .ok (.lcmp, 1) := by decide +kernel
theorem dX3_improveSpelling_83 : decode cX3_improveSpelling 83 = .ok (.ifCond .lt 5, 3) := by decide +kernel
theorem dX3_improveSpelling_86 : decode cX3_improveSpelling 86 = .ok (.iconst 0, 1) := by decide +kernel
theorem dX3_improveSpelling_87 : decode cX3_improveSpelling 87 = .ok (.ireturn, 1) := by decide +kernel
theorem dX3_improveSpelling_88 : decode cX3_improveSpelling 88 = .ok (.aload_n 0, 1) := by decide +kernel
theorem dX3_improveSpelling_89 : decode cX3_improveSpelling 89 = .ok (.getfield 24, 3) := by decide +kernel
theorem dX3_improveSpelling_92 : decode cX3_improveSpelling 92 = .ok (.iload_n 2, 1) := by decide +kernel
theorem dX3_improveSpelling_93 : decode cX3_improveSpelling 93 = .ok (.lload 4, 2) := by decide +kernel
theorem dX3_improveSpelling_95 : decode cX3_improveSpelling 95 = .ok (.lastore, 1) := by decide +kernel
theorem dX3_improveSpelling_96 : decode cX3_improveSpelling 96 = .ok (.aload_n 0, 1) := by decide +kernel
theorem dX3_improveSpelling_97 : decode cX3_improveSpelling 97 = .ok (.dup, 1) := by decide +kernel
theorem dX3_improveSpelling_98 : decode cX3_improveSpelling 98 = .ok (.getfield 160, 3) := by decide +kernel
theorem dX3_improveSpelling_101 : decode cX3_improveSpelling 101 = .ok (.iconst 1, 1) := by decide +kernel
theorem dX3_improveSpelling_102 : decode cX3_improveSpelling 102 = .ok (.iload_n 2, 1) := by decide +kernel
theorem dX3_improveSpelling_103 : decode cX3_improveSpelling 103 = .ok (.ishl, 1) := by decide +kernel
theorem dX3_improveSpelling_104 : decode cX3_improveSpelling 104 = .ok (.ior, 1) := by decide +kernel
theorem dX3_improveSpelling_105 : decode cX3_improveSpelling 105 = .ok (.putfield 160, 3) := by decide +kernel
theorem dX3_improveSpelling_108 : decode cX3_improveSpelling 108 = .ok (.iconst 1, 1) := by decide +kernel
theorem dX3_improveSpelling_109 : decode cX3_improveSpelling 109 = .ok (.ireturn, 1) := by decide +kernel
theorem dX3_spell_0 : decode cX3_spell 0 = .ok (.lconst 0, 1) := by decide +kernel
theorem dX3_spell_1 : decode cX3_spell 1 = .ok (.lstore_n 2, 1) := by decide +kernel
theorem dX3_spell_2 : decode cX3_spell 2 = .ok (.iconst 0, 1) := by decide +kernel
theorem dX3_spell_3 : decode cX3_spell 3 = .ok (.istore 4, 2) := by decide +kernel
theorem dX3_spell_5 : decode cX3_spell 5 = .ok (.iload 4, 2) := by decide +kernel
theorem dX3_spell_7 : decode cX3_spell 7 = .ok (.aload_n 0, 1) := by decide +kernel
theorem dX3_spell_8 : decode cX3_spell 8 = .ok (.getfield 37, 3) := by decide +kernel
theorem dX3_spell_11 : decode cX3_spell 11 = .ok (.iload_n 1, 1) := by decide +kernel
theorem dX3_spell_12 : decode cX3_spell 12 = .ok (.invokevirtual 96, 3) := by decide +kernel
theorem dX3_spell_15 : decode cX3_spell 15 = .ok (.if_icmp .ge 69, 3) := by decide +kernel
theorem dX3_spell_18 : decode cX3_spell 18 = .ok (.aload_n 0, 1) := by decide +kernel
theorem dX3_spell_19 : decode cX3_spell 19 = .ok (.getfield 37, 3) := by decide +kernel
theorem dX3_spell_22 : decode cX3_spell 22 = .ok (.iload_n 1, 1) := by decide +kernel
theorem dX3_spell_23 : decode cX3_spell 23 = .ok (.iload 4, 2) := by decide +kernel
theorem dX3_spell_25 : decode cX3_spell 25 = .ok (.invokevirtual 101, 3) := by decide +kernel
theorem dX3_spell_28 : decode cX3_spell 28 = .ok (.istore 5, 2) := by decide +kernel
theorem dX3_spell_30 : decode cX3_spell 30 = .ok (.iload 5, 2) := by decide +kernel
theorem dX3_spell_32 : decode cX3_spell 32 = .ok (.ifCond .lt 22, 3) := by decide +kernel
theorem dX3_spell_35 : decode cX3_spell 35 = .ok (.iload 5, 2) := by decide +kernel
theorem dX3_spell_37 : decode cX3_spell 37 = .ok (.bipush 32, 2) := by decide +kernel
theorem dX3_spell_39 : decode cX3_spell 39 = .ok (.if_icmp .ge 15, 3) := by decide +kernel
theorem dX3_spell_42 : decode cX3_spell 42 = .ok (.aload_n 0, 1) := by decide +kernel
theorem dX3_spell_43 : decode cX3_spell 43 = .ok (.getfield 160, 3) := by decide +kernel
theorem dX3_spell_46 : decode cX3_spell 46 = .ok (.iload 5, 2) := by decide +kernel
theorem dX3_spell_48 : decode cX3_spell 48 = .ok (.invokestatic 83, 3) := by decide +kernel
theorem dX3_spell_51 : decode cX3_spell 51 = .ok (.ifCond .ne 7, 3) := by decide +kernel
theorem dX3_spell_54 : decode cX3_spell 54 = .ok (.ldc2_w 170, 3) := by decide +kernel
theorem dX3_spell_57 : decode cX3_spell 57 = .ok (.lreturn, 1) := by decide +kernel
theorem dX3_spell_58 : decode cX3_spell 58 = .ok (.lload_n 2, 1) := by decide +kernel
theorem dX3_spell_59 : decode cX3_spell 59 = .ok (.iconst 3, 1) := by decide +kernel
theorem dX3_spell_60 : decode cX3_spell 60 = .ok (.aload_n 0, 1) := by decide +kernel
theorem dX3_spell_61 : decode cX3_spell 61 = .ok (.getfield 21, 3) := by decide +kernel
theorem dX3_spell_64 : decode cX3_spell 64 = .ok (.iload 5, 2) := by decide +kernel
theorem dX3_spell_66 : decode cX3_spell 66 = .ok (.iaload, 1) := by decide +kernel
theorem dX3_spell_67 : decode cX3_spell 67 = .ok (.imul, 1) := by decide +kernel
theorem dX3_spell_68 : decode cX3_spell 68 = .ok (.lshl, 1) := by decide +kernel
theorem dX3_spell_69 : decode cX3_spell 69 = .ok (.aload_n 0, 1) := by decide +kernel
theorem dX3_spell_70 : decode cX3_spell 70 = .ok (.getfield 24, 3) := by decide +kernel
theorem dX3_spell_73 : decode cX3_spell 73 = .ok (.iload 5, 2) := by decide +kernel
theorem dX3_spell_75 : decode cX3_spell 75 = .ok (.laload, 1) := by decide +kernel
theorem dX3_spell_76 : decode cX3_spell 76 = .ok (.lor, 1) := by decide +kernel
theorem dX3_spell_77 : decode cX3_spell 77 = .ok (.lstore_n 2, 1) := by decide +kernel
theorem dX3_spell_78 : decode cX3_spell 78 = .ok (.iinc 4 1, 3) := by decide +kernel
theorem dX3_spell_81 : decode cX3_spell 81 = .ok (.goto (-76), 3) := by decide +kernel
theorem dX3_spell_84 : decode cX3_spell 84 = .ok (.lload_n 2, 1) := by decide +kernel
theorem dX3_spell_85 : decode cX3_spell 85 = .ok (.lreturn, 1) := by decide +kernel
theorem dX3_findPredictions_0 : decode cX3_findPredictions 0 = .ok (.iconst 0, 1) := by decide +kernel
theorem dX3_findPredictions_1 : decode cX3_findPredictions 1 = .ok (.istore_n 1, 1) := by decide +kernel
theorem dX3_findPredictions_2 : decode cX3_findPredictions 2 = .ok (.iload_n 1, 1) := by decide +kernel
theorem dX3_findPredictions_3 : decode cX3_findPredictions 3 = .ok (.bipush 24, 2) := by decide +kernel
theorem dX3_findPredictions_5 : decode cX3_findPredictions 5 = .ok (.if_icmp .ge 38, 3) := by decide +kernel
theorem dX3_findPredictions_8 : decode cX3_findPredictions 8 = .ok (.aload_n 0, 1) := by decide +kernel
theorem dX3_findPredictions_9 : decode cX3_findPredictions 9 = .ok (.aload_n 0, 1) := by decide +kernel
theorem dX3_findPredictions_10 : decode cX3_findPredictions 10 = .ok (.getfield 37, 3) := by decide +kernel
theorem dX3_findPredictions_13 : decode cX3_findPredictions 13 = .ok (.iload_n 1, 1) := by decide +kernel
theorem dX3_findPredictions_14 : decode cX3_findPredictions 14 = .ok (.invokevirtual 116, 3) := by decide +kernel
theorem dX3_findPredictions_17 : decode cX3_findPredictions 17 = .ok (.invokevirtual 136, 3) := by decide +kernel
theorem dX3_findPredictions_20 : decode cX3_findPredictions 20 = .ok (.istore_n 2, 1) := by decide +kernel
theorem dX3_findPredictions_21 : decode cX3_findPredictions 21 = .ok (.aload_n 0, 1) := by decide +kernel
theorem dX3_findPredictions_22 : decode cX3_findPredictions 22 = .ok (.getfield 18, 3) := by decide +kernel
theorem dX3_findPredictions_25 : decode cX3_findPredictions 25 = .ok (.iload_n 1, 1) := by decide +kernel
theorem dX3_findPredictions_26 : decode cX3_findPredictions 26 = .ok (.aload_n 0, 1) := by decide +kernel
theorem dX3_findPredictions_27 : decode cX3_findPredictions 27 = .ok (.iload_n 1, 1) := by decide +kernel
theorem dX3_findPredictions_28 : decode cX3_findPredictions 28 = .ok (.iconst 0, 1) := by decide +kernel
theorem dX3_findPredictions_29 : decode cX3_findPredictions 29 = .ok (.invokevirtual 119, 3) := by decide +kernel
theorem dX3_findPredictions_32 : decode cX3_findPredictions 32 = .ok (.iload_n 2, 1) := by decide +kernel
theorem dX3_findPredictions_33 : decode cX3_findPredictions 33 = .ok (.invokestatic 139, 3) := by decide +kernel
theorem dX3_findPredictions_36 : decode cX3_findPredictions 36 = .ok (.iastore, 1) := by decide +kernel
theorem dX3_findPredictions_37 : decode cX3_findPredictions 37 = .ok (.iinc 1 1, 3) := by decide +kernel
theorem dX3_findPredictions_40 : decode cX3_findPredictions 40 = .ok (.goto (-38), 3) := by decide +kernel
theorem dX3_findPredictions_43 : decode cX3_findPredictions 43 = .ok (.return_, 1) := by decide +kernel
theorem dX3_findItems_0 : decode cX3_findItems 0 = .ok (.aload_n 0, 1) := by decide +kernel
theorem dX3_findItems_1 : decode cX3_findItems 1 = .ok (.getfield 31, 3) := by decide +kernel
theorem dX3_findItems_4 : decode cX3_findItems 4 = .ok (.iconst (-1), 1) := by decide +kernel
theorem dX3_findItems_5 : decode cX3_findItems 5 = .ok (.invokestatic 105, 3) := by decide +kernel
theorem dX3_findItems_8 : decode cX3_findItems 8 = .ok (.aload_n 0, 1) := by decide +kernel
theorem dX3_findItems_9 : decode cX3_findItems 9 = .ok (.getfield 34, 3) := by decide +kernel
theorem dX3_findItems_12 : decode cX3_findItems 12 = .ok (.iconst 0, 1) := by decide +kernel
theorem dX3_findItems_13 : decode cX3_findItems 13 = .ok (.invokestatic 105, 3) := by decide +kernel
theorem dX3_findItems_16 : decode cX3_findItems 16 = .ok (.iconst 0, 1) := by decide +kernel
theorem dX3_findItems_17 : decode cX3_findItems 17 = .ok (.istore_n 1, 1) := by decide +kernel
theorem dX3_findItems_18 : decode cX3_findItems 18 = .ok (.iload_n 1, 1) := by decide +kernel
theorem dX3_findItems_19 : decode cX3_findItems 19 = .ok (.bipush 24, 2) := by decide +kernel
theorem dX3_findItems_21 : decode cX3_findItems 21 = .ok (.if_icmp .ge 61, 3) := by decide +kernel
theorem dX3_findItems_24 : decode cX3_findItems 24 = .ok (.iconst 0, 1) := by decide +kernel
theorem dX3_findItems_25 : decode cX3_findItems 25 = .ok (.istore_n 2, 1) := by decide +kernel
theorem dX3_findItems_26 : decode cX3_findItems 26 = .ok (.iload_n 2, 1) := by decide +kernel
theorem dX3_findItems_27 : decode cX3_findItems 27 = .ok (.iconst 5, 1) := by decide +kernel
theorem dX3_findItems_28 : decode cX3_findItems 28 = .ok (.if_icmp .ge 48, 3) := by decide +kernel
theorem dX3_findItems_31 : decode cX3_findItems 31 = .ok (.aload_n 0, 1) := by decide +kernel
theorem dX3_findItems_32 : decode cX3_findItems 32 = .ok (.getfield 31, 3) := by decide +kernel
theorem dX3_findItems_35 : decode cX3_findItems 35 = .ok (.iload_n 1, 1) := by decide +kernel
theorem dX3_findItems_36 : decode cX3_findItems 36 = .ok (.bipush 6, 2) := by decide +kernel
theorem dX3_findItems_38 : decode cX3_findItems 38 = .ok (.imul, 1) := by decide +kernel
theorem dX3_findItems_39 : decode cX3_findItems 39 = .ok (.iload_n 2, 1) := by decide +kernel
theorem dX3_findItems_40 : decode cX3_findItems 40 = .ok (.iadd, 1) := by decide +kernel
theorem dX3_findItems_41 : decode cX3_findItems 41 = .ok (.aload_n 0, 1) := by decide +kernel
theorem dX3_findItems_42 : decode cX3_findItems 42 = .ok (.getfield 37, 3) := by decide +kernel
theorem dX3_findItems_45 : decode cX3_findItems 45 = .ok (.iload_n 1, 1) := by decide +kernel
theorem dX3_findItems_46 : decode cX3_findItems 46 = .ok (.iload_n 2, 1) := by decide +kernel
theorem dX3_findItems_47 : decode cX3_findItems 47 = .ok (.invokevirtual 101, 3) := by decide +kernel
theorem dX3_findItems_50 : decode cX3_findItems 50 = .ok (.iastore, 1) := by decide +kernel
theorem dX3_findItems_51 : decode cX3_findItems 51 = .ok (.aload_n 0, 1) := by decide +kernel
theorem dX3_findItems_52 : decode cX3_findItems 52 = .ok (.getfield 34, 3) := by decide +kernel
theorem dX3_findItems_55 : decode cX3_findItems 55 = .ok (.iload_n 1, 1) := by decide +kernel
theorem dX3_findItems_56 : decode cX3_findItems 56 = .ok (.bipush 6, 2) := by decide +kernel
theorem dX3_findItems_58 : decode cX3_findItems 58 = .ok (.imul, 1) := by decide +kernel
theorem dX3_findItems_59 : decode cX3_findItems 59 = .ok (.iload_n 2, 1) := by decide +kernel
theorem dX3_findItems_60 : decode cX3_findItems 60 = .ok (.iadd, 1) := by decide +kernel
theorem dX3_findItems_61 : decode cX3_findItems 61 = .ok (.aload_n 0, 1) := by decide +kernel
theorem dX3_findItems_62 : decode cX3_findItems 62 = .ok (.iload_n 1, 1) := by decide +kernel
theorem dX3_findItems_63 : decode cX3_findItems 63 = .ok (.iload_n 2, 1) := by decide +kernel
theorem dX3_findItems_64 : decode cX3_findItems 64 = .ok (.iconst 1, 1) := by decide +kernel
theorem dX3_findItems_65 : decode cX3_findItems 65 = .ok (.iadd, 1) := by decide +kernel
theorem dX3_findItems_66 : decode cX3_findItems 66 = .ok (.invokevirtual 119, 3) := by decide +kernel
theorem dX3_findItems_69 : decode cX3_findItems 69 = .ok (.iastore, 1) := by decide +kernel
theorem dX3_findItems_70 : decode cX3_findItems 70 = .ok (.iinc 2 1, 3) := by decide +kernel
theorem dX3_findItems_73 : decode cX3_findItems 73 = .ok (.goto (-47), 3) := by decide +kernel
theorem dX3_findItems_76 : decode cX3_findItems 76 = .ok (.iinc 1 1, 3) := by decide +kernel
theorem dX3_findItems_79 : decode cX3_findItems 79 = .ok (.goto (-61), 3) := by decide +kernel
theorem dX3_findItems_82 : decode cX3_findItems 82 = .ok (.aload_n 0, 1) := by decide +kernel
theorem dX3_findItems_83 : decode cX3_findItems 83 = .ok (.getfield 31, 3) := by decide +kernel
theorem dX3_findItems_86 : decode cX3_findItems 86 = .ok (.sipush 144, 3) := by decide +kernel
theorem dX3_findItems_89 : decode cX3_findItems 89 = .ok (.bipush 16, 2) := by decide +kernel
theorem dX3_findItems_91 : decode cX3_findItems 91 = .ok (.aload_n 0, 1) := by decide +kernel
theorem dX3_findItems_92 : decode cX3_findItems 92 = .ok (.getfield 37, 3) := by decide +kernel
theorem dX3_findItems_95 : decode cX3_findItems 95 = .ok (.invokevirtual 126, 3) := by decide +kernel
theorem dX3_findItems_98 : decode cX3_findItems 98 = .ok (.iadd, 1) := by decide +kernel
theorem dX3_findItems_99 : decode cX3_findItems 99 = .ok (.iastore, 1) := by decide +kernel
theorem dX3_findItems_100 : decode cX3_findItems 100 = .ok (.aload_n 0, 1) := by decide +kernel
theorem dX3_findItems_101 : decode cX3_findItems 101 = .ok (.getfield 34, 3) := by decide +kernel
theorem dX3_findItems_104 : decode cX3_findItems 104 = .ok (.sipush 144, 3) := by decide +kernel
theorem dX3_findItems_107 : decode cX3_findItems 107 = .ok (.sipush 512, 3) := by decide +kernel
theorem dX3_findItems_110 : decode cX3_findItems 110 = .ok (.iastore, 1) := by decide +kernel
theorem dX3_findItems_111 : decode cX3_findItems 111 = .ok (.return_, 1) := by decide +kernel
theorem dX4_init_0 : decode cX4_init 0 = .ok (.aload_n 0, 1) := by decide +kernel
theorem dX4_init_1 : decode cX4_init 1 = .ok (.invokespecial 3, 3) := by decide +kernel
theorem dX4_init_4 : decode cX4_init 4 = .ok (.aload_n 0, 1) := by decide +kernel
theorem dX4_init_5 : decode cX4_init 5 = .ok (.bipush 24, 2) := by decide +kernel
theorem dX4_init_7 : decode cX4_init 7 = .ok (.newarray .int, 2) := by decide +kernel
theorem dX4_init_9 : decode cX4_init 9 = .ok (.putfield 9, 3) := by decide +kernel
theorem dX4_init_12 : decode cX4_init 12 = .ok (.aload_n 0, 1) := by decide +kernel
theorem dX4_init_13 : decode cX4_init 13 = .ok (.bipush 120, 2) := by decide +kernel
theorem dX4_init_15 : decode cX4_init 15 = .ok (.newarray .int, 2) := by decide +kernel
theorem dX4_init_17 : decode cX4_init 17 = .ok (.putfield 15, 3) := by decide +kernel
theorem dX4_init_20 : decode cX4_init 20 = .ok (.aload_n 0, 1) := by decide +kernel
theorem dX4_init_21 : decode cX4_init 21 = .ok (.bipush 24, 2) := by decide +kernel
theorem dX4_init_23 : decode cX4_init 23 = .ok (.newarray .int, 2) := by decide +kernel
theorem dX4_init_25 : decode cX4_init 25 = .ok (.putfield 18, 3) := by decide +kernel
theorem dX4_init_28 : decode cX4_init 28 = .ok (.aload_n 0, 1) := by decide +kernel
theorem dX4_init_29 : decode cX4_init 29 = .ok (.bipush 24, 2) := by decide +kernel
theorem dX4_init_31 : decode cX4_init 31 = .ok (.anewarray 21, 3) := by decide +kernel
theorem dX4_init_34 : decode cX4_init 34 = .ok (.putfield 23, 3) := by decide +kernel
theorem dX4_init_37 : decode cX4_init 37 = .ok (.aload_n 0, 1) := by decide +kernel
theorem dX4_init_38 : decode cX4_init 38 = .ok (.bipush 24, 2) := by decide +kernel
theorem dX4_init_40 : decode cX4_init 40 = .ok (.newarray .int, 2) := by decide +kernel
theorem dX4_init_42 : decode cX4_init 42 = .ok (.putfield 27, 3) := by decide +kernel
theorem dX4_init_45 : decode cX4_init 45 = .ok (.aload_n 0, 1) := by decide +kernel
theorem dX4_init_46 : decode cX4_init 46 = .ok (.new 21, 3) := by decide +kernel
theorem dX4_init_49 : decode cX4_init 49 = .ok (.dup, 1) := by decide +kernel
theorem dX4_init_50 : decode cX4_init 50 = .ok (.invokespecial 30, 3) := by decide +kernel
theorem dX4_init_53 : decode cX4_init 53 = .ok (.putfield 31, 3) := by decide +kernel
theorem dX4_init_56 : decode cX4_init 56 = .ok (.aload_n 0, 1) := by decide +kernel
theorem dX4_init_57 : decode cX4_init 57 = .ok (.new 35, 3) := by decide +kernel
theorem dX4_init_60 : decode cX4_init 60 = .ok (.dup, 1) := by decide +kernel
theorem dX4_init_61 : decode cX4_init 61 = .ok (.invokespecial 37, 3) := by decide +kernel
theorem dX4_init_64 : decode cX4_init 64 = .ok (.putfield 38, 3) := by decide +kernel
theorem dX4_init_67 : decode cX4_init 67 = .ok (.iconst 0, 1) := by decide +kernel
theorem dX4_init_68 : decode cX4_init 68 = .ok (.istore_n 1, 1) := by decide +kernel
theorem dX4_init_69 : decode cX4_init 69 = .ok (.iload_n 1, 1) := by decide +kernel
theorem dX4_init_70 : decode cX4_init 70 = .ok (.aload_n 0, 1) := by decide +kernel
theorem dX4_init_71 : decode cX4_init 71 = .ok (.getfield 23, 3) := by decide +kernel
theorem dX4_init_74 : decode cX4_init 74 = .ok (.arraylength, 1) := by decide +kernel
theorem dX4_init_75 : decode cX4_init 75 = .ok (.if_icmp .ge 22, 3) := by decide +kernel
theorem dX4_init_78 : decode cX4_init 78 = .ok (.aload_n 0, 1) := by decide +kernel
theorem dX4_init_79 : decode cX4_init 79 = .ok (.getfield 23, 3) := by decide +kernel
theorem dX4_init_82 : decode cX4_init 82 = .ok (.iload_n 1, 1) := by decide +kernel
theorem dX4_init_83 : decode cX4_init 83 = .ok (.new 21, 3) := by decide +kernel
theorem dX4_init_86 : decode cX4_init 86 = .ok (.dup, 1) := by decide +kernel
theorem dX4_init_87 : decode cX4_init 87 = .ok (.invokespecial 30, 3) := by decide +kernel
theorem dX4_init_90 : decode cX4_init 90 = .ok (.aastore, 1) := by decide +kernel
theorem dX4_init_91 : decode cX4_init 91 = .ok (.iinc 1 1, 3) := by decide +kernel
theorem dX4_init_94 : decode cX4_init 94 = .ok (.goto (-25), 3) := by decide +kernel
theorem dX4_init_97 : decode cX4_init 97 = .ok (.return_, 1) := by decide +kernel
theorem dX4_count_0 : decode cX4_count 0 = .ok (.aload_n 0, 1) := by decide +kernel
theorem dX4_count_1 : decode cX4_count 1 = .ok (.getfield 42, 3) := by decide +kernel
theorem dX4_count_4 : decode cX4_count 4 = .ok (.ireturn, 1) := by decide +kernel
theorem dX4_rules_0 : decode cX4_rules 0 = .ok (.aload_n 0, 1) := by decide +kernel
theorem dX4_rules_1 : decode cX4_rules 1 = .ok (.getfield 46, 3) := by decide +kernel
theorem dX4_rules_4 : decode cX4_rules 4 = .ok (.ireturn, 1) := by decide +kernel
theorem dX4_top_0 : decode cX4_top 0 = .ok (.aload_n 0, 1) := by decide +kernel
theorem dX4_top_1 : decode cX4_top 1 = .ok (.getfield 49, 3) := by decide +kernel
theorem dX4_top_4 : decode cX4_top 4 = .ok (.ireturn, 1) := by decide +kernel
theorem dX4_setTop_0 : decode cX4_setTop 0 = .ok (.aload_n 0, 1) := by decide +kernel
theorem dX4_setTop_1 : decode cX4_setTop 1 = .ok (.iload_n 1, 1) := by decide +kernel
theorem dX4_setTop_2 : decode cX4_setTop 2 = .ok (.putfield 49, 3) := by decide +kernel
theorem dX4_setTop_5 : decode cX4_setTop 5 = .ok (.return_, 1) := by decide +kernel
theorem dX4_owner_0 : decode cX4_owner 0 = .ok (.iload_n 1, 1) := by decide +kernel
theorem dX4_owner_1 : decode cX4_owner 1 = .ok (.ifCond .lt 20, 3) := by decide +kernel
theorem dX4_owner_4 : decode cX4_owner 4 = .ok (.iload_n 1, 1) := by decide +kernel
theorem dX4_owner_5 : decode cX4_owner 5 = .ok (.aload_n 0, 1) := by decide +kernel
theorem dX4_owner_6 : decode cX4_owner 6 = .ok (.getfield 42, 3) := by decide +kernel
theorem dX4_owner_9 : decode cX4_owner 9 = .ok (.if_icmp .ge 12, 3) := by decide +kernel
theorem dX4_owner_12 : decode cX4_owner 12 = .ok (.aload_n 0, 1) := by decide +kernel
theorem dX4_owner_13 : decode cX4_owner 13 = .ok (.getfield 9, 3) := by decide +kernel
theorem dX4_owner_16 : decode cX4_owner 16 = .ok (.iload_n 1, 1) := by decide +kernel
theorem dX4_owner_17 : decode cX4_owner 17 = .ok (.iaload, 1) := by decide +kernel
theorem dX4_owner_18 : decode cX4_owner 18 = .ok (.goto 4, 3) := by decide +kernel
theorem dX4_owner_21 : decode cX4_owner 21 = .ok (.iconst (-1), 1) := by decide +kernel
theorem dX4_owner_22 : decode cX4_owner 22 = .ok (.ireturn, 1) := by decide +kernel
theorem dX4_length_0 : decode cX4_length 0 = .ok (.iload_n 1, 1) := by decide +kernel
theorem dX4_length_1 : decode cX4_length 1 = .ok (.ifCond .lt 20, 3) := by decide +kernel
theorem dX4_length_4 : decode cX4_length 4 = .ok (.iload_n 1, 1) := by decide +kernel
theorem dX4_length_5 : decode cX4_length 5 = .ok (.aload_n 0, 1) := by decide +kernel
theorem dX4_length_6 : decode cX4_length 6 = .ok (.getfield 42, 3) := by decide +kernel
theorem dX4_length_9 : decode cX4_length 9 = .ok (.if_icmp .ge 12, 3) := by decide +kernel
theorem dX4_length_12 : decode cX4_length 12 = .ok (.aload_n 0, 1) := by decide +kernel
theorem dX4_length_13 : decode cX4_length 13 = .ok (.getfield 18, 3) := by decide +kernel
theorem dX4_length_16 : decode cX4_length 16 = .ok (.iload_n 1, 1) := by decide +kernel
theorem dX4_length_17 : decode cX4_length 17 = .ok (.iaload, 1) := by decide +kernel
theorem dX4_length_18 : decode cX4_length 18 = .ok (.goto 4, 3) := by decide +kernel
theorem dX4_length_21 : decode cX4_length 21 = .ok (.iconst 0, 1) := by decide +kernel
theorem dX4_length_22 : decode cX4_length 22 = .ok (.ireturn, 1) := by decide +kernel
theorem dX4_symbol_0 : decode cX4_symbol 0 = .ok (.iload_n 1, 1) := by decide +kernel
theorem dX4_symbol_1 : decode cX4_symbol 1 = .ok (.ifCond .lt 29, 3) := by decide +kernel
theorem dX4_symbol_4 : decode cX4_symbol 4 = .ok (.iload_n 1, 1) := by decide +kernel
theorem dX4_symbol_5 : decode cX4_symbol 5 = .ok (.aload_n 0, 1) := by decide +kernel
theorem dX4_symbol_6 : decode cX4_symbol 6 = .ok (.getfield 42, 3) := by decide +kernel
theorem dX4_symbol_9 : decode cX4_symbol 9 = .ok (.if_icmp .ge 21, 3) := by decide +kernel
theorem dX4_symbol_12 : decode cX4_symbol 12 = .ok (.iload_n 2, 1) := by decide +kernel
theorem dX4_symbol_13 : decode cX4_symbol 13 = .ok (.ifCond .lt 17, 3) := by decide +kernel
theorem dX4_symbol_16 : decode cX4_symbol 16 = .ok (.iload_n 2, 1) := by decide +kernel
theorem dX4_symbol_17 : decode cX4_symbol 17 = .ok (.aload_n 0, 1) := by decide +kernel
theorem dX4_symbol_18 : decode cX4_symbol 18 = .ok (.getfield 18, 3) := by decide +kernel
theorem dX4_symbol_21 : decode cX4_symbol 21 = .ok (.iload_n 1, 1) := by decide +kernel
theorem dX4_symbol_22 : decode cX4_symbol 22 = .ok (.iaload, 1) := by decide +kernel
theorem dX4_symbol_23 : decode cX4_symbol 23 = .ok (.if_icmp .ge 7, 3) := by decide +kernel
theorem dX4_symbol_26 : decode cX4_symbol 26 = .ok (.iconst 1, 1) := by decide +kernel
theorem dX4_symbol_27 : decode cX4_symbol 27 = .ok (.goto 4, 3) := by decide +kernel
theorem dX4_symbol_30 : decode cX4_symbol 30 = .ok (.iconst 0, 1) := by decide +kernel
theorem dX4_symbol_31 : decode cX4_symbol 31 = .ok (.istore_n 3, 1) := by decide +kernel
theorem dX4_symbol_32 : decode cX4_symbol 32 = .ok (.iload_n 3, 1) := by decide +kernel
theorem dX4_symbol_33 : decode cX4_symbol 33 = .ok (.ifCond .eq 16, 3) := by decide +kernel
theorem dX4_symbol_36 : decode cX4_symbol 36 = .ok (.aload_n 0, 1) := by decide +kernel
theorem dX4_symbol_37 : decode cX4_symbol 37 = .ok (.getfield 15, 3) := by decide +kernel
theorem dX4_symbol_40 : decode cX4_symbol 40 = .ok (.iload_n 1, 1) := by decide +kernel
theorem dX4_symbol_41 : decode cX4_symbol 41 = .ok (.iconst 5, 1) := by decide +kernel
theorem dX4_symbol_42 : decode cX4_symbol 42 = .ok (.imul, 1) := by decide +kernel
theorem dX4_symbol_43 : decode cX4_symbol 43 = .ok (.iload_n 2, 1) := by decide +kernel
theorem dX4_symbol_44 : decode cX4_symbol 44 = .ok (.iadd, 1) := by decide +kernel
theorem dX4_symbol_45 : decode cX4_symbol 45 = .ok (.iaload, 1) := by decide +kernel
theorem dX4_symbol_46 : decode cX4_symbol 46 = .ok (.goto 4, 3) := by decide +kernel
theorem dX4_symbol_49 : decode cX4_symbol 49 = .ok (.iconst (-1), 1) := by decide +kernel
theorem dX4_symbol_50 : decode cX4_symbol 50 = .ok (.ireturn, 1) := by decide +kernel
theorem dX4_lastTerminal_0 : decode cX4_lastTerminal 0 = .ok (.aload_n 0, 1) := by decide +kernel
theorem dX4_lastTerminal_1 : decode cX4_lastTerminal 1 = .ok (.iload_n 1, 1) := by decide +kernel
theorem dX4_lastTerminal_2 : decode cX4_lastTerminal 2 = .ok (.invokevirtual 52, 3) := by decide +kernel
theorem dX4_lastTerminal_5 : decode cX4_lastTerminal 5 = .ok (.iconst 1, 1) := by decide +kernel
theorem dX4_lastTerminal_6 : decode cX4_lastTerminal 6 = .ok (.isub, 1) := by decide +kernel
theorem dX4_lastTerminal_7 : decode cX4_lastTerminal 7 = .ok (.istore_n 2, 1) := by decide +kernel
theorem dX4_lastTerminal_8 : decode cX4_lastTerminal 8 = .ok (.iload_n 2, 1) := by decide +kernel
theorem dX4_lastTerminal_9 : decode cX4_lastTerminal 9 = .ok (.ifCond .lt 28, 3) := by decide +kernel
theorem dX4_lastTerminal_12 : decode cX4_lastTerminal 12 = .ok (.aload_n 0, 1) := by decide +kernel
theorem dX4_lastTerminal_13 : decode cX4_lastTerminal 13 = .ok (.iload_n 1, 1) := by decide +kernel
theorem dX4_lastTerminal_14 : decode cX4_lastTerminal 14 = .ok (.iload_n 2, 1) := by decide +kernel
theorem dX4_lastTerminal_15 : decode cX4_lastTerminal 15 = .ok (.invokevirtual 56, 3) := by decide +kernel
theorem dX4_lastTerminal_18 : decode cX4_lastTerminal 18 = .ok (.invokestatic 60, 3) := by decide +kernel
theorem dX4_lastTerminal_21 : decode cX4_lastTerminal 21 = .ok (.ifCond .eq 10, 3) := by decide +kernel
theorem dX4_lastTerminal_24 : decode cX4_lastTerminal 24 = .ok (.aload_n 0, 1) := by decide +kernel
theorem dX4_lastTerminal_25 : decode cX4_lastTerminal 25 = .ok (.iload_n 1, 1) := by decide +kernel
theorem dX4_lastTerminal_26 : decode cX4_lastTerminal 26 = .ok (.iload_n 2, 1) := by decide +kernel
theorem dX4_lastTerminal_27 : decode cX4_lastTerminal 27 = .ok (.invokevirtual 56, 3) := by decide +kernel
theorem dX4_lastTerminal_30 : decode cX4_lastTerminal 30 = .ok (.ireturn, 1) := by decide +kernel
theorem dX4_lastTerminal_31 : decode cX4_lastTerminal 31 = .ok (.iinc 2 (-1), 3) := by decide +kernel
theorem dX4_lastTerminal_34 : decode cX4_lastTerminal 34 = .ok (.goto (-26), 3) := by decide +kernel
theorem dX4_lastTerminal_37 : decode cX4_lastTerminal 37 = .ok (.iconst (-1), 1) := by decide +kernel
theorem dX4_lastTerminal_38 : decode cX4_lastTerminal 38 = .ok (.ireturn, 1) := by decide +kernel
theorem dX4_open_0 : decode cX4_open 0 = .ok (.aload_n 0, 1) := by decide +kernel
theorem dX4_open_1 : decode cX4_open 1 = .ok (.getfield 42, 3) := by decide +kernel
theorem dX4_open_4 : decode cX4_open 4 = .ok (.ifCond .lt 22, 3) := by decide +kernel
theorem dX4_open_7 : decode cX4_open 7 = .ok (.aload_n 0, 1) := by decide +kernel
theorem dX4_open_8 : decode cX4_open 8 = .ok (.getfield 42, 3) := by decide +kernel
theorem dX4_open_11 : decode cX4_open 11 = .ok (.bipush 24, 2) := by decide +kernel
theorem dX4_open_13 : decode cX4_open 13 = .ok (.if_icmp .ge 13, 3) := by decide +kernel
theorem dX4_open_16 : decode cX4_open 16 = .ok (.iload_n 1, 1) := by decide +kernel
theorem dX4_open_17 : decode cX4_open 17 = .ok (.ifCond .lt 9, 3) := by decide +kernel
theorem dX4_open_20 : decode cX4_open 20 = .ok (.iload_n 1, 1) := by decide +kernel
theorem dX4_open_21 : decode cX4_open 21 = .ok (.bipush 16, 2) := by decide +kernel
theorem dX4_open_23 : decode cX4_open 23 = .ok (.if_icmp .lt 5, 3) := by decide +kernel
theorem dX4_open_26 : decode cX4_open 26 = .ok (.iconst 0, 1) := by decide +kernel
theorem dX4_open_27 : decode cX4_open 27 = .ok (.ireturn, 1) := by decide +kernel
theorem dX4_open_28 : decode cX4_open 28 = .ok (.aload_n 0, 1) := by decide +kernel
theorem dX4_open_29 : decode cX4_open 29 = .ok (.getfield 9, 3) := by decide +kernel
theorem dX4_open_32 : decode cX4_open 32 = .ok (.aload_n 0, 1) := by decide +kernel
theorem dX4_open_33 : decode cX4_open 33 = .ok (.getfield 42, 3) := by decide +kernel
theorem dX4_open_36 : decode cX4_open 36 = .ok (.iload_n 1, 1) := by decide +kernel
theorem dX4_open_37 : decode cX4_open 37 = .ok (.iastore, 1) := by decide +kernel
theorem dX4_open_38 : decode cX4_open 38 = .ok (.aload_n 0, 1) := by decide +kernel
theorem dX4_open_39 : decode cX4_open 39 = .ok (.getfield 18, 3) := by decide +kernel
theorem dX4_open_42 : decode cX4_open 42 = .ok (.aload_n 0, 1) := by decide +kernel
theorem dX4_open_43 : decode cX4_open 43 = .ok (.getfield 42, 3) := by decide +kernel
theorem dX4_open_46 : decode cX4_open 46 = .ok (.iconst 0, 1) := by decide +kernel
theorem dX4_open_47 : decode cX4_open 47 = .ok (.iastore, 1) := by decide +kernel
theorem dX4_open_48 : decode cX4_open 48 = .ok (.aload_n 0, 1) := by decide +kernel
theorem dX4_open_49 : decode cX4_open 49 = .ok (.dup, 1) := by decide +kernel
theorem dX4_open_50 : decode cX4_open 50 = .ok (.getfield 42, 3) := by decide +kernel
theorem dX4_open_53 : decode cX4_open 53 = .ok (.iconst 1, 1) := by decide +kernel
theorem dX4_open_54 : decode cX4_open 54 = .ok (.iadd, 1) := by decide +kernel
theorem dX4_open_55 : decode cX4_open 55 = .ok (.putfield 42, 3) := by decide +kernel
theorem dX4_open_58 : decode cX4_open 58 = .ok (.iconst 1, 1) := by decide +kernel
theorem dX4_open_59 : decode cX4_open 59 = .ok (.ireturn, 1) := by decide +kernel
theorem dX4_extend_0 : decode cX4_extend 0 = .ok (.aload_n 0, 1) := by decide +kernel
theorem dX4_extend_1 : decode cX4_extend 1 = .ok (.getfield 42, 3) := by decide +kernel
theorem dX4_extend_4 : decode cX4_extend 4 = .ok (.iconst 1, 1) := by decide +kernel
theorem dX4_extend_5 : decode cX4_extend 5 = .ok (.isub, 1) := by decide +kernel
theorem dX4_extend_6 : decode cX4_extend 6 = .ok (.istore_n 2, 1) := by decide +kernel
theorem dX4_extend_7 : decode cX4_extend 7 = .ok (.iload_n 2, 1) := by decide +kernel
theorem dX4_extend_8 : decode cX4_extend 8 = .ok (.ifCond .lt 19, 3) := by decide +kernel
theorem dX4_extend_11 : decode cX4_extend 11 = .ok (.iload_n 2, 1) := by decide +kernel
theorem dX4_extend_12 : decode cX4_extend 12 = .ok (.bipush 24, 2) := by decide +kernel
theorem dX4_extend_14 : decode cX4_extend 14 = .ok (.if_icmp .ge 13, 3) := by decide +kernel
theorem dX4_extend_17 : decode cX4_extend 17 = .ok (.aload_n 0, 1) := by decide +kernel
theorem dX4_extend_18 : decode cX4_extend 18 = .ok (.getfield 18, 3) := by decide +kernel
theorem dX4_extend_21 : decode cX4_extend 21 = .ok (.iload_n 2, 1) := by decide +kernel
theorem dX4_extend_22 : decode cX4_extend 22 = .ok (.iaload, 1) := by decide +kernel
theorem dX4_extend_23 : decode cX4_extend 23 = .ok (.iconst 5, 1) := by decide +kernel
theorem dX4_extend_24 : decode cX4_extend 24 = .ok (.if_icmp .lt 5, 3) := by decide +kernel
theorem dX4_extend_27 : decode cX4_extend 27 = .ok (.iconst 0, 1) := by decide +kernel
theorem dX4_extend_28 : decode cX4_extend 28 = .ok (.ireturn, 1) := by decide +kernel
theorem dX4_extend_29 : decode cX4_extend 29 = .ok (.aload_n 0, 1) := by decide +kernel
theorem dX4_extend_30 : decode cX4_extend 30 = .ok (.getfield 15, 3) := by decide +kernel
theorem dX4_extend_33 : decode cX4_extend 33 = .ok (.iload_n 2, 1) := by decide +kernel
theorem dX4_extend_34 : decode cX4_extend 34 = .ok (.iconst 5, 1) := by decide +kernel
theorem dX4_extend_35 : decode cX4_extend 35 = .ok (.imul, 1) := by decide +kernel
theorem dX4_extend_36 : decode cX4_extend 36 = .ok (.aload_n 0, 1) := by decide +kernel
theorem dX4_extend_37 : decode cX4_extend 37 = .ok (.getfield 18, 3) := by decide +kernel
theorem dX4_extend_40 : decode cX4_extend 40 = .ok (.iload_n 2, 1) := by decide +kernel
theorem dX4_extend_41 : decode cX4_extend 41 = .ok (.iaload, 1) := by decide +kernel
theorem dX4_extend_42 : decode cX4_extend 42 = .ok (.iadd, 1) := by decide +kernel
theorem dX4_extend_43 : decode cX4_extend 43 = .ok (.iload_n 1, 1) := by decide +kernel
theorem dX4_extend_44 : decode cX4_extend 44 = .ok (.iastore, 1) := by decide +kernel
theorem dX4_extend_45 : decode cX4_extend 45 = .ok (.aload_n 0, 1) := by decide +kernel
theorem dX4_extend_46 : decode cX4_extend 46 = .ok (.getfield 18, 3) := by decide +kernel
theorem dX4_extend_49 : decode cX4_extend 49 = .ok (.iload_n 2, 1) := by decide +kernel
theorem dX4_extend_50 : decode cX4_extend 50 = .ok (.dup2, 1) := by decide +kernel
theorem dX4_extend_51 : decode cX4_extend 51 = .ok (.iaload, 1) := by decide +kernel
theorem dX4_extend_52 : decode cX4_extend 52 = .ok (.iconst 1, 1) := by decide +kernel
theorem dX4_extend_53 : decode cX4_extend 53 = .ok (.iadd, 1) := by decide +kernel
theorem dX4_extend_54 : decode cX4_extend 54 = .ok (.iastore, 1) := by decide +kernel
theorem dX4_extend_55 : decode cX4_extend 55 = .ok (.iconst 1, 1) := by decide +kernel
theorem dX4_extend_56 : decode cX4_extend 56 = .ok (.ireturn, 1) := by decide +kernel
theorem dX4_freeHelper_0 : decode cX4_freeHelper 0 = .ok (.iconst 0, 1) := by decide +kernel
theorem dX4_freeHelper_1 : decode cX4_freeHelper 1 = .ok (.istore_n 1, 1) := by decide +kernel
theorem dX4_freeHelper_2 : decode cX4_freeHelper 2 = .ok (.iconst 0, 1) := by decide +kernel
theorem dX4_freeHelper_3 : decode cX4_freeHelper 3 = .ok (.istore_n 2, 1) := by decide +kernel
theorem dX4_freeHelper_4 : decode cX4_freeHelper 4 = .ok (.iload_n 2, 1) := by decide +kernel
theorem dX4_freeHelper_5 : decode cX4_freeHelper 5 = .ok (.aload_n 0, 1) := by decide +kernel
theorem dX4_freeHelper_6 : decode cX4_freeHelper 6 = .ok (.getfield 42, 3) := by decide +kernel
theorem dX4_freeHelper_9 : decode cX4_freeHelper 9 = .ok (.if_icmp .ge 62, 3) := by decide +kernel
theorem dX4_freeHelper_12 : decode cX4_freeHelper 12 = .ok (.iload_n 1, 1) := by decide +kernel
theorem dX4_freeHelper_13 : decode cX4_freeHelper 13 = .ok (.iconst 1, 1) := by decide +kernel
theorem dX4_freeHelper_14 : decode cX4_freeHelper 14 = .ok (.aload_n 0, 1) := by decide +kernel
theorem dX4_freeHelper_15 : decode cX4_freeHelper 15 = .ok (.iload_n 2, 1) := by decide +kernel
theorem dX4_freeHelper_16 : decode cX4_freeHelper 16 = .ok (.invokevirtual 64, 3) := by decide +kernel
theorem dX4_freeHelper_19 : decode cX4_freeHelper 19 = .ok (.ishl, 1) := by decide +kernel
theorem dX4_freeHelper_20 : decode cX4_freeHelper 20 = .ok (.ior, 1) := by decide +kernel
theorem dX4_freeHelper_21 : decode cX4_freeHelper 21 = .ok (.istore_n 1, 1) := by decide +kernel
theorem dX4_freeHelper_22 : decode cX4_freeHelper 22 = .ok (.iconst 0, 1) := by decide +kernel
theorem dX4_freeHelper_23 : decode cX4_freeHelper 23 = .ok (.istore_n 3, 1) := by decide +kernel
theorem dX4_freeHelper_24 : decode cX4_freeHelper 24 = .ok (.iload_n 3, 1) := by decide +kernel
theorem dX4_freeHelper_25 : decode cX4_freeHelper 25 = .ok (.aload_n 0, 1) := by decide +kernel
theorem dX4_freeHelper_26 : decode cX4_freeHelper 26 = .ok (.iload_n 2, 1) := by decide +kernel
theorem dX4_freeHelper_27 : decode cX4_freeHelper 27 = .ok (.invokevirtual 52, 3) := by decide +kernel
theorem dX4_freeHelper_30 : decode cX4_freeHelper 30 = .ok (.if_icmp .ge 35, 3) := by decide +kernel
theorem dX4_freeHelper_33 : decode cX4_freeHelper 33 = .ok (.aload_n 0, 1) := by decide +kernel
theorem dX4_freeHelper_34 : decode cX4_freeHelper 34 = .ok (.iload_n 2, 1) := by decide +kernel
theorem dX4_freeHelper_35 : decode cX4_freeHelper 35 = .ok (.iload_n 3, 1) := by decide +kernel
theorem dX4_freeHelper_36 : decode cX4_freeHelper 36 = .ok (.invokevirtual 56, 3) := by decide +kernel
theorem dX4_freeHelper_39 : decode cX4_freeHelper 39 = .ok (.istore 4, 2) := by decide +kernel
theorem dX4_freeHelper_41 : decode cX4_freeHelper 41 = .ok (.iload 4, 2) := by decide +kernel
theorem dX4_freeHelper_43 : decode cX4_freeHelper 43 = .ok (.invokestatic 67, 3) := by decide +kernel
theorem dX4_freeHelper_46 : decode cX4_freeHelper 46 = .ok (.ifCond .eq 13, 3) := by decide +kernel
theorem dX4_freeHelper_49 : decode cX4_freeHelper 49 = .ok (.iload_n 1, 1) := by decide +kernel
theorem dX4_freeHelper_50 : decode cX4_freeHelper 50 = .ok (.iconst 1, 1) := by decide +kernel
theorem dX4_freeHelper_51 : decode cX4_freeHelper 51 = .ok (.iload 4, 2) := by decide +kernel
theorem dX4_freeHelper_53 : decode cX4_freeHelper 53 = .ok (.bipush 16, 2) := by decide +kernel
theorem dX4_freeHelper_55 : decode cX4_freeHelper 55 = .ok (.isub, 1) := by decide +kernel
theorem dX4_freeHelper_56 : decode cX4_freeHelper 56 = .ok (.ishl, 1) := by decide +kernel
theorem dX4_freeHelper_57 : decode cX4_freeHelper 57 = .ok (.ior, 1) := by decide +kernel
theorem dX4_freeHelper_58 : decode cX4_freeHelper 58 = .ok (.istore_n 1, 1) := by decide +kernel
theorem dX4_freeHelper_59 : decode cX4_freeHelper 59 = .ok (.iinc 3 1, 3) := by decide +kernel
theorem dX4_freeHelper_62 : decode cX4_freeHelper 62 = .ok (.goto (-38), 3) := by decide +kernel
theorem dX4_freeHelper_65 : decode cX4_freeHelper 65 = .ok (.iinc 2 1, 3) := by decide +kernel
theorem dX4_freeHelper_68 : decode cX4_freeHelper 68 = .ok (.goto (-64), 3) := by decide +kernel
theorem dX4_freeHelper_71 : decode cX4_freeHelper 71 = .ok (.bipush 8, 2) := by decide +kernel
theorem dX4_freeHelper_73 : decode cX4_freeHelper 73 = .ok (.istore_n 2, 1) := by decide +kernel
theorem dX4_freeHelper_74 : decode cX4_freeHelper 74 = .ok (.iload_n 2, 1) := by decide +kernel
theorem dX4_freeHelper_75 : decode cX4_freeHelper 75 = .ok (.bipush 16, 2) := by decide +kernel
theorem dX4_freeHelper_77 : decode cX4_freeHelper 77 = .ok (.if_icmp .ge 19, 3) := by decide +kernel
theorem dX4_freeHelper_80 : decode cX4_freeHelper 80 = .ok (.iload_n 1, 1) := by decide +kernel
theorem dX4_freeHelper_81 : decode cX4_freeHelper 81 = .ok (.iload_n 2, 1) := by decide +kernel
theorem dX4_freeHelper_82 : decode cX4_freeHelper 82 = .ok (.invokestatic 70, 3) := by decide +kernel
theorem dX4_freeHelper_85 : decode cX4_freeHelper 85 = .ok (.ifCond .ne 5, 3) := by decide +kernel
theorem dX4_freeHelper_88 : decode cX4_freeHelper 88 = .ok (.iload_n 2, 1) := by decide +kernel
theorem dX4_freeHelper_89 : decode cX4_freeHelper 89 = .ok (.ireturn, 1) := by decide +kernel
theorem dX4_freeHelper_90 : decode cX4_freeHelper 90 = .ok (.iinc 2 1, 3) := by decide +kernel
theorem dX4_freeHelper_93 : decode cX4_freeHelper 93 = .ok (.goto (-19), 3) := by decide +kernel
theorem dX4_freeHelper_96 : decode cX4_freeHelper 96 = .ok (.iconst (-1), 1) := by decide +kernel
theorem dX4_freeHelper_97 : decode cX4_freeHelper 97 = .ok (.ireturn, 1) := by decide +kernel
theorem dX4_admit_0 : decode cX4_admit 0 = .ok (.aload_n 0, 1) := by decide +kernel
theorem dX4_admit_1 : decode cX4_admit 1 = .ok (.getfield 42, 3) := by decide +kernel
theorem dX4_admit_4 : decode cX4_admit 4 = .ok (.istore_n 2, 1) := by decide +kernel
theorem dX4_admit_5 : decode cX4_admit 5 = .ok (.aload_n 0, 1) := by decide +kernel
theorem dX4_admit_6 : decode cX4_admit 6 = .ok (.getfield 46, 3) := by decide +kernel
theorem dX4_admit_9 : decode cX4_admit 9 = .ok (.ifCond .lt 24, 3) := by decide +kernel
theorem dX4_admit_12 : decode cX4_admit 12 = .ok (.aload_n 0, 1) := by decide +kernel
theorem dX4_admit_13 : decode cX4_admit 13 = .ok (.getfield 46, 3) := by decide +kernel
theorem dX4_admit_16 : decode cX4_admit 16 = .ok (.bipush 24, 2) := by decide +kernel
theorem dX4_admit_18 : decode cX4_admit 18 = .ok (.if_icmp .ge 15, 3) := by decide +kernel
theorem dX4_admit_21 : decode cX4_admit 21 = .ok (.aload_n 0, 1) := by decide +kernel
theorem dX4_admit_22 : decode cX4_admit 22 = .ok (.getfield 23, 3) := by decide +kernel
theorem dX4_admit_25 : decode cX4_admit 25 = .ok (.aload_n 0, 1) := by decide +kernel
theorem dX4_admit_26 : decode cX4_admit 26 = .ok (.getfield 46, 3) := by decide +kernel
theorem dX4_admit_29 : decode cX4_admit 29 = .ok (.aaload, 1) := by decide +kernel
theorem dX4_admit_30 : decode cX4_admit 30 = .ok (.goto 4, 3) := by decide +kernel
theorem dX4_admit_33 : decode cX4_admit 33 = .ok (.aconst_null, 1) := by decide +kernel
theorem dX4_admit_34 : decode cX4_admit 34 = .ok (.astore_n 3, 1) := by decide +kernel
theorem dX4_admit_35 : decode cX4_admit 35 = .ok (.aload_n 3, 1) := by decide +kernel
theorem dX4_admit_36 : decode cX4_admit 36 = .ok (.ifnull 15, 3) := by decide +kernel
theorem dX4_admit_39 : decode cX4_admit 39 = .ok (.aload_n 0, 1) := by decide +kernel
theorem dX4_admit_40 : decode cX4_admit 40 = .ok (.getfield 38, 3) := by decide +kernel
theorem dX4_admit_43 : decode cX4_admit 43 = .ok (.aload_n 1, 1) := by decide +kernel
theorem dX4_admit_44 : decode cX4_admit 44 = .ok (.aload_n 0, 1) := by decide +kernel
theorem dX4_admit_45 : decode cX4_admit 45 = .ok (.invokevirtual 74, 3) := by decide +kernel
theorem dX4_admit_48 : decode cX4_admit 48 = .ok (.ifCond .ne 10, 3) := by decide +kernel
theorem dX4_admit_51 : decode cX4_admit 51 = .ok (.aload_n 0, 1) := by decide +kernel
theorem dX4_admit_52 : decode cX4_admit 52 = .ok (.iload_n 2, 1) := by decide +kernel
theorem dX4_admit_53 : decode cX4_admit 53 = .ok (.putfield 42, 3) := by decide +kernel
theorem dX4_admit_56 : decode cX4_admit 56 = .ok (.iconst 0, 1) := by decide +kernel
theorem dX4_admit_57 : decode cX4_admit 57 = .ok (.ireturn, 1) := by decide +kernel
theorem dX4_admit_58 : decode cX4_admit 58 = .ok (.aload_n 3, 1) := by decide +kernel
theorem dX4_admit_59 : decode cX4_admit 59 = .ok (.aload_n 1, 1) := by decide +kernel
theorem dX4_admit_60 : decode cX4_admit 60 = .ok (.iconst 0, 1) := by decide +kernel
theorem dX4_admit_61 : decode cX4_admit 61 = .ok (.invokevirtual 78, 3) := by decide +kernel
theorem dX4_admit_64 : decode cX4_admit 64 = .ok (.aload_n 0, 1) := by decide +kernel
theorem dX4_admit_65 : decode cX4_admit 65 = .ok (.getfield 27, 3) := by decide +kernel
theorem dX4_admit_68 : decode cX4_admit 68 = .ok (.aload_n 0, 1) := by decide +kernel
theorem dX4_admit_69 : decode cX4_admit 69 = .ok (.getfield 46, 3) := by decide +kernel
theorem dX4_admit_72 : decode cX4_admit 72 = .ok (.iload_n 2, 1) := by decide +kernel
theorem dX4_admit_73 : decode cX4_admit 73 = .ok (.iastore, 1) := by decide +kernel
theorem dX4_admit_74 : decode cX4_admit 74 = .ok (.aload_n 0, 1) := by decide +kernel
theorem dX4_admit_75 : decode cX4_admit 75 = .ok (.dup, 1) := by decide +kernel
theorem dX4_admit_76 : decode cX4_admit 76 = .ok (.getfield 46, 3) := by decide +kernel
theorem dX4_admit_79 : decode cX4_admit 79 = .ok (.iconst 1, 1) := by decide +kernel
theorem dX4_admit_80 : decode cX4_admit 80 = .ok (.iadd, 1) := by decide +kernel
theorem dX4_admit_81 : decode cX4_admit 81 = .ok (.putfield 46, 3) := by decide +kernel
theorem dX4_admit_84 : decode cX4_admit 84 = .ok (.iconst 1, 1) := by decide +kernel
theorem dX4_admit_85 : decode cX4_admit 85 = .ok (.ireturn, 1) := by decide +kernel
theorem dX4_admitAll_0 : decode cX4_admitAll 0 = .ok (.aload_n 0, 1) := by decide +kernel
theorem dX4_admitAll_1 : decode cX4_admitAll 1 = .ok (.getfield 42, 3) := by decide +kernel
theorem dX4_admitAll_4 : decode cX4_admitAll 4 = .ok (.istore_n 3, 1) := by decide +kernel
theorem dX4_admitAll_5 : decode cX4_admitAll 5 = .ok (.aload_n 0, 1) := by decide +kernel
theorem dX4_admitAll_6 : decode cX4_admitAll 6 = .ok (.getfield 46, 3) := by decide +kernel
theorem dX4_admitAll_9 : decode cX4_admitAll 9 = .ok (.istore 4, 2) := by decide +kernel
theorem dX4_admitAll_11 : decode cX4_admitAll 11 = .ok (.iconst 0, 1) := by decide +kernel
theorem dX4_admitAll_12 : decode cX4_admitAll 12 = .ok (.istore 5, 2) := by decide +kernel
theorem dX4_admitAll_14 : decode cX4_admitAll 14 = .ok (.iload 5, 2) := by decide +kernel
theorem dX4_admitAll_16 : decode cX4_admitAll 16 = .ok (.aload_n 1, 1) := by decide +kernel
theorem dX4_admitAll_17 : decode cX4_admitAll 17 = .ok (.getfield 46, 3) := by decide +kernel
theorem dX4_admitAll_20 : decode cX4_admitAll 20 = .ok (.if_icmp .ge 69, 3) := by decide +kernel
theorem dX4_admitAll_23 : decode cX4_admitAll 23 = .ok (.iload 5, 2) := by decide +kernel
theorem dX4_admitAll_25 : decode cX4_admitAll 25 = .ok (.bipush 24, 2) := by decide +kernel
theorem dX4_admitAll_27 : decode cX4_admitAll 27 = .ok (.if_icmp .ge 62, 3) := by decide +kernel
theorem dX4_admitAll_30 : decode cX4_admitAll 30 = .ok (.aload_n 1, 1) := by decide +kernel
theorem dX4_admitAll_31 : decode cX4_admitAll 31 = .ok (.getfield 23, 3) := by decide +kernel
theorem dX4_admitAll_34 : decode cX4_admitAll 34 = .ok (.iload 5, 2) := by decide +kernel
theorem dX4_admitAll_36 : decode cX4_admitAll 36 = .ok (.aaload, 1) := by decide +kernel
theorem dX4_admitAll_37 : decode cX4_admitAll 37 = .ok (.astore 6, 2) := by decide +kernel
theorem dX4_admitAll_39 : decode cX4_admitAll 39 = .ok (.aload 6, 2) := by decide +kernel
theorem dX4_admitAll_41 : decode cX4_admitAll 41 = .ok (.ifnull 13, 3) := by decide +kernel
theorem dX4_admitAll_44 : decode cX4_admitAll 44 = .ok (.aload_n 0, 1) := by decide +kernel
theorem dX4_admitAll_45 : decode cX4_admitAll 45 = .ok (.getfield 31, 3) := by decide +kernel
theorem dX4_admitAll_48 : decode cX4_admitAll 48 = .ok (.aload 6, 2) := by decide +kernel
theorem dX4_admitAll_50 : decode cX4_admitAll 50 = .ok (.iload_n 2, 1) := by decide +kernel
theorem dX4_admitAll_51 : decode cX4_admitAll 51 = .ok (.invokevirtual 78, 3) := by decide +kernel
theorem dX4_admitAll_54 : decode cX4_admitAll 54 = .ok (.aload 6, 2) := by decide +kernel
theorem dX4_admitAll_56 : decode cX4_admitAll 56 = .ok (.ifnull 14, 3) := by decide +kernel
theorem dX4_admitAll_59 : decode cX4_admitAll 59 = .ok (.aload_n 0, 1) := by decide +kernel
theorem dX4_admitAll_60 : decode cX4_admitAll 60 = .ok (.aload_n 0, 1) := by decide +kernel
theorem dX4_admitAll_61 : decode cX4_admitAll 61 = .ok (.getfield 31, 3) := by decide +kernel
theorem dX4_admitAll_64 : decode cX4_admitAll 64 = .ok (.invokevirtual 82, 3) := by decide +kernel
theorem dX4_admitAll_67 : decode cX4_admitAll 67 = .ok (.ifCond .ne 16, 3) := by decide +kernel
theorem dX4_admitAll_70 : decode cX4_admitAll 70 = .ok (.aload_n 0, 1) := by decide +kernel
theorem dX4_admitAll_71 : decode cX4_admitAll 71 = .ok (.iload_n 3, 1) := by decide +kernel
theorem dX4_admitAll_72 : decode cX4_admitAll 72 = .ok (.putfield 42, 3) := by decide +kernel
theorem dX4_admitAll_75 : decode cX4_admitAll 75 = .ok (.aload_n 0, 1) := by decide +kernel
theorem dX4_admitAll_76 : decode cX4_admitAll 76 = .ok (.iload 4, 2) := by decide +kernel
theorem dX4_admitAll_78 : decode cX4_admitAll 78 = .ok (.putfield 46, 3) := by decide +kernel
theorem dX4_admitAll_81 : decode cX4_admitAll 81 = .ok (.iconst 0, 1) := by decide +kernel
theorem dX4_admitAll_82 : decode cX4_admitAll 82 = .ok (.ireturn, 1) := by decide +kernel
theorem dX4_admitAll_83 : decode cX4_admitAll 83 = .ok (.iinc 5 1, 3) := by decide +kernel
theorem dX4_admitAll_86 : decode cX4_admitAll 86 = .ok (.goto (-72), 3) := by decide +kernel
theorem dX4_admitAll_89 : decode cX4_admitAll 89 = .ok (.iconst 1, 1) := by decide +kernel
theorem dX4_admitAll_90 : decode cX4_admitAll 90 = .ok (.ireturn, 1) := by decide +kernel
theorem dX4_dropLastRule_0 : decode cX4_dropLastRule 0 = .ok (.aload_n 0, 1) := by decide +kernel
theorem dX4_dropLastRule_1 : decode cX4_dropLastRule 1 = .ok (.getfield 46, 3) := by decide +kernel
theorem dX4_dropLastRule_4 : decode cX4_dropLastRule 4 = .ok (.ifCond .le 12, 3) := by decide +kernel
theorem dX4_dropLastRule_7 : decode cX4_dropLastRule 7 = .ok (.aload_n 0, 1) := by decide +kernel
theorem dX4_dropLastRule_8 : decode cX4_dropLastRule 8 = .ok (.getfield 46, 3) := by decide +kernel
theorem dX4_dropLastRule_11 : decode cX4_dropLastRule 11 = .ok (.bipush 24, 2) := by decide +kernel
theorem dX4_dropLastRule_13 : decode cX4_dropLastRule 13 = .ok (.if_icmp .le 5, 3) := by decide +kernel
theorem dX4_dropLastRule_16 : decode cX4_dropLastRule 16 = .ok (.iconst 0, 1) := by decide +kernel
theorem dX4_dropLastRule_17 : decode cX4_dropLastRule 17 = .ok (.ireturn, 1) := by decide +kernel
theorem dX4_dropLastRule_18 : decode cX4_dropLastRule 18 = .ok (.aload_n 0, 1) := by decide +kernel
theorem dX4_dropLastRule_19 : decode cX4_dropLastRule 19 = .ok (.dup, 1) := by decide +kernel
theorem dX4_dropLastRule_20 : decode cX4_dropLastRule 20 = .ok (.getfield 46, 3) := by decide +kernel
theorem dX4_dropLastRule_23 : decode cX4_dropLastRule 23 = .ok (.iconst 1, 1) := by decide +kernel
theorem dX4_dropLastRule_24 : decode cX4_dropLastRule 24 = .ok (.isub, 1) := by decide +kernel
theorem dX4_dropLastRule_25 : decode cX4_dropLastRule 25 = .ok (.putfield 46, 3) := by decide +kernel
theorem dX4_dropLastRule_28 : decode cX4_dropLastRule 28 = .ok (.aload_n 0, 1) := by decide +kernel
theorem dX4_dropLastRule_29 : decode cX4_dropLastRule 29 = .ok (.aload_n 0, 1) := by decide +kernel
theorem dX4_dropLastRule_30 : decode cX4_dropLastRule 30 = .ok (.getfield 27, 3) := by decide +kernel
theorem dX4_dropLastRule_33 : decode cX4_dropLastRule 33 = .ok (.aload_n 0, 1) := by decide +kernel
theorem dX4_dropLastRule_34 : decode cX4_dropLastRule 34 = .ok (.getfield 46, 3) := by decide +kernel
theorem dX4_dropLastRule_37 : decode cX4_dropLastRule 37 = .ok (.iaload, 1) := by decide +kernel
theorem dX4_dropLastRule_38 : decode cX4_dropLastRule 38 = .ok (.putfield 42, 3) := by decide +kernel
theorem dX4_dropLastRule_41 : decode cX4_dropLastRule 41 = .ok (.iconst 1, 1) := by decide +kernel
theorem dX4_dropLastRule_42 : decode cX4_dropLastRule 42 = .ok (.ireturn, 1) := by decide +kernel
theorem dX5_init_0 : decode cX5_init 0 = .ok (.aload_n 0, 1) := by decide +kernel
theorem dX5_init_1 : decode cX5_init 1 = .ok (.invokespecial 3, 3) := by decide +kernel
theorem dX5_init_4 : decode cX5_init 4 = .ok (.aload_n 0, 1) := by decide +kernel
theorem dX5_init_5 : decode cX5_init 5 = .ok (.sipush 1501, 3) := by decide +kernel
theorem dX5_init_8 : decode cX5_init 8 = .ok (.newarray .int, 2) := by decide +kernel
theorem dX5_init_10 : decode cX5_init 10 = .ok (.putfield 9, 3) := by decide +kernel
theorem dX5_init_13 : decode cX5_init 13 = .ok (.aload_n 0, 1) := by decide +kernel
theorem dX5_init_14 : decode cX5_init 14 = .ok (.sipush 300, 3) := by decide +kernel
theorem dX5_init_17 : decode cX5_init 17 = .ok (.newarray .int, 2) := by decide +kernel
theorem dX5_init_19 : decode cX5_init 19 = .ok (.putfield 15, 3) := by decide +kernel
theorem dX5_init_22 : decode cX5_init 22 = .ok (.aload_n 0, 1) := by decide +kernel
theorem dX5_init_23 : decode cX5_init 23 = .ok (.aload_n 1, 1) := by decide +kernel
theorem dX5_init_24 : decode cX5_init 24 = .ok (.putfield 18, 3) := by decide +kernel
theorem dX5_init_27 : decode cX5_init 27 = .ok (.aload_n 0, 1) := by decide +kernel
theorem dX5_init_28 : decode cX5_init 28 = .ok (.aload_n 2, 1) := by decide +kernel
theorem dX5_init_29 : decode cX5_init 29 = .ok (.putfield 22, 3) := by decide +kernel
theorem dX5_init_32 : decode cX5_init 32 = .ok (.return_, 1) := by decide +kernel
theorem dX5_extent_0 : decode cX5_extent 0 = .ok (.aload_n 0, 1) := by decide +kernel
theorem dX5_extent_1 : decode cX5_extent 1 = .ok (.iconst 1, 1) := by decide +kernel
theorem dX5_extent_2 : decode cX5_extent 2 = .ok (.invokevirtual 25, 3) := by decide +kernel
theorem dX5_extent_5 : decode cX5_extent 5 = .ok (.ireturn, 1) := by decide +kernel
theorem dX5_clashes_0 : decode cX5_clashes 0 = .ok (.aload_n 0, 1) := by decide +kernel
theorem dX5_clashes_1 : decode cX5_clashes 1 = .ok (.iconst 2, 1) := by decide +kernel
theorem dX5_clashes_2 : decode cX5_clashes 2 = .ok (.invokevirtual 25, 3) := by decide +kernel
theorem dX5_clashes_5 : decode cX5_clashes 5 = .ok (.ireturn, 1) := by decide +kernel
theorem dX5_easedClashes_0 : decode cX5_easedClashes 0 = .ok (.iconst 0, 1) := by decide +kernel
theorem dX5_easedClashes_1 : decode cX5_easedClashes 1 = .ok (.ireturn, 1) := by decide +kernel
theorem dX5_run_0 : decode cX5_run 0 = .ok (.aload_n 0, 1) := by decide +kernel
theorem dX5_run_1 : decode cX5_run 1 = .ok (.iconst 0, 1) := by decide +kernel
theorem dX5_run_2 : decode cX5_run 2 = .ok (.putfield 29, 3) := by decide +kernel
theorem dX5_run_5 : decode cX5_run 5 = .ok (.aload_n 0, 1) := by decide +kernel
theorem dX5_run_6 : decode cX5_run 6 = .ok (.iconst 0, 1) := by decide +kernel
theorem dX5_run_7 : decode cX5_run 7 = .ok (.putfield 33, 3) := by decide +kernel
theorem dX5_run_10 : decode cX5_run 10 = .ok (.aload_n 0, 1) := by decide +kernel
theorem dX5_run_11 : decode cX5_run 11 = .ok (.bipush 16, 2) := by decide +kernel
theorem dX5_run_13 : decode cX5_run 13 = .ok (.aload_n 0, 1) := by decide +kernel
theorem dX5_run_14 : decode cX5_run 14 = .ok (.getfield 18, 3) := by decide +kernel
theorem dX5_run_17 : decode cX5_run 17 = .ok (.invokevirtual 36, 3) := by decide +kernel
theorem dX5_run_20 : decode cX5_run 20 = .ok (.invokevirtual 42, 3) := by decide +kernel
theorem dX5_run_23 : decode cX5_run 23 = .ok (.iadd, 1) := by decide +kernel
theorem dX5_run_24 : decode cX5_run 24 = .ok (.invokevirtual 48, 3) := by decide +kernel
theorem dX5_run_27 : decode cX5_run 27 = .ok (.iconst 0, 1) := by decide +kernel
theorem dX5_run_28 : decode cX5_run 28 = .ok (.istore_n 1, 1) := by decide +kernel
theorem dX5_run_29 : decode cX5_run 29 = .ok (.iconst 0, 1) := by decide +kernel
theorem dX5_run_30 : decode cX5_run 30 = .ok (.istore_n 2, 1) := by decide +kernel
theorem dX5_run_31 : decode cX5_run 31 = .ok (.iload_n 2, 1) := by decide +kernel
theorem dX5_run_32 : decode cX5_run 32 = .ok (.sipush 300, 3) := by decide +kernel
theorem dX5_run_35 : decode cX5_run 35 = .ok (.if_icmp .gt 136, 3) := by decide +kernel
theorem dX5_run_38 : decode cX5_run 38 = .ok (.aload_n 0, 1) := by decide +kernel
theorem dX5_run_39 : decode cX5_run 39 = .ok (.getfield 22, 3) := by decide +kernel
theorem dX5_run_42 : decode cX5_run 42 = .ok (.iload_n 1, 1) := by decide +kernel
theorem dX5_run_43 : decode cX5_run 43 = .ok (.invokestatic 52, 3) := by decide +kernel
theorem dX5_run_46 : decode cX5_run 46 = .ok (.istore_n 3, 1) := by decide +kernel
theorem dX5_run_47 : decode cX5_run 47 = .ok (.aload_n 0, 1) := by decide +kernel
theorem dX5_run_48 : decode cX5_run 48 = .ok (.getfield 29, 3) := by decide +kernel
theorem dX5_run_51 : decode cX5_run 51 = .ok (.ifCond .ne 19, 3) := by decide +kernel
theorem dX5_run_54 : decode cX5_run 54 = .ok (.iload_n 3, 1) := by decide +kernel
theorem dX5_run_55 : decode cX5_run 55 = .ok (.bipush 8, 2) := by decide +kernel
theorem dX5_run_57 : decode cX5_run 57 = .ok (.if_icmp .ne 13, 3) := by decide +kernel
theorem dX5_run_60 : decode cX5_run 60 = .ok (.aload_n 0, 1) := by decide +kernel
theorem dX5_run_61 : decode cX5_run 61 = .ok (.aload_n 0, 1) := by decide +kernel
theorem dX5_run_62 : decode cX5_run 62 = .ok (.invokevirtual 56, 3) := by decide +kernel
theorem dX5_run_65 : decode cX5_run 65 = .ok (.invokevirtual 59, 3) := by decide +kernel
theorem dX5_run_68 : decode cX5_run 68 = .ok (.iconst (-1), 1) := by decide +kernel
theorem dX5_run_69 : decode cX5_run 69 = .ok (.ireturn, 1) := by decide +kernel
theorem dX5_run_70 : decode cX5_run 70 = .ok (.aload_n 0, 1) := by decide +kernel
theorem dX5_run_71 : decode cX5_run 71 = .ok (.invokevirtual 62, 3) := by decide +kernel
theorem dX5_run_74 : decode cX5_run 74 = .ok (.istore 4, 2) := by decide +kernel
theorem dX5_run_76 : decode cX5_run 76 = .ok (.iload 4, 2) := by decide +kernel
theorem dX5_run_78 : decode cX5_run 78 = .ok (.invokestatic 65, 3) := by decide +kernel
theorem dX5_run_81 : decode cX5_run 81 = .ok (.ifCond .eq 16, 3) := by decide +kernel
theorem dX5_run_84 : decode cX5_run 84 = .ok (.aload_n 0, 1) := by decide +kernel
theorem dX5_run_85 : decode cX5_run 85 = .ok (.iload 4, 2) := by decide +kernel
theorem dX5_run_87 : decode cX5_run 87 = .ok (.bipush 16, 2) := by decide +kernel
theorem dX5_run_89 : decode cX5_run 89 = .ok (.isub, 1) := by decide +kernel
theorem dX5_run_90 : decode cX5_run 90 = .ok (.iload_n 3, 1) := by decide +kernel
theorem dX5_run_91 : decode cX5_run 91 = .ok (.invokevirtual 69, 3) := by decide +kernel
theorem dX5_run_94 : decode cX5_run 94 = .ok (.goto 4, 3) := by decide +kernel
theorem dX5_run_97 : decode cX5_run 97 = .ok (.iconst (-1), 1) := by decide +kernel
theorem dX5_run_98 : decode cX5_run 98 = .ok (.istore 5, 2) := by decide +kernel
theorem dX5_run_100 : decode cX5_run 100 = .ok (.iload 4, 2) := by decide +kernel
theorem dX5_run_102 : decode cX5_run 102 = .ok (.invokestatic 73, 3) := by decide +kernel
theorem dX5_run_105 : decode cX5_run 105 = .ok (.ifCond .eq 13, 3) := by decide +kernel
theorem dX5_run_108 : decode cX5_run 108 = .ok (.iload 4, 2) := by decide +kernel
theorem dX5_run_110 : decode cX5_run 110 = .ok (.iload_n 3, 1) := by decide +kernel
theorem dX5_run_111 : decode cX5_run 111 = .ok (.if_icmp .ne 7, 3) := by decide +kernel
theorem dX5_run_114 : decode cX5_run 114 = .ok (.iconst 1, 1) := by decide +kernel
theorem dX5_run_115 : decode cX5_run 115 = .ok (.goto 4, 3) := by decide +kernel
theorem dX5_run_118 : decode cX5_run 118 = .ok (.iconst 0, 1) := by decide +kernel
theorem dX5_run_119 : decode cX5_run 119 = .ok (.istore 6, 2) := by decide +kernel
theorem dX5_run_121 : decode cX5_run 121 = .ok (.iload 6, 2) := by decide +kernel
theorem dX5_run_123 : decode cX5_run 123 = .ok (.ifCond .ne 11, 3) := by decide +kernel
theorem dX5_run_126 : decode cX5_run 126 = .ok (.iload 5, 2) := by decide +kernel
theorem dX5_run_128 : decode cX5_run 128 = .ok (.iconst (-1), 1) := by decide +kernel
theorem dX5_run_129 : decode cX5_run 129 = .ok (.if_icmp .ne 5, 3) := by decide +kernel
theorem dX5_run_132 : decode cX5_run 132 = .ok (.iload_n 1, 1) := by decide +kernel
theorem dX5_run_133 : decode cX5_run 133 = .ok (.ireturn, 1) := by decide +kernel
theorem dX5_run_134 : decode cX5_run 134 = .ok (.iload_n 2, 1) := by decide +kernel
theorem dX5_run_135 : decode cX5_run 135 = .ok (.sipush 300, 3) := by decide +kernel
theorem dX5_run_138 : decode cX5_run 138 = .ok (.if_icmp .ge 27, 3) := by decide +kernel
theorem dX5_run_141 : decode cX5_run 141 = .ok (.aload_n 0, 1) := by decide +kernel
theorem dX5_run_142 : decode cX5_run 142 = .ok (.invokevirtual 76, 3) := by decide +kernel
theorem dX5_run_145 : decode cX5_run 145 = .ok (.pop, 1) := by decide +kernel
theorem dX5_run_146 : decode cX5_run 146 = .ok (.aload_n 0, 1) := by decide +kernel
theorem dX5_run_147 : decode cX5_run 147 = .ok (.iload 5, 2) := by decide +kernel
theorem dX5_run_149 : decode cX5_run 149 = .ok (.invokevirtual 79, 3) := by decide +kernel
theorem dX5_run_152 : decode cX5_run 152 = .ok (.iload_n 1, 1) := by decide +kernel
theorem dX5_run_153 : decode cX5_run 153 = .ok (.iload 6, 2) := by decide +kernel
theorem dX5_run_155 : decode cX5_run 155 = .ok (.ifCond .eq 7, 3) := by decide +kernel
theorem dX5_run_158 : decode cX5_run 158 = .ok (.iconst 1, 1) := by decide +kernel
theorem dX5_run_159 : decode cX5_run 159 = .ok (.goto 4, 3) := by decide +kernel
theorem dX5_run_162 : decode cX5_run 162 = .ok (.iconst 0, 1) := by decide +kernel
theorem dX5_run_163 : decode cX5_run 163 = .ok (.iadd, 1) := by decide +kernel
theorem dX5_run_164 : decode cX5_run 164 = .ok (.istore_n 1, 1) := by decide +kernel
theorem dX5_run_165 : decode cX5_run 165 = .ok (.iinc 2 1, 3) := by decide +kernel
theorem dX5_run_168 : decode cX5_run 168 = .ok (.goto (-137), 3) := by decide +kernel
theorem dX5_run_171 : decode cX5_run 171 = .ok (.bipush (-3), 2) := by decide +kernel
theorem dX5_run_173 : decode cX5_run 173 = .ok (.ireturn, 1) := by decide +kernel
theorem dX5_cellsWith_0 : decode cX5_cellsWith 0 = .ok (.iconst 0, 1) := by decide +kernel
theorem dX5_cellsWith_1 : decode cX5_cellsWith 1 = .ok (.istore_n 2, 1) := by decide +kernel
theorem dX5_cellsWith_2 : decode cX5_cellsWith 2 = .ok (.iconst 0, 1) := by decide +kernel
theorem dX5_cellsWith_3 : decode cX5_cellsWith 3 = .ok (.istore_n 3, 1) := by decide +kernel
theorem dX5_cellsWith_4 : decode cX5_cellsWith 4 = .ok (.iload_n 3, 1) := by decide +kernel
theorem dX5_cellsWith_5 : decode cX5_cellsWith 5 = .ok (.bipush 16, 2) := by decide +kernel
theorem dX5_cellsWith_7 : decode cX5_cellsWith 7 = .ok (.if_icmp .ge 39, 3) := by decide +kernel
theorem dX5_cellsWith_10 : decode cX5_cellsWith 10 = .ok (.iconst 0, 1) := by decide +kernel
theorem dX5_cellsWith_11 : decode cX5_cellsWith 11 = .ok (.istore 4, 2) := by decide +kernel
theorem dX5_cellsWith_13 : decode cX5_cellsWith 13 = .ok (.iload 4, 2) := by decide +kernel
theorem dX5_cellsWith_15 : decode cX5_cellsWith 15 = .ok (.bipush 9, 2) := by decide +kernel
theorem dX5_cellsWith_17 : decode cX5_cellsWith 17 = .ok (.if_icmp .ge 23, 3) := by decide +kernel
theorem dX5_cellsWith_20 : decode cX5_cellsWith 20 = .ok (.aload_n 0, 1) := by decide +kernel
theorem dX5_cellsWith_21 : decode cX5_cellsWith 21 = .ok (.iload_n 3, 1) := by decide +kernel
theorem dX5_cellsWith_22 : decode cX5_cellsWith 22 = .ok (.iload 4, 2) := by decide +kernel
theorem dX5_cellsWith_24 : decode cX5_cellsWith 24 = .ok (.invokevirtual 82, 3) := by decide +kernel
theorem dX5_cellsWith_27 : decode cX5_cellsWith 27 = .ok (.iload_n 1, 1) := by decide +kernel
theorem dX5_cellsWith_28 : decode cX5_cellsWith 28 = .ok (.if_icmp .lt 6, 3) := by decide +kernel
theorem dX5_cellsWith_31 : decode cX5_cellsWith 31 = .ok (.iinc 2 1, 3) := by decide +kernel
theorem dX5_cellsWith_34 : decode cX5_cellsWith 34 = .ok (.iinc 4 1, 3) := by decide +kernel
theorem dX5_cellsWith_37 : decode cX5_cellsWith 37 = .ok (.goto (-24), 3) := by decide +kernel
theorem dX5_cellsWith_40 : decode cX5_cellsWith 40 = .ok (.iinc 3 1, 3) := by decide +kernel
theorem dX5_cellsWith_43 : decode cX5_cellsWith 43 = .ok (.goto (-39), 3) := by decide +kernel
theorem dX5_cellsWith_46 : decode cX5_cellsWith 46 = .ok (.iload_n 2, 1) := by decide +kernel
theorem dX5_cellsWith_47 : decode cX5_cellsWith 47 = .ok (.ireturn, 1) := by decide +kernel
theorem dX5_countIn_0 : decode cX5_countIn 0 = .ok (.iconst 0, 1) := by decide +kernel
theorem dX5_countIn_1 : decode cX5_countIn 1 = .ok (.istore_n 3, 1) := by decide +kernel
theorem dX5_countIn_2 : decode cX5_countIn 2 = .ok (.iconst 0, 1) := by decide +kernel
theorem dX5_countIn_3 : decode cX5_countIn 3 = .ok (.istore 4, 2) := by decide +kernel
theorem dX5_countIn_5 : decode cX5_countIn 5 = .ok (.iload 4, 2) := by decide +kernel
theorem dX5_countIn_7 : decode cX5_countIn 7 = .ok (.aload_n 0, 1) := by decide +kernel
theorem dX5_countIn_8 : decode cX5_countIn 8 = .ok (.getfield 18, 3) := by decide +kernel
theorem dX5_countIn_11 : decode cX5_countIn 11 = .ok (.invokevirtual 36, 3) := by decide +kernel
theorem dX5_countIn_14 : decode cX5_countIn 14 = .ok (.invokevirtual 85, 3) := by decide +kernel
theorem dX5_countIn_17 : decode cX5_countIn 17 = .ok (.if_icmp .ge 23, 3) := by decide +kernel
theorem dX5_countIn_20 : decode cX5_countIn 20 = .ok (.aload_n 0, 1) := by decide +kernel
theorem dX5_countIn_21 : decode cX5_countIn 21 = .ok (.iload 4, 2) := by decide +kernel
theorem dX5_countIn_23 : decode cX5_countIn 23 = .ok (.iload_n 1, 1) := by decide +kernel
theorem dX5_countIn_24 : decode cX5_countIn 24 = .ok (.iload_n 2, 1) := by decide +kernel
theorem dX5_countIn_25 : decode cX5_countIn 25 = .ok (.invokevirtual 88, 3) := by decide +kernel
theorem dX5_countIn_28 : decode cX5_countIn 28 = .ok (.ifCond .eq 6, 3) := by decide +kernel
theorem dX5_countIn_31 : decode cX5_countIn 31 = .ok (.iinc 3 1, 3) := by decide +kernel
theorem dX5_countIn_34 : decode cX5_countIn 34 = .ok (.iinc 4 1, 3) := by decide +kernel
theorem dX5_countIn_37 : decode cX5_countIn 37 = .ok (.goto (-32), 3) := by decide +kernel
theorem dX5_countIn_40 : decode cX5_countIn 40 = .ok (.iload_n 3, 1) := by decide +kernel
theorem dX5_countIn_41 : decode cX5_countIn 41 = .ok (.ireturn, 1) := by decide +kernel
theorem dX5_lowestIn_0 : decode cX5_lowestIn 0 = .ok (.iconst 0, 1) := by decide +kernel
theorem dX5_lowestIn_1 : decode cX5_lowestIn 1 = .ok (.istore_n 3, 1) := by decide +kernel
theorem dX5_lowestIn_2 : decode cX5_lowestIn 2 = .ok (.iload_n 3, 1) := by decide +kernel
theorem dX5_lowestIn_3 : decode cX5_lowestIn 3 = .ok (.aload_n 0, 1) := by decide +kernel
theorem dX5_lowestIn_4 : decode cX5_lowestIn 4 = .ok (.getfield 18, 3) := by decide +kernel
theorem dX5_lowestIn_7 : decode cX5_lowestIn 7 = .ok (.invokevirtual 36, 3) := by decide +kernel
theorem dX5_lowestIn_10 : decode cX5_lowestIn 10 = .ok (.invokevirtual 85, 3) := by decide +kernel
theorem dX5_lowestIn_13 : decode cX5_lowestIn 13 = .ok (.if_icmp .ge 21, 3) := by decide +kernel
theorem dX5_lowestIn_16 : decode cX5_lowestIn 16 = .ok (.aload_n 0, 1) := by decide +kernel
theorem dX5_lowestIn_17 : decode cX5_lowestIn 17 = .ok (.iload_n 3, 1) := by decide +kernel
theorem dX5_lowestIn_18 : decode cX5_lowestIn 18 = .ok (.iload_n 1, 1) := by decide +kernel
theorem dX5_lowestIn_19 : decode cX5_lowestIn 19 = .ok (.iload_n 2, 1) := by decide +kernel
theorem dX5_lowestIn_20 : decode cX5_lowestIn 20 = .ok (.invokevirtual 88, 3) := by decide +kernel
theorem dX5_lowestIn_23 : decode cX5_lowestIn 23 = .ok (.ifCond .eq 5, 3) := by decide +kernel
theorem dX5_lowestIn_26 : decode cX5_lowestIn 26 = .ok (.iload_n 3, 1) := by decide +kernel
theorem dX5_lowestIn_27 : decode cX5_lowestIn 27 = .ok (.ireturn, 1) := by decide +kernel
theorem dX5_lowestIn_28 : decode cX5_lowestIn 28 = .ok (.iinc 3 1, 3) := by decide +kernel
theorem dX5_lowestIn_31 : decode cX5_lowestIn 31 = .ok (.goto (-29), 3) := by decide +kernel
theorem dX5_lowestIn_34 : decode cX5_lowestIn 34 = .ok (.iconst (-1), 1) := by decide +kernel
theorem dX5_lowestIn_35 : decode cX5_lowestIn 35 = .ok (.ireturn, 1) := by decide +kernel
theorem dX5_isIn_0 : decode cX5_isIn 0 = .ok (.aload_n 0, 1) := by decide +kernel
theorem dX5_isIn_1 : decode cX5_isIn 1 = .ok (.getfield 18, 3) := by decide +kernel
theorem dX5_isIn_4 : decode cX5_isIn 4 = .ok (.invokevirtual 36, 3) := by decide +kernel
theorem dX5_isIn_7 : decode cX5_isIn 7 = .ok (.iload_n 1, 1) := by decide +kernel
theorem dX5_isIn_8 : decode cX5_isIn 8 = .ok (.invokevirtual 92, 3) := by decide +kernel
theorem dX5_isIn_11 : decode cX5_isIn 11 = .ok (.iload_n 2, 1) := by decide +kernel
theorem dX5_isIn_12 : decode cX5_isIn 12 = .ok (.if_icmp .ne 22, 3) := by decide +kernel
theorem dX5_isIn_15 : decode cX5_isIn 15 = .ok (.aload_n 0, 1) := by decide +kernel
theorem dX5_isIn_16 : decode cX5_isIn 16 = .ok (.getfield 18, 3) := by decide +kernel
theorem dX5_isIn_19 : decode cX5_isIn 19 = .ok (.iload_n 1, 1) := by decide +kernel
theorem dX5_isIn_20 : decode cX5_isIn 20 = .ok (.invokevirtual 95, 3) := by decide +kernel
theorem dX5_isIn_23 : decode cX5_isIn 23 = .ok (.iload_n 3, 1) := by decide +kernel
theorem dX5_isIn_24 : decode cX5_isIn 24 = .ok (.invokestatic 98, 3) := by decide +kernel
theorem dX5_isIn_27 : decode cX5_isIn 27 = .ok (.ifCond .eq 7, 3) := by decide +kernel
theorem dX5_isIn_30 : decode cX5_isIn 30 = .ok (.iconst 1, 1) := by decide +kernel
theorem dX5_isIn_31 : decode cX5_isIn 31 = .ok (.goto 4, 3) := by decide +kernel
theorem dX5_isIn_34 : decode cX5_isIn 34 = .ok (.iconst 0, 1) := by decide +kernel
theorem dX5_isIn_35 : decode cX5_isIn 35 = .ok (.ireturn, 1) := by decide +kernel
theorem dX5_next_0 : decode cX5_next 0 = .ok (.aload_n 0, 1) := by decide +kernel
theorem dX5_next_1 : decode cX5_next 1 = .ok (.getfield 29, 3) := by decide +kernel
theorem dX5_next_4 : decode cX5_next 4 = .ok (.ifCond .le 29, 3) := by decide +kernel
theorem dX5_next_7 : decode cX5_next 7 = .ok (.aload_n 0, 1) := by decide +kernel
theorem dX5_next_8 : decode cX5_next 8 = .ok (.getfield 29, 3) := by decide +kernel
theorem dX5_next_11 : decode cX5_next 11 = .ok (.aload_n 0, 1) := by decide +kernel
theorem dX5_next_12 : decode cX5_next 12 = .ok (.getfield 9, 3) := by decide +kernel
theorem dX5_next_15 : decode cX5_next 15 = .ok (.arraylength, 1) := by decide +kernel
theorem dX5_next_16 : decode cX5_next 16 = .ok (.if_icmp .gt 17, 3) := by decide +kernel
theorem dX5_next_19 : decode cX5_next 19 = .ok (.aload_n 0, 1) := by decide +kernel
theorem dX5_next_20 : decode cX5_next 20 = .ok (.getfield 9, 3) := by decide +kernel
theorem dX5_next_23 : decode cX5_next 23 = .ok (.aload_n 0, 1) := by decide +kernel
theorem dX5_next_24 : decode cX5_next 24 = .ok (.getfield 29, 3) := by decide +kernel
theorem dX5_next_27 : decode cX5_next 27 = .ok (.iconst 1, 1) := by decide +kernel
theorem dX5_next_28 : decode cX5_next 28 = .ok (.isub, 1) := by decide +kernel
theorem dX5_next_29 : decode cX5_next 29 = .ok (.iaload, 1) := by decide +kernel
theorem dX5_next_30 : decode cX5_next 30 = .ok (.goto 4, 3) := by decide +kernel
theorem dX5_next_33 : decode cX5_next 33 = .ok (.iconst (-1), 1) := by decide +kernel
theorem dX5_next_34 : decode cX5_next 34 = .ok (.ireturn, 1) := by decide +kernel
theorem dX5_push_0 : decode cX5_push 0 = .ok (.aload_n 0, 1) := by decide +kernel
theorem dX5_push_1 : decode cX5_push 1 = .ok (.getfield 29, 3) := by decide +kernel
theorem dX5_push_4 : decode cX5_push 4 = .ok (.ifCond .lt 35, 3) := by decide +kernel
theorem dX5_push_7 : decode cX5_push 7 = .ok (.aload_n 0, 1) := by decide +kernel
theorem dX5_push_8 : decode cX5_push 8 = .ok (.getfield 29, 3) := by decide +kernel
theorem dX5_push_11 : decode cX5_push 11 = .ok (.aload_n 0, 1) := by decide +kernel
theorem dX5_push_12 : decode cX5_push 12 = .ok (.getfield 9, 3) := by decide +kernel
theorem dX5_push_15 : decode cX5_push 15 = .ok (.arraylength, 1) := by decide +kernel
theorem dX5_push_16 : decode cX5_push 16 = .ok (.if_icmp .ge 23, 3) := by decide +kernel
theorem dX5_push_19 : decode cX5_push 19 = .ok (.aload_n 0, 1) := by decide +kernel
theorem dX5_push_20 : decode cX5_push 20 = .ok (.getfield 9, 3) := by decide +kernel
theorem dX5_push_23 : decode cX5_push 23 = .ok (.aload_n 0, 1) := by decide +kernel
theorem dX5_push_24 : decode cX5_push 24 = .ok (.getfield 29, 3) := by decide +kernel
theorem dX5_push_27 : decode cX5_push 27 = .ok (.iload_n 1, 1) := by decide +kernel
theorem dX5_push_28 : decode cX5_push 28 = .ok (.iastore, 1) := by decide +kernel
theorem dX5_push_29 : decode cX5_push 29 = .ok (.aload_n 0, 1) := by decide +kernel
theorem dX5_push_30 : decode cX5_push 30 = .ok (.dup, 1) := by decide +kernel
theorem dX5_push_31 : decode cX5_push 31 = .ok (.getfield 29, 3) := by decide +kernel
theorem dX5_push_34 : decode cX5_push 34 = .ok (.iconst 1, 1) := by decide +kernel
theorem dX5_push_35 : decode cX5_push 35 = .ok (.iadd, 1) := by decide +kernel
theorem dX5_push_36 : decode cX5_push 36 = .ok (.putfield 29, 3) := by decide +kernel
theorem dX5_push_39 : decode cX5_push 39 = .ok (.return_, 1) := by decide +kernel
theorem dX5_pop_0 : decode cX5_pop 0 = .ok (.aload_n 0, 1) := by decide +kernel
theorem dX5_pop_1 : decode cX5_pop 1 = .ok (.invokevirtual 62, 3) := by decide +kernel
theorem dX5_pop_4 : decode cX5_pop 4 = .ok (.istore_n 1, 1) := by decide +kernel
theorem dX5_pop_5 : decode cX5_pop 5 = .ok (.aload_n 0, 1) := by decide +kernel
theorem dX5_pop_6 : decode cX5_pop 6 = .ok (.getfield 29, 3) := by decide +kernel
theorem dX5_pop_9 : decode cX5_pop 9 = .ok (.ifCond .le 13, 3) := by decide +kernel
theorem dX5_pop_12 : decode cX5_pop 12 = .ok (.aload_n 0, 1) := by decide +kernel
theorem dX5_pop_13 : decode cX5_pop 13 = .ok (.dup, 1) := by decide +kernel
theorem dX5_pop_14 : decode cX5_pop 14 = .ok (.getfield 29, 3) := by decide +kernel
theorem dX5_pop_17 : decode cX5_pop 17 = .ok (.iconst 1, 1) := by decide +kernel
theorem dX5_pop_18 : decode cX5_pop 18 = .ok (.isub, 1) := by decide +kernel
theorem dX5_pop_19 : decode cX5_pop 19 = .ok (.putfield 29, 3) := by decide +kernel
theorem dX5_pop_22 : decode cX5_pop 22 = .ok (.iload_n 1, 1) := by decide +kernel
theorem dX5_pop_23 : decode cX5_pop 23 = .ok (.ireturn, 1) := by decide +kernel
theorem dX5_apply_0 : decode cX5_apply 0 = .ok (.aload_n 0, 1) := by decide +kernel
theorem dX5_apply_1 : decode cX5_apply 1 = .ok (.getfield 18, 3) := by decide +kernel
theorem dX5_apply_4 : decode cX5_apply 4 = .ok (.invokevirtual 36, 3) := by decide +kernel
theorem dX5_apply_7 : decode cX5_apply 7 = .ok (.iload_n 1, 1) := by decide +kernel
theorem dX5_apply_8 : decode cX5_apply 8 = .ok (.invokevirtual 102, 3) := by decide +kernel
theorem dX5_apply_11 : decode cX5_apply 11 = .ok (.iconst 1, 1) := by decide +kernel
theorem dX5_apply_12 : decode cX5_apply 12 = .ok (.isub, 1) := by decide +kernel
theorem dX5_apply_13 : decode cX5_apply 13 = .ok (.istore_n 2, 1) := by decide +kernel
theorem dX5_apply_14 : decode cX5_apply 14 = .ok (.iload_n 2, 1) := by decide +kernel
theorem dX5_apply_15 : decode cX5_apply 15 = .ok (.ifCond .lt 25, 3) := by decide +kernel
theorem dX5_apply_18 : decode cX5_apply 18 = .ok (.aload_n 0, 1) := by decide +kernel
theorem dX5_apply_19 : decode cX5_apply 19 = .ok (.aload_n 0, 1) := by decide +kernel
theorem dX5_apply_20 : decode cX5_apply 20 = .ok (.getfield 18, 3) := by decide +kernel
theorem dX5_apply_23 : decode cX5_apply 23 = .ok (.invokevirtual 36, 3) := by decide +kernel
theorem dX5_apply_26 : decode cX5_apply 26 = .ok (.iload_n 1, 1) := by decide +kernel
theorem dX5_apply_27 : decode cX5_apply 27 = .ok (.iload_n 2, 1) := by decide +kernel
theorem dX5_apply_28 : decode cX5_apply 28 = .ok (.invokevirtual 105, 3) := by decide +kernel
theorem dX5_apply_31 : decode cX5_apply 31 = .ok (.invokevirtual 48, 3) := by decide +kernel
theorem dX5_apply_34 : decode cX5_apply 34 = .ok (.iinc 2 (-1), 3) := by decide +kernel
theorem dX5_apply_37 : decode cX5_apply 37 = .ok (.goto (-23), 3) := by decide +kernel
theorem dX5_apply_40 : decode cX5_apply 40 = .ok (.iload_n 1, 1) := by decide +kernel
theorem dX5_apply_41 : decode cX5_apply 41 = .ok (.iconst (-1), 1) := by decide +kernel
theorem dX5_apply_42 : decode cX5_apply 42 = .ok (.if_icmp .eq 42, 3) := by decide +kernel
theorem dX5_apply_45 : decode cX5_apply 45 = .ok (.aload_n 0, 1) := by decide +kernel
theorem dX5_apply_46 : decode cX5_apply 46 = .ok (.getfield 33, 3) := by decide +kernel
theorem dX5_apply_49 : decode cX5_apply 49 = .ok (.ifCond .lt 35, 3) := by decide +kernel
theorem dX5_apply_52 : decode cX5_apply 52 = .ok (.aload_n 0, 1) := by decide +kernel
theorem dX5_apply_53 : decode cX5_apply 53 = .ok (.getfield 33, 3) := by decide +kernel
theorem dX5_apply_56 : decode cX5_apply 56 = .ok (.aload_n 0, 1) := by decide +kernel
theorem dX5_apply_57 : decode cX5_apply 57 = .ok (.getfield 15, 3) := by decide +kernel
theorem dX5_apply_60 : decode cX5_apply 60 = .ok (.arraylength, 1) := by decide +kernel
theorem dX5_apply_61 : decode cX5_apply 61 = .ok (.if_icmp .ge 23, 3) := by decide +kernel
theorem dX5_apply_64 : decode cX5_apply 64 = .ok (.aload_n 0, 1) := by decide +kernel
theorem dX5_apply_65 : decode cX5_apply 65 = .ok (.getfield 15, 3) := by decide +kernel
theorem dX5_apply_68 : decode cX5_apply 68 = .ok (.aload_n 0, 1) := by decide +kernel
theorem dX5_apply_69 : decode cX5_apply 69 = .ok (.getfield 33, 3) := by decide +kernel
theorem dX5_apply_72 : decode cX5_apply 72 = .ok (.iload_n 1, 1) := by decide +kernel
theorem dX5_apply_73 : decode cX5_apply 73 = .ok (.iastore, 1) := by decide +kernel
theorem dX5_apply_74 : decode cX5_apply 74 = .ok (.aload_n 0, 1) := by decide +kernel
theorem dX5_apply_75 : decode cX5_apply 75 = .ok (.dup, 1) := by decide +kernel
theorem dX5_apply_76 : decode cX5_apply 76 = .ok (.getfield 33, 3) := by decide +kernel
theorem dX5_apply_79 : decode cX5_apply 79 = .ok (.iconst 1, 1) := by decide +kernel
theorem dX5_apply_80 : decode cX5_apply 80 = .ok (.iadd, 1) := by decide +kernel
theorem dX5_apply_81 : decode cX5_apply 81 = .ok (.putfield 33, 3) := by decide +kernel
theorem dX5_apply_84 : decode cX5_apply 84 = .ok (.return_, 1) := by decide +kernel
theorem dX5_worthOfTree_0 : decode cX5_worthOfTree 0 = .ok (.aload_n 0, 1) := by decide +kernel
theorem dX5_worthOfTree_1 : decode cX5_worthOfTree 1 = .ok (.iconst 0, 1) := by decide +kernel
theorem dX5_worthOfTree_2 : decode cX5_worthOfTree 2 = .ok (.putfield 29, 3) := by decide +kernel
theorem dX5_worthOfTree_5 : decode cX5_worthOfTree 5 = .ok (.aload_n 0, 1) := by decide +kernel
theorem dX5_worthOfTree_6 : decode cX5_worthOfTree 6 = .ok (.getfield 33, 3) := by decide +kernel
theorem dX5_worthOfTree_9 : decode cX5_worthOfTree 9 = .ok (.aload_n 0, 1) := by decide +kernel
theorem dX5_worthOfTree_10 : decode cX5_worthOfTree 10 = .ok (.getfield 15, 3) := by decide +kernel
theorem dX5_worthOfTree_13 : decode cX5_worthOfTree 13 = .ok (.arraylength, 1) := by decide +kernel
theorem dX5_worthOfTree_14 : decode cX5_worthOfTree 14 = .ok (.invokestatic 108, 3) := by decide +kernel
theorem dX5_worthOfTree_17 : decode cX5_worthOfTree 17 = .ok (.iconst 1, 1) := by decide +kernel
theorem dX5_worthOfTree_18 : decode cX5_worthOfTree 18 = .ok (.isub, 1) := by decide +kernel
theorem dX5_worthOfTree_19 : decode cX5_worthOfTree 19 = .ok (.istore_n 1, 1) := by decide +kernel
theorem dX5_worthOfTree_20 : decode cX5_worthOfTree 20 = .ok (.iload_n 1, 1) := by decide +kernel
theorem dX5_worthOfTree_21 : decode cX5_worthOfTree 21 = .ok (.ifCond .lt 100, 3) := by decide +kernel
theorem dX5_worthOfTree_24 : decode cX5_worthOfTree 24 = .ok (.aload_n 0, 1) := by decide +kernel
theorem dX5_worthOfTree_25 : decode cX5_worthOfTree 25 = .ok (.getfield 15, 3) := by decide +kernel
theorem dX5_worthOfTree_28 : decode cX5_worthOfTree 28 = .ok (.iload_n 1, 1) := by decide +kernel
theorem dX5_worthOfTree_29 : decode cX5_worthOfTree 29 = .ok (.iaload, 1) := by decide +kernel
theorem dX5_worthOfTree_30 : decode cX5_worthOfTree 30 = .ok (.istore_n 2, 1) := by decide +kernel
theorem dX5_worthOfTree_31 : decode cX5_worthOfTree 31 = .ok (.iload_n 2, 1) := by decide +kernel
theorem dX5_worthOfTree_32 : decode cX5_worthOfTree 32 = .ok (.iconst 1, 1) := by decide +kernel
theorem dX5_worthOfTree_33 : decode cX5_worthOfTree 33 = .ok (.iadd, 1) := by decide +kernel
theorem dX5_worthOfTree_34 : decode cX5_worthOfTree 34 = .ok (.istore_n 3, 1) := by decide +kernel
theorem dX5_worthOfTree_35 : decode cX5_worthOfTree 35 = .ok (.iconst 0, 1) := by decide +kernel
theorem dX5_worthOfTree_36 : decode cX5_worthOfTree 36 = .ok (.istore 4, 2) := by decide +kernel
theorem dX5_worthOfTree_38 : decode cX5_worthOfTree 38 = .ok (.iload 4, 2) := by decide +kernel
theorem dX5_worthOfTree_40 : decode cX5_worthOfTree 40 = .ok (.aload_n 0, 1) := by decide +kernel
theorem dX5_worthOfTree_41 : decode cX5_worthOfTree 41 = .ok (.getfield 18, 3) := by decide +kernel
theorem dX5_worthOfTree_44 : decode cX5_worthOfTree 44 = .ok (.invokevirtual 36, 3) := by decide +kernel
theorem dX5_worthOfTree_47 : decode cX5_worthOfTree 47 = .ok (.iload_n 2, 1) := by decide +kernel
theorem dX5_worthOfTree_48 : decode cX5_worthOfTree 48 = .ok (.invokevirtual 102, 3) := by decide +kernel
theorem dX5_worthOfTree_51 : decode cX5_worthOfTree 51 = .ok (.if_icmp .ge 55, 3) := by decide +kernel
theorem dX5_worthOfTree_54 : decode cX5_worthOfTree 54 = .ok (.aload_n 0, 1) := by decide +kernel
theorem dX5_worthOfTree_55 : decode cX5_worthOfTree 55 = .ok (.getfield 18, 3) := by decide +kernel
theorem dX5_worthOfTree_58 : decode cX5_worthOfTree 58 = .ok (.invokevirtual 36, 3) := by decide +kernel
theorem dX5_worthOfTree_61 : decode cX5_worthOfTree 61 = .ok (.iload_n 2, 1) := by decide +kernel
theorem dX5_worthOfTree_62 : decode cX5_worthOfTree 62 = .ok (.iload 4, 2) := by decide +kernel
theorem dX5_worthOfTree_64 : decode cX5_worthOfTree 64 = .ok (.invokevirtual 105, 3) := by decide +kernel
theorem dX5_worthOfTree_67 : decode cX5_worthOfTree 67 = .ok (.istore 5, 2) := by decide +kernel
theorem dX5_worthOfTree_69 : decode cX5_worthOfTree 69 = .ok (.iload 5, 2) := by decide +kernel
theorem dX5_worthOfTree_71 : decode cX5_worthOfTree 71 = .ok (.invokestatic 73, 3) := by decide +kernel
theorem dX5_worthOfTree_74 : decode cX5_worthOfTree 74 = .ok (.ifCond .eq 10, 3) := by decide +kernel
theorem dX5_worthOfTree_77 : decode cX5_worthOfTree 77 = .ok (.iload 5, 2) := by decide +kernel
theorem dX5_worthOfTree_79 : decode cX5_worthOfTree 79 = .ok (.iconst 1, 1) := by decide +kernel
theorem dX5_worthOfTree_80 : decode cX5_worthOfTree 80 = .ok (.iadd, 1) := by decide +kernel
theorem dX5_worthOfTree_81 : decode cX5_worthOfTree 81 = .ok (.goto 7, 3) := by decide +kernel
theorem dX5_worthOfTree_84 : decode cX5_worthOfTree 84 = .ok (.aload_n 0, 1) := by decide +kernel
theorem dX5_worthOfTree_85 : decode cX5_worthOfTree 85 = .ok (.invokevirtual 76, 3) := by decide +kernel
theorem dX5_worthOfTree_88 : decode cX5_worthOfTree 88 = .ok (.istore 6, 2) := by decide +kernel
theorem dX5_worthOfTree_90 : decode cX5_worthOfTree 90 = .ok (.iload_n 3, 1) := by decide +kernel
theorem dX5_worthOfTree_91 : decode cX5_worthOfTree 91 = .ok (.iload 4, 2) := by decide +kernel
theorem dX5_worthOfTree_93 : decode cX5_worthOfTree 93 = .ok (.iconst 1, 1) := by decide +kernel
theorem dX5_worthOfTree_94 : decode cX5_worthOfTree 94 = .ok (.iadd, 1) := by decide +kernel
theorem dX5_worthOfTree_95 : decode cX5_worthOfTree 95 = .ok (.iload 6, 2) := by decide +kernel
theorem dX5_worthOfTree_97 : decode cX5_worthOfTree 97 = .ok (.imul, 1) := by decide +kernel
theorem dX5_worthOfTree_98 : decode cX5_worthOfTree 98 = .ok (.iadd, 1) := by decide +kernel
theorem dX5_worthOfTree_99 : decode cX5_worthOfTree 99 = .ok (.istore_n 3, 1) := by decide +kernel
theorem dX5_worthOfTree_100 : decode cX5_worthOfTree 100 = .ok (.iinc 4 1, 3) := by decide +kernel
theorem dX5_worthOfTree_103 : decode cX5_worthOfTree 103 = .ok (.goto (-65), 3) := by decide +kernel
theorem dX5_worthOfTree_106 : decode cX5_worthOfTree 106 = .ok (.aload_n 0, 1) := by decide +kernel
theorem dX5_worthOfTree_107 : decode cX5_worthOfTree 107 = .ok (.iload_n 3, 1) := by decide +kernel
theorem dX5_worthOfTree_108 : decode cX5_worthOfTree 108 = .ok (.sipush 1009, 3) := by decide +kernel
theorem dX5_worthOfTree_111 : decode cX5_worthOfTree 111 = .ok (.irem, 1) := by decide +kernel
theorem dX5_worthOfTree_112 : decode cX5_worthOfTree 112 = .ok (.invokevirtual 48, 3) := by decide +kernel
theorem dX5_worthOfTree_115 : decode cX5_worthOfTree 115 = .ok (.iinc 1 (-1), 3) := by decide +kernel
theorem dX5_worthOfTree_118 : decode cX5_worthOfTree 118 = .ok (.goto (-98), 3) := by decide +kernel
theorem dX5_worthOfTree_121 : decode cX5_worthOfTree 121 = .ok (.aload_n 0, 1) := by decide +kernel
theorem dX5_worthOfTree_122 : decode cX5_worthOfTree 122 = .ok (.invokevirtual 76, 3) := by decide +kernel
theorem dX5_worthOfTree_125 : decode cX5_worthOfTree 125 = .ok (.ireturn, 1) := by decide +kernel
theorem dX6_init_0 : decode cX6_init 0 = .ok (.aload_n 0, 1) := by decide +kernel
theorem dX6_init_1 : decode cX6_init 1 = .ok (.aload_n 1, 1) := by decide +kernel
theorem dX6_init_2 : decode cX6_init 2 = .ok (.aload_n 2, 1) := by decide +kernel
theorem dX6_init_3 : decode cX6_init 3 = .ok (.aload_n 3, 1) := by decide +kernel
theorem dX6_init_4 : decode cX6_init 4 = .ok (.aload 4, 2) := by decide +kernel
theorem dX6_init_6 : decode cX6_init 6 = .ok (.invokespecial 3, 3) := by decide +kernel
theorem dX6_init_9 : decode cX6_init 9 = .ok (.return_, 1) := by decide +kernel
theorem dX6_none_0 : decode cX6_none 0 = .ok (.sipush 1000, 3) := by decide +kernel
theorem dX6_none_3 : decode cX6_none 3 = .ok (.ireturn, 1) := by decide +kernel
theorem dX6_blank_0 : decode cX6_blank 0 = .ok (.iload_n 2, 1) := by decide +kernel
theorem dX6_blank_1 : decode cX6_blank 1 = .ok (.iload_n 1, 1) := by decide +kernel
theorem dX6_blank_2 : decode cX6_blank 2 = .ok (.isub, 1) := by decide +kernel
theorem dX6_blank_3 : decode cX6_blank 3 = .ok (.ireturn, 1) := by decide +kernel
theorem dX6_ofTerminal_0 : decode cX6_ofTerminal 0 = .ok (.iload_n 2, 1) := by decide +kernel
theorem dX6_ofTerminal_1 : decode cX6_ofTerminal 1 = .ok (.iload_n 3, 1) := by decide +kernel
theorem dX6_ofTerminal_2 : decode cX6_ofTerminal 2 = .ok (.if_icmp .ne 5, 3) := by decide +kernel
theorem dX6_ofTerminal_5 : decode cX6_ofTerminal 5 = .ok (.iconst 1, 1) := by decide +kernel
theorem dX6_ofTerminal_6 : decode cX6_ofTerminal 6 = .ok (.ireturn, 1) := by decide +kernel
theorem dX6_ofTerminal_7 : decode cX6_ofTerminal 7 = .ok (.iload_n 2, 1) := by decide +kernel
theorem dX6_ofTerminal_8 : decode cX6_ofTerminal 8 = .ok (.istore 4, 2) := by decide +kernel
theorem dX6_ofTerminal_10 : decode cX6_ofTerminal 10 = .ok (.iload 4, 2) := by decide +kernel
theorem dX6_ofTerminal_12 : decode cX6_ofTerminal 12 = .ok (.iload_n 3, 1) := by decide +kernel
theorem dX6_ofTerminal_13 : decode cX6_ofTerminal 13 = .ok (.if_icmp .ge 25, 3) := by decide +kernel
theorem dX6_ofTerminal_16 : decode cX6_ofTerminal 16 = .ok (.aload_n 0, 1) := by decide +kernel
theorem dX6_ofTerminal_17 : decode cX6_ofTerminal 17 = .ok (.iload 4, 2) := by decide +kernel
theorem dX6_ofTerminal_19 : decode cX6_ofTerminal 19 = .ok (.invokevirtual 11, 3) := by decide +kernel
theorem dX6_ofTerminal_22 : decode cX6_ofTerminal 22 = .ok (.iload_n 1, 1) := by decide +kernel
theorem dX6_ofTerminal_23 : decode cX6_ofTerminal 23 = .ok (.if_icmp .ne 9, 3) := by decide +kernel
theorem dX6_ofTerminal_26 : decode cX6_ofTerminal 26 = .ok (.iload_n 3, 1) := by decide +kernel
theorem dX6_ofTerminal_27 : decode cX6_ofTerminal 27 = .ok (.iload_n 2, 1) := by decide +kernel
theorem dX6_ofTerminal_28 : decode cX6_ofTerminal 28 = .ok (.isub, 1) := by decide +kernel
theorem dX6_ofTerminal_29 : decode cX6_ofTerminal 29 = .ok (.iconst 1, 1) := by decide +kernel
theorem dX6_ofTerminal_30 : decode cX6_ofTerminal 30 = .ok (.isub, 1) := by decide +kernel
theorem dX6_ofTerminal_31 : decode cX6_ofTerminal 31 = .ok (.ireturn, 1) := by decide +kernel
theorem dX6_ofTerminal_32 : decode cX6_ofTerminal 32 = .ok (.iinc 4 1, 3) := by decide +kernel
theorem dX6_ofTerminal_35 : decode cX6_ofTerminal 35 = .ok (.goto (-25), 3) := by decide +kernel
theorem dX6_ofTerminal_38 : decode cX6_ofTerminal 38 = .ok (.iload_n 3, 1) := by decide +kernel
theorem dX6_ofTerminal_39 : decode cX6_ofTerminal 39 = .ok (.iload_n 2, 1) := by decide +kernel
theorem dX6_ofTerminal_40 : decode cX6_ofTerminal 40 = .ok (.isub, 1) := by decide +kernel
theorem dX6_ofTerminal_41 : decode cX6_ofTerminal 41 = .ok (.ireturn, 1) := by decide +kernel
theorem dX6_either_0 : decode cX6_either 0 = .ok (.iload_n 1, 1) := by decide +kernel
theorem dX6_either_1 : decode cX6_either 1 = .ok (.iload_n 2, 1) := by decide +kernel
theorem dX6_either_2 : decode cX6_either 2 = .ok (.invokestatic 15, 3) := by decide +kernel
theorem dX6_either_5 : decode cX6_either 5 = .ok (.ireturn, 1) := by decide +kernel
theorem dX6_both_0 : decode cX6_both 0 = .ok (.iload_n 1, 1) := by decide +kernel
theorem dX6_both_1 : decode cX6_both 1 = .ok (.sipush 1000, 3) := by decide +kernel
theorem dX6_both_4 : decode cX6_both 4 = .ok (.if_icmp .eq 10, 3) := by decide +kernel
theorem dX6_both_7 : decode cX6_both 7 = .ok (.iload_n 2, 1) := by decide +kernel
theorem dX6_both_8 : decode cX6_both 8 = .ok (.sipush 1000, 3) := by decide +kernel
theorem dX6_both_11 : decode cX6_both 11 = .ok (.if_icmp .ne 9, 3) := by decide +kernel
theorem dX6_both_14 : decode cX6_both 14 = .ok (.sipush 1000, 3) := by decide +kernel
theorem dX6_both_17 : decode cX6_both 17 = .ok (.goto 11, 3) := by decide +kernel
theorem dX6_both_20 : decode cX6_both 20 = .ok (.bipush 99, 2) := by decide +kernel
theorem dX6_both_22 : decode cX6_both 22 = .ok (.iload_n 1, 1) := by decide +kernel
theorem dX6_both_23 : decode cX6_both 23 = .ok (.iload_n 2, 1) := by decide +kernel
theorem dX6_both_24 : decode cX6_both 24 = .ok (.iadd, 1) := by decide +kernel
theorem dX6_both_25 : decode cX6_both 25 = .ok (.invokestatic 15, 3) := by decide +kernel
theorem dX6_both_28 : decode cX6_both 28 = .ok (.ireturn, 1) := by decide +kernel
theorem dX6_ofNonterminal_0 : decode cX6_ofNonterminal 0 = .ok (.iload_n 2, 1) := by decide +kernel
theorem dX6_ofNonterminal_1 : decode cX6_ofNonterminal 1 = .ok (.ireturn, 1) := by decide +kernel
theorem dX7_init_0 : decode cX7_init 0 = .ok (.aload_n 0, 1) := by decide +kernel
theorem dX7_init_1 : decode cX7_init 1 = .ok (.invokespecial 3, 3) := by decide +kernel
theorem dX7_init_4 : decode cX7_init 4 = .ok (.aload_n 0, 1) := by decide +kernel
theorem dX7_init_5 : decode cX7_init 5 = .ok (.bipush 24, 2) := by decide +kernel
theorem dX7_init_7 : decode cX7_init 7 = .ok (.newarray .int, 2) := by decide +kernel
theorem dX7_init_9 : decode cX7_init 9 = .ok (.putfield 9, 3) := by decide +kernel
theorem dX7_init_12 : decode cX7_init 12 = .ok (.return_, 1) := by decide +kernel
theorem dX7_read_0 : decode cX7_read 0 = .ok (.aload_n 0, 1) := by decide +kernel
theorem dX7_read_1 : decode cX7_read 1 = .ok (.iconst 0, 1) := by decide +kernel
theorem dX7_read_2 : decode cX7_read 2 = .ok (.putfield 15, 3) := by decide +kernel
theorem dX7_read_5 : decode cX7_read 5 = .ok (.iconst 0, 1) := by decide +kernel
theorem dX7_read_6 : decode cX7_read 6 = .ok (.istore_n 3, 1) := by decide +kernel
theorem dX7_read_7 : decode cX7_read 7 = .ok (.iconst 1, 1) := by decide +kernel
theorem dX7_read_8 : decode cX7_read 8 = .ok (.istore 4, 2) := by decide +kernel
theorem dX7_read_10 : decode cX7_read 10 = .ok (.iconst 2, 1) := by decide +kernel
theorem dX7_read_11 : decode cX7_read 11 = .ok (.istore 5, 2) := by decide +kernel
theorem dX7_read_13 : decode cX7_read 13 = .ok (.iload 5, 2) := by decide +kernel
theorem dX7_read_15 : decode cX7_read 15 = .ok (.aload_n 1, 1) := by decide +kernel
theorem dX7_read_16 : decode cX7_read 16 = .ok (.invokevirtual 19, 3) := by decide +kernel
theorem dX7_read_19 : decode cX7_read 19 = .ok (.if_icmp .ge 173, 3) := by decide +kernel
theorem dX7_read_22 : decode cX7_read 22 = .ok (.iload 4, 2) := by decide +kernel
theorem dX7_read_24 : decode cX7_read 24 = .ok (.ifCond .eq 168, 3) := by decide +kernel
theorem dX7_read_27 : decode cX7_read 27 = .ok (.aload_n 1, 1) := by decide +kernel
theorem dX7_read_28 : decode cX7_read 28 = .ok (.iload 5, 2) := by decide +kernel
theorem dX7_read_30 : decode cX7_read 30 = .ok (.invokevirtual 25, 3) := by decide +kernel
theorem dX7_read_33 : decode cX7_read 33 = .ok (.istore 6, 2) := by decide +kernel
theorem dX7_read_35 : decode cX7_read 35 = .ok (.iload_n 3, 1) := by decide +kernel
theorem dX7_read_36 : decode cX7_read 36 = .ok (.ifCond .eq 20, 3) := by decide +kernel
theorem dX7_read_39 : decode cX7_read 39 = .ok (.aload_n 0, 1) := by decide +kernel
theorem dX7_read_40 : decode cX7_read 40 = .ok (.aload_n 2, 1) := by decide +kernel
theorem dX7_read_41 : decode cX7_read 41 = .ok (.bipush 37, 2) := by decide +kernel
theorem dX7_read_43 : decode cX7_read 43 = .ok (.iload 6, 2) := by decide +kernel
theorem dX7_read_45 : decode cX7_read 45 = .ok (.bipush 97, 2) := by decide +kernel
theorem dX7_read_47 : decode cX7_read 47 = .ok (.isub, 1) := by decide +kernel
theorem dX7_read_48 : decode cX7_read 48 = .ok (.invokevirtual 29, 3) := by decide +kernel
theorem dX7_read_51 : decode cX7_read 51 = .ok (.istore 4, 2) := by decide +kernel
theorem dX7_read_53 : decode cX7_read 53 = .ok (.goto 120, 3) := by decide +kernel
theorem dX7_read_56 : decode cX7_read 56 = .ok (.iload 6, 2) := by decide +kernel
theorem dX7_read_58 : decode cX7_read 58 = .ok (.invokestatic 33, 3) := by decide +kernel
theorem dX7_read_61 : decode cX7_read 61 = .ok (.ifCond .eq 17, 3) := by decide +kernel
theorem dX7_read_64 : decode cX7_read 64 = .ok (.aload_n 0, 1) := by decide +kernel
theorem dX7_read_65 : decode cX7_read 65 = .ok (.iload 6, 2) := by decide +kernel
theorem dX7_read_67 : decode cX7_read 67 = .ok (.bipush 97, 2) := by decide +kernel
theorem dX7_read_69 : decode cX7_read 69 = .ok (.isub, 1) := by decide +kernel
theorem dX7_read_70 : decode cX7_read 70 = .ok (.invokevirtual 37, 3) := by decide +kernel
theorem dX7_read_73 : decode cX7_read 73 = .ok (.istore 4, 2) := by decide +kernel
theorem dX7_read_75 : decode cX7_read 75 = .ok (.goto 98, 3) := by decide +kernel
theorem dX7_read_78 : decode cX7_read 78 = .ok (.iload 6, 2) := by decide +kernel
theorem dX7_read_80 : decode cX7_read 80 = .ok (.invokestatic 41, 3) := by decide +kernel
theorem dX7_read_83 : decode cX7_read 83 = .ok (.ifCond .eq 20, 3) := by decide +kernel
theorem dX7_read_86 : decode cX7_read 86 = .ok (.aload_n 0, 1) := by decide +kernel
theorem dX7_read_87 : decode cX7_read 87 = .ok (.bipush 16, 2) := by decide +kernel
theorem dX7_read_89 : decode cX7_read 89 = .ok (.iload 6, 2) := by decide +kernel
theorem dX7_read_91 : decode cX7_read 91 = .ok (.iadd, 1) := by decide +kernel
theorem dX7_read_92 : decode cX7_read 92 = .ok (.bipush 65, 2) := by decide +kernel
theorem dX7_read_94 : decode cX7_read 94 = .ok (.isub, 1) := by decide +kernel
theorem dX7_read_95 : decode cX7_read 95 = .ok (.invokevirtual 37, 3) := by decide +kernel
theorem dX7_read_98 : decode cX7_read 98 = .ok (.istore 4, 2) := by decide +kernel
theorem dX7_read_100 : decode cX7_read 100 = .ok (.goto 73, 3) := by decide +kernel
theorem dX7_read_103 : decode cX7_read 103 = .ok (.iload 6, 2) := by decide +kernel
theorem dX7_read_105 : decode cX7_read 105 = .ok (.bipush 124, 2) := by decide +kernel
theorem dX7_read_107 : decode cX7_read 107 = .ok (.if_icmp .ne 13, 3) := by decide +kernel
theorem dX7_read_110 : decode cX7_read 110 = .ok (.aload_n 0, 1) := by decide +kernel
theorem dX7_read_111 : decode cX7_read 111 = .ok (.iconst (-1), 1) := by decide +kernel
theorem dX7_read_112 : decode cX7_read 112 = .ok (.invokevirtual 37, 3) := by decide +kernel
theorem dX7_read_115 : decode cX7_read 115 = .ok (.istore 4, 2) := by decide +kernel
theorem dX7_read_117 : decode cX7_read 117 = .ok (.goto 56, 3) := by decide +kernel
theorem dX7_read_120 : decode cX7_read 120 = .ok (.iload 6, 2) := by decide +kernel
theorem dX7_read_122 : decode cX7_read 122 = .ok (.bipush 40, 2) := by decide +kernel
theorem dX7_read_124 : decode cX7_read 124 = .ok (.if_icmp .ne 14, 3) := by decide +kernel
theorem dX7_read_127 : decode cX7_read 127 = .ok (.aload_n 0, 1) := by decide +kernel
theorem dX7_read_128 : decode cX7_read 128 = .ok (.bipush (-2), 2) := by decide +kernel
theorem dX7_read_130 : decode cX7_read 130 = .ok (.invokevirtual 37, 3) := by decide +kernel
theorem dX7_read_133 : decode cX7_read 133 = .ok (.istore 4, 2) := by decide +kernel
theorem dX7_read_135 : decode cX7_read 135 = .ok (.goto 38, 3) := by decide +kernel
theorem dX7_read_138 : decode cX7_read 138 = .ok (.iload 6, 2) := by decide +kernel
theorem dX7_read_140 : decode cX7_read 140 = .ok (.bipush 41, 2) := by decide +kernel
theorem dX7_read_142 : decode cX7_read 142 = .ok (.if_icmp .ne 13, 3) := by decide +kernel
theorem dX7_read_145 : decode cX7_read 145 = .ok (.aload_n 0, 1) := by decide +kernel
theorem dX7_read_146 : decode cX7_read 146 = .ok (.aload_n 2, 1) := by decide +kernel
theorem dX7_read_147 : decode cX7_read 147 = .ok (.invokevirtual 44, 3) := by decide +kernel
theorem dX7_read_150 : decode cX7_read 150 = .ok (.istore 4, 2) := by decide +kernel
theorem dX7_read_152 : decode cX7_read 152 = .ok (.goto 21, 3) := by decide +kernel
theorem dX7_read_155 : decode cX7_read 155 = .ok (.iload 6, 2) := by decide +kernel
theorem dX7_read_157 : decode cX7_read 157 = .ok (.invokestatic 48, 3) := by decide +kernel
theorem dX7_read_160 : decode cX7_read 160 = .ok (.ifCond .eq 13, 3) := by decide +kernel
theorem dX7_read_163 : decode cX7_read 163 = .ok (.aload_n 0, 1) := by decide +kernel
theorem dX7_read_164 : decode cX7_read 164 = .ok (.aload_n 2, 1) := by decide +kernel
theorem dX7_read_165 : decode cX7_read 165 = .ok (.iload 6, 2) := by decide +kernel
theorem dX7_read_167 : decode cX7_read 167 = .ok (.iconst (-1), 1) := by decide +kernel
theorem dX7_read_168 : decode cX7_read 168 = .ok (.invokevirtual 29, 3) := by decide +kernel
theorem dX7_read_171 : decode cX7_read 171 = .ok (.istore 4, 2) := by decide +kernel
theorem dX7_read_173 : decode cX7_read 173 = .ok (.iload 6, 2) := by decide +kernel
theorem dX7_read_175 : decode cX7_read 175 = .ok (.bipush 37, 2) := by decide +kernel
theorem dX7_read_177 : decode cX7_read 177 = .ok (.if_icmp .ne 7, 3) := by decide +kernel
theorem dX7_read_180 : decode cX7_read 180 = .ok (.iconst 1, 1) := by decide +kernel
theorem dX7_read_181 : decode cX7_read 181 = .ok (.goto 4, 3) := by decide +kernel
theorem dX7_read_184 : decode cX7_read 184 = .ok (.iconst 0, 1) := by decide +kernel
theorem dX7_read_185 : decode cX7_read 185 = .ok (.istore_n 3, 1) := by decide +kernel
theorem dX7_read_186 : decode cX7_read 186 = .ok (.iinc 5 1, 3) := by decide +kernel
theorem dX7_read_189 : decode cX7_read 189 = .ok (.goto (-176), 3) := by decide +kernel
theorem dX7_read_192 : decode cX7_read 192 = .ok (.iload 4, 2) := by decide +kernel
theorem dX7_read_194 : decode cX7_read 194 = .ok (.ifCond .eq 24, 3) := by decide +kernel
theorem dX7_read_197 : decode cX7_read 197 = .ok (.aload_n 0, 1) := by decide +kernel
theorem dX7_read_198 : decode cX7_read 198 = .ok (.aload_n 2, 1) := by decide +kernel
theorem dX7_read_199 : decode cX7_read 199 = .ok (.aload_n 1, 1) := by decide +kernel
theorem dX7_read_200 : decode cX7_read 200 = .ok (.iconst 0, 1) := by decide +kernel
theorem dX7_read_201 : decode cX7_read 201 = .ok (.invokevirtual 25, 3) := by decide +kernel
theorem dX7_read_204 : decode cX7_read 204 = .ok (.bipush 65, 2) := by decide +kernel
theorem dX7_read_206 : decode cX7_read 206 = .ok (.isub, 1) := by decide +kernel
theorem dX7_read_207 : decode cX7_read 207 = .ok (.iconst 0, 1) := by decide +kernel
theorem dX7_read_208 : decode cX7_read 208 = .ok (.invokevirtual 51, 3) := by decide +kernel
theorem dX7_read_211 : decode cX7_read 211 = .ok (.ifCond .eq 7, 3) := by decide +kernel
theorem dX7_read_214 : decode cX7_read 214 = .ok (.iconst 1, 1) := by decide +kernel
theorem dX7_read_215 : decode cX7_read 215 = .ok (.goto 4, 3) := by decide +kernel
theorem dX7_read_218 : decode cX7_read 218 = .ok (.iconst 0, 1) := by decide +kernel
theorem dX7_read_219 : decode cX7_read 219 = .ok (.ireturn, 1) := by decide +kernel
theorem dX7_push_0 : decode cX7_push 0 = .ok (.aload_n 0, 1) := by decide +kernel
theorem dX7_push_1 : decode cX7_push 1 = .ok (.getfield 15, 3) := by decide +kernel
theorem dX7_push_4 : decode cX7_push 4 = .ok (.ifCond .lt 15, 3) := by decide +kernel
theorem dX7_push_7 : decode cX7_push 7 = .ok (.aload_n 0, 1) := by decide +kernel
theorem dX7_push_8 : decode cX7_push 8 = .ok (.getfield 15, 3) := by decide +kernel
theorem dX7_push_11 : decode cX7_push 11 = .ok (.aload_n 0, 1) := by decide +kernel
theorem dX7_push_12 : decode cX7_push 12 = .ok (.getfield 9, 3) := by decide +kernel
theorem dX7_push_15 : decode cX7_push 15 = .ok (.arraylength, 1) := by decide +kernel
theorem dX7_push_16 : decode cX7_push 16 = .ok (.if_icmp .lt 5, 3) := by decide +kernel
theorem dX7_push_19 : decode cX7_push 19 = .ok (.iconst 0, 1) := by decide +kernel
theorem dX7_push_20 : decode cX7_push 20 = .ok (.ireturn, 1) := by decide +kernel
theorem dX7_push_21 : decode cX7_push 21 = .ok (.aload_n 0, 1) := by decide +kernel
theorem dX7_push_22 : decode cX7_push 22 = .ok (.getfield 9, 3) := by decide +kernel
theorem dX7_push_25 : decode cX7_push 25 = .ok (.aload_n 0, 1) := by decide +kernel
theorem dX7_push_26 : decode cX7_push 26 = .ok (.getfield 15, 3) := by decide +kernel
theorem dX7_push_29 : decode cX7_push 29 = .ok (.iload_n 1, 1) := by decide +kernel
theorem dX7_push_30 : decode cX7_push 30 = .ok (.iastore, 1) := by decide +kernel
theorem dX7_push_31 : decode cX7_push 31 = .ok (.aload_n 0, 1) := by decide +kernel
theorem dX7_push_32 : decode cX7_push 32 = .ok (.dup, 1) := by decide +kernel
theorem dX7_push_33 : decode cX7_push 33 = .ok (.getfield 15, 3) := by decide +kernel
theorem dX7_push_36 : decode cX7_push 36 = .ok (.iconst 1, 1) := by decide +kernel
theorem dX7_push_37 : decode cX7_push 37 = .ok (.iadd, 1) := by decide +kernel
theorem dX7_push_38 : decode cX7_push 38 = .ok (.putfield 15, 3) := by decide +kernel
theorem dX7_push_41 : decode cX7_push 41 = .ok (.iconst 1, 1) := by decide +kernel
theorem dX7_push_42 : decode cX7_push 42 = .ok (.ireturn, 1) := by decide +kernel
theorem dX7_closeBracket_0 : decode cX7_closeBracket 0 = .ok (.iconst (-1), 1) := by decide +kernel
theorem dX7_closeBracket_1 : decode cX7_closeBracket 1 = .ok (.istore_n 2, 1) := by decide +kernel
theorem dX7_closeBracket_2 : decode cX7_closeBracket 2 = .ok (.iconst 0, 1) := by decide +kernel
theorem dX7_closeBracket_3 : decode cX7_closeBracket 3 = .ok (.istore_n 3, 1) := by decide +kernel
theorem dX7_closeBracket_4 : decode cX7_closeBracket 4 = .ok (.iload_n 3, 1) := by decide +kernel
theorem dX7_closeBracket_5 : decode cX7_closeBracket 5 = .ok (.aload_n 0, 1) := by decide +kernel
theorem dX7_closeBracket_6 : decode cX7_closeBracket 6 = .ok (.getfield 15, 3) := by decide +kernel
theorem dX7_closeBracket_9 : decode cX7_closeBracket 9 = .ok (.if_icmp .ge 31, 3) := by decide +kernel
theorem dX7_closeBracket_12 : decode cX7_closeBracket 12 = .ok (.iload_n 3, 1) := by decide +kernel
theorem dX7_closeBracket_13 : decode cX7_closeBracket 13 = .ok (.aload_n 0, 1) := by decide +kernel
theorem dX7_closeBracket_14 : decode cX7_closeBracket 14 = .ok (.getfield 9, 3) := by decide +kernel
theorem dX7_closeBracket_17 : decode cX7_closeBracket 17 = .ok (.arraylength, 1) := by decide +kernel
theorem dX7_closeBracket_18 : decode cX7_closeBracket 18 = .ok (.if_icmp .ge 22, 3) := by decide +kernel
theorem dX7_closeBracket_21 : decode cX7_closeBracket 21 = .ok (.aload_n 0, 1) := by decide +kernel
theorem dX7_closeBracket_22 : decode cX7_closeBracket 22 = .ok (.getfield 9, 3) := by decide +kernel
theorem dX7_closeBracket_25 : decode cX7_closeBracket 25 = .ok (.iload_n 3, 1) := by decide +kernel
theorem dX7_closeBracket_26 : decode cX7_closeBracket 26 = .ok (.iaload, 1) := by decide +kernel
theorem dX7_closeBracket_27 : decode cX7_closeBracket 27 = .ok (.bipush (-2), 2) := by decide +kernel
theorem dX7_closeBracket_29 : decode cX7_closeBracket 29 = .ok (.if_icmp .ne 5, 3) := by decide +kernel
theorem dX7_closeBracket_32 : decode cX7_closeBracket 32 = .ok (.iload_n 3, 1) := by decide +kernel
theorem dX7_closeBracket_33 : decode cX7_closeBracket 33 = .ok (.istore_n 2, 1) := by decide +kernel
theorem dX7_closeBracket_34 : decode cX7_closeBracket 34 = .ok (.iinc 3 1, 3) := by decide +kernel
theorem dX7_closeBracket_37 : decode cX7_closeBracket 37 = .ok (.goto (-33), 3) := by decide +kernel
theorem dX7_closeBracket_40 : decode cX7_closeBracket 40 = .ok (.aload_n 1, 1) := by decide +kernel
theorem dX7_closeBracket_41 : decode cX7_closeBracket 41 = .ok (.invokevirtual 55, 3) := by decide +kernel
theorem dX7_closeBracket_44 : decode cX7_closeBracket 44 = .ok (.istore_n 3, 1) := by decide +kernel
theorem dX7_closeBracket_45 : decode cX7_closeBracket 45 = .ok (.iload_n 2, 1) := by decide +kernel
theorem dX7_closeBracket_46 : decode cX7_closeBracket 46 = .ok (.iconst (-1), 1) := by decide +kernel
theorem dX7_closeBracket_47 : decode cX7_closeBracket 47 = .ok (.if_icmp .eq 20, 3) := by decide +kernel
theorem dX7_closeBracket_50 : decode cX7_closeBracket 50 = .ok (.iload_n 3, 1) := by decide +kernel
theorem dX7_closeBracket_51 : decode cX7_closeBracket 51 = .ok (.iconst (-1), 1) := by decide +kernel
theorem dX7_closeBracket_52 : decode cX7_closeBracket 52 = .ok (.if_icmp .eq 15, 3) := by decide +kernel
theorem dX7_closeBracket_55 : decode cX7_closeBracket 55 = .ok (.aload_n 0, 1) := by decide +kernel
theorem dX7_closeBracket_56 : decode cX7_closeBracket 56 = .ok (.aload_n 1, 1) := by decide +kernel
theorem dX7_closeBracket_57 : decode cX7_closeBracket 57 = .ok (.iload_n 3, 1) := by decide +kernel
theorem dX7_closeBracket_58 : decode cX7_closeBracket 58 = .ok (.iload_n 2, 1) := by decide +kernel
theorem dX7_closeBracket_59 : decode cX7_closeBracket 59 = .ok (.iconst 1, 1) := by decide +kernel
theorem dX7_closeBracket_60 : decode cX7_closeBracket 60 = .ok (.iadd, 1) := by decide +kernel
theorem dX7_closeBracket_61 : decode cX7_closeBracket 61 = .ok (.invokevirtual 51, 3) := by decide +kernel
theorem dX7_closeBracket_64 : decode cX7_closeBracket 64 = .ok (.ifCond .ne 5, 3) := by decide +kernel
theorem dX7_closeBracket_67 : decode cX7_closeBracket 67 = .ok (.iconst 0, 1) := by decide +kernel
theorem dX7_closeBracket_68 : decode cX7_closeBracket 68 = .ok (.ireturn, 1) := by decide +kernel
theorem dX7_closeBracket_69 : decode cX7_closeBracket 69 = .ok (.aload_n 0, 1) := by decide +kernel
theorem dX7_closeBracket_70 : decode cX7_closeBracket 70 = .ok (.iload_n 2, 1) := by decide +kernel
theorem dX7_closeBracket_71 : decode cX7_closeBracket 71 = .ok (.putfield 15, 3) := by decide +kernel
theorem dX7_closeBracket_74 : decode cX7_closeBracket 74 = .ok (.aload_n 0, 1) := by decide +kernel
theorem dX7_closeBracket_75 : decode cX7_closeBracket 75 = .ok (.bipush 16, 2) := by decide +kernel
theorem dX7_closeBracket_77 : decode cX7_closeBracket 77 = .ok (.iload_n 3, 1) := by decide +kernel
theorem dX7_closeBracket_78 : decode cX7_closeBracket 78 = .ok (.iadd, 1) := by decide +kernel
theorem dX7_closeBracket_79 : decode cX7_closeBracket 79 = .ok (.invokevirtual 37, 3) := by decide +kernel
theorem dX7_closeBracket_82 : decode cX7_closeBracket 82 = .ok (.ireturn, 1) := by decide +kernel
theorem dX7_release_0 : decode cX7_release 0 = .ok (.aload_n 1, 1) := by decide +kernel
theorem dX7_release_1 : decode cX7_release 1 = .ok (.iload_n 2, 1) := by decide +kernel
theorem dX7_release_2 : decode cX7_release 2 = .ok (.invokevirtual 60, 3) := by decide +kernel
theorem dX7_release_5 : decode cX7_release 5 = .ok (.istore 4, 2) := by decide +kernel
theorem dX7_release_7 : decode cX7_release 7 = .ok (.iload_n 3, 1) := by decide +kernel
theorem dX7_release_8 : decode cX7_release 8 = .ok (.istore 5, 2) := by decide +kernel
theorem dX7_release_10 : decode cX7_release 10 = .ok (.iload 5, 2) := by decide +kernel
theorem dX7_release_12 : decode cX7_release 12 = .ok (.aload_n 0, 1) := by decide +kernel
theorem dX7_release_13 : decode cX7_release 13 = .ok (.getfield 15, 3) := by decide +kernel
theorem dX7_release_16 : decode cX7_release 16 = .ok (.if_icmp .ge 56, 3) := by decide +kernel
theorem dX7_release_19 : decode cX7_release 19 = .ok (.iload 5, 2) := by decide +kernel
theorem dX7_release_21 : decode cX7_release 21 = .ok (.aload_n 0, 1) := by decide +kernel
theorem dX7_release_22 : decode cX7_release 22 = .ok (.getfield 9, 3) := by decide +kernel
theorem dX7_release_25 : decode cX7_release 25 = .ok (.arraylength, 1) := by decide +kernel
theorem dX7_release_26 : decode cX7_release 26 = .ok (.if_icmp .ge 46, 3) := by decide +kernel
theorem dX7_release_29 : decode cX7_release 29 = .ok (.iload 4, 2) := by decide +kernel
theorem dX7_release_31 : decode cX7_release 31 = .ok (.ifCond .eq 41, 3) := by decide +kernel
theorem dX7_release_34 : decode cX7_release 34 = .ok (.aload_n 0, 1) := by decide +kernel
theorem dX7_release_35 : decode cX7_release 35 = .ok (.getfield 9, 3) := by decide +kernel
theorem dX7_release_38 : decode cX7_release 38 = .ok (.iload 5, 2) := by decide +kernel
theorem dX7_release_40 : decode cX7_release 40 = .ok (.iaload, 1) := by decide +kernel
theorem dX7_release_41 : decode cX7_release 41 = .ok (.iconst (-1), 1) := by decide +kernel
theorem dX7_release_42 : decode cX7_release 42 = .ok (.if_icmp .ne 11, 3) := by decide +kernel
theorem dX7_release_45 : decode cX7_release 45 = .ok (.aload_n 1, 1) := by decide +kernel
theorem dX7_release_46 : decode cX7_release 46 = .ok (.iload_n 2, 1) := by decide +kernel
theorem dX7_release_47 : decode cX7_release 47 = .ok (.invokevirtual 60, 3) := by decide +kernel
theorem dX7_release_50 : decode cX7_release 50 = .ok (.goto 14, 3) := by decide +kernel
theorem dX7_release_53 : decode cX7_release 53 = .ok (.aload_n 1, 1) := by decide +kernel
theorem dX7_release_54 : decode cX7_release 54 = .ok (.aload_n 0, 1) := by decide +kernel
theorem dX7_release_55 : decode cX7_release 55 = .ok (.getfield 9, 3) := by decide +kernel
theorem dX7_release_58 : decode cX7_release 58 = .ok (.iload 5, 2) := by decide +kernel
theorem dX7_release_60 : decode cX7_release 60 = .ok (.iaload, 1) := by decide +kernel
theorem dX7_release_61 : decode cX7_release 61 = .ok (.invokevirtual 62, 3) := by decide +kernel
theorem dX7_release_64 : decode cX7_release 64 = .ok (.istore 4, 2) := by decide +kernel
theorem dX7_release_66 : decode cX7_release 66 = .ok (.iinc 5 1, 3) := by decide +kernel
theorem dX7_release_69 : decode cX7_release 69 = .ok (.goto (-59), 3) := by decide +kernel
theorem dX7_release_72 : decode cX7_release 72 = .ok (.iload 4, 2) := by decide +kernel
theorem dX7_release_74 : decode cX7_release 74 = .ok (.ireturn, 1) := by decide +kernel
theorem dX7_wrap_0 : decode cX7_wrap 0 = .ok (.aload_n 1, 1) := by decide +kernel
theorem dX7_wrap_1 : decode cX7_wrap 1 = .ok (.invokevirtual 55, 3) := by decide +kernel
theorem dX7_wrap_4 : decode cX7_wrap 4 = .ok (.istore 4, 2) := by decide +kernel
theorem dX7_wrap_6 : decode cX7_wrap 6 = .ok (.aload_n 0, 1) := by decide +kernel
theorem dX7_wrap_7 : decode cX7_wrap 7 = .ok (.getfield 15, 3) := by decide +kernel
theorem dX7_wrap_10 : decode cX7_wrap 10 = .ok (.ifCond .le 21, 3) := by decide +kernel
theorem dX7_wrap_13 : decode cX7_wrap 13 = .ok (.aload_n 0, 1) := by decide +kernel
theorem dX7_wrap_14 : decode cX7_wrap 14 = .ok (.getfield 15, 3) := by decide +kernel
theorem dX7_wrap_17 : decode cX7_wrap 17 = .ok (.aload_n 0, 1) := by decide +kernel
theorem dX7_wrap_18 : decode cX7_wrap 18 = .ok (.getfield 9, 3) := by decide +kernel
theorem dX7_wrap_21 : decode cX7_wrap 21 = .ok (.arraylength, 1) := by decide +kernel
theorem dX7_wrap_22 : decode cX7_wrap 22 = .ok (.if_icmp .gt 9, 3) := by decide +kernel
theorem dX7_wrap_25 : decode cX7_wrap 25 = .ok (.iload 4, 2) := by decide +kernel
theorem dX7_wrap_27 : decode cX7_wrap 27 = .ok (.iconst (-1), 1) := by decide +kernel
theorem dX7_wrap_28 : decode cX7_wrap 28 = .ok (.if_icmp .ne 5, 3) := by decide +kernel
theorem dX7_wrap_31 : decode cX7_wrap 31 = .ok (.iconst 0, 1) := by decide +kernel
theorem dX7_wrap_32 : decode cX7_wrap 32 = .ok (.ireturn, 1) := by decide +kernel
theorem dX7_wrap_33 : decode cX7_wrap 33 = .ok (.aload_n 0, 1) := by decide +kernel
theorem dX7_wrap_34 : decode cX7_wrap 34 = .ok (.getfield 9, 3) := by decide +kernel
theorem dX7_wrap_37 : decode cX7_wrap 37 = .ok (.aload_n 0, 1) := by decide +kernel
theorem dX7_wrap_38 : decode cX7_wrap 38 = .ok (.getfield 15, 3) := by decide +kernel
theorem dX7_wrap_41 : decode cX7_wrap 41 = .ok (.iconst 1, 1) := by decide +kernel
theorem dX7_wrap_42 : decode cX7_wrap 42 = .ok (.isub, 1) := by decide +kernel
theorem dX7_wrap_43 : decode cX7_wrap 43 = .ok (.iaload, 1) := by decide +kernel
theorem dX7_wrap_44 : decode cX7_wrap 44 = .ok (.istore 5, 2) := by decide +kernel
theorem dX7_wrap_46 : decode cX7_wrap 46 = .ok (.aload_n 1, 1) := by decide +kernel
theorem dX7_wrap_47 : decode cX7_wrap 47 = .ok (.iload 4, 2) := by decide +kernel
theorem dX7_wrap_49 : decode cX7_wrap 49 = .ok (.invokevirtual 60, 3) := by decide +kernel
theorem dX7_wrap_52 : decode cX7_wrap 52 = .ok (.istore 6, 2) := by decide +kernel
theorem dX7_wrap_54 : decode cX7_wrap 54 = .ok (.iload_n 2, 1) := by decide +kernel
theorem dX7_wrap_55 : decode cX7_wrap 55 = .ok (.bipush 43, 2) := by decide +kernel
theorem dX7_wrap_57 : decode cX7_wrap 57 = .ok (.if_icmp .eq 9, 3) := by decide +kernel
theorem dX7_wrap_60 : decode cX7_wrap 60 = .ok (.iload_n 2, 1) := by decide +kernel
theorem dX7_wrap_61 : decode cX7_wrap 61 = .ok (.bipush 37, 2) := by decide +kernel
theorem dX7_wrap_63 : decode cX7_wrap 63 = .ok (.if_icmp .ne 24, 3) := by decide +kernel
theorem dX7_wrap_66 : decode cX7_wrap 66 = .ok (.iload 6, 2) := by decide +kernel
theorem dX7_wrap_68 : decode cX7_wrap 68 = .ok (.ifCond .eq 16, 3) := by decide +kernel
theorem dX7_wrap_71 : decode cX7_wrap 71 = .ok (.aload_n 1, 1) := by decide +kernel
theorem dX7_wrap_72 : decode cX7_wrap 72 = .ok (.iload 5, 2) := by decide +kernel
theorem dX7_wrap_74 : decode cX7_wrap 74 = .ok (.invokevirtual 62, 3) := by decide +kernel
theorem dX7_wrap_77 : decode cX7_wrap 77 = .ok (.ifCond .eq 7, 3) := by decide +kernel
theorem dX7_wrap_80 : decode cX7_wrap 80 = .ok (.iconst 1, 1) := by decide +kernel
theorem dX7_wrap_81 : decode cX7_wrap 81 = .ok (.goto 4, 3) := by decide +kernel
theorem dX7_wrap_84 : decode cX7_wrap 84 = .ok (.iconst 0, 1) := by decide +kernel
theorem dX7_wrap_85 : decode cX7_wrap 85 = .ok (.istore 6, 2) := by decide +kernel
theorem dX7_wrap_87 : decode cX7_wrap 87 = .ok (.iload 6, 2) := by decide +kernel
theorem dX7_wrap_89 : decode cX7_wrap 89 = .ok (.ifCond .eq 16, 3) := by decide +kernel
theorem dX7_wrap_92 : decode cX7_wrap 92 = .ok (.aload_n 1, 1) := by decide +kernel
theorem dX7_wrap_93 : decode cX7_wrap 93 = .ok (.iload 4, 2) := by decide +kernel
theorem dX7_wrap_95 : decode cX7_wrap 95 = .ok (.invokevirtual 60, 3) := by decide +kernel
theorem dX7_wrap_98 : decode cX7_wrap 98 = .ok (.ifCond .eq 7, 3) := by decide +kernel
theorem dX7_wrap_101 : decode cX7_wrap 101 = .ok (.iconst 1, 1) := by decide +kernel
theorem dX7_wrap_102 : decode cX7_wrap 102 = .ok (.goto 4, 3) := by decide +kernel
theorem dX7_wrap_105 : decode cX7_wrap 105 = .ok (.iconst 0, 1) := by decide +kernel
theorem dX7_wrap_106 : decode cX7_wrap 106 = .ok (.istore 6, 2) := by decide +kernel
theorem dX7_wrap_108 : decode cX7_wrap 108 = .ok (.iload_n 2, 1) := by decide +kernel
theorem dX7_wrap_109 : decode cX7_wrap 109 = .ok (.bipush 63, 2) := by decide +kernel
theorem dX7_wrap_111 : decode cX7_wrap 111 = .ok (.if_icmp .eq 27, 3) := by decide +kernel
theorem dX7_wrap_114 : decode cX7_wrap 114 = .ok (.iload 6, 2) := by decide +kernel
theorem dX7_wrap_116 : decode cX7_wrap 116 = .ok (.ifCond .eq 19, 3) := by decide +kernel
theorem dX7_wrap_119 : decode cX7_wrap 119 = .ok (.aload_n 1, 1) := by decide +kernel
theorem dX7_wrap_120 : decode cX7_wrap 120 = .ok (.bipush 16, 2) := by decide +kernel
theorem dX7_wrap_122 : decode cX7_wrap 122 = .ok (.iload 4, 2) := by decide +kernel
theorem dX7_wrap_124 : decode cX7_wrap 124 = .ok (.iadd, 1) := by decide +kernel
theorem dX7_wrap_125 : decode cX7_wrap 125 = .ok (.invokevirtual 62, 3) := by decide +kernel
theorem dX7_wrap_128 : decode cX7_wrap 128 = .ok (.ifCond .eq 7, 3) := by decide +kernel
theorem dX7_wrap_131 : decode cX7_wrap 131 = .ok (.iconst 1, 1) := by decide +kernel
theorem dX7_wrap_132 : decode cX7_wrap 132 = .ok (.goto 4, 3) := by decide +kernel
theorem dX7_wrap_135 : decode cX7_wrap 135 = .ok (.iconst 0, 1) := by decide +kernel
theorem dX7_wrap_136 : decode cX7_wrap 136 = .ok (.istore 6, 2) := by decide +kernel
theorem dX7_wrap_138 : decode cX7_wrap 138 = .ok (.iload_n 2, 1) := by decide +kernel
theorem dX7_wrap_139 : decode cX7_wrap 139 = .ok (.bipush 37, 2) := by decide +kernel
theorem dX7_wrap_141 : decode cX7_wrap 141 = .ok (.if_icmp .ne 23, 3) := by decide +kernel
theorem dX7_wrap_144 : decode cX7_wrap 144 = .ok (.iload 6, 2) := by decide +kernel
theorem dX7_wrap_146 : decode cX7_wrap 146 = .ok (.ifCond .eq 15, 3) := by decide +kernel
theorem dX7_wrap_149 : decode cX7_wrap 149 = .ok (.aload_n 1, 1) := by decide +kernel
theorem dX7_wrap_150 : decode cX7_wrap 150 = .ok (.iload_n 3, 1) := by decide +kernel
theorem dX7_wrap_151 : decode cX7_wrap 151 = .ok (.invokevirtual 62, 3) := by decide +kernel
theorem dX7_wrap_154 : decode cX7_wrap 154 = .ok (.ifCond .eq 7, 3) := by decide +kernel
theorem dX7_wrap_157 : decode cX7_wrap 157 = .ok (.iconst 1, 1) := by decide +kernel
theorem dX7_wrap_158 : decode cX7_wrap 158 = .ok (.goto 4, 3) := by decide +kernel
theorem dX7_wrap_161 : decode cX7_wrap 161 = .ok (.iconst 0, 1) := by decide +kernel
theorem dX7_wrap_162 : decode cX7_wrap 162 = .ok (.istore 6, 2) := by decide +kernel
theorem dX7_wrap_164 : decode cX7_wrap 164 = .ok (.aload_n 0, 1) := by decide +kernel
theorem dX7_wrap_165 : decode cX7_wrap 165 = .ok (.getfield 9, 3) := by decide +kernel
theorem dX7_wrap_168 : decode cX7_wrap 168 = .ok (.aload_n 0, 1) := by decide +kernel
theorem dX7_wrap_169 : decode cX7_wrap 169 = .ok (.getfield 15, 3) := by decide +kernel
theorem dX7_wrap_172 : decode cX7_wrap 172 = .ok (.iconst 1, 1) := by decide +kernel
theorem dX7_wrap_173 : decode cX7_wrap 173 = .ok (.isub, 1) := by decide +kernel
theorem dX7_wrap_174 : decode cX7_wrap 174 = .ok (.bipush 16, 2) := by decide +kernel
theorem dX7_wrap_176 : decode cX7_wrap 176 = .ok (.iload 4, 2) := by decide +kernel
theorem dX7_wrap_178 : decode cX7_wrap 178 = .ok (.iadd, 1) := by decide +kernel
theorem dX7_wrap_179 : decode cX7_wrap 179 = .ok (.iastore, 1) := by decide +kernel
theorem dX7_wrap_180 : decode cX7_wrap 180 = .ok (.iload 6, 2) := by decide +kernel
theorem dX7_wrap_182 : decode cX7_wrap 182 = .ok (.ifCond .eq 16, 3) := by decide +kernel
theorem dX7_wrap_185 : decode cX7_wrap 185 = .ok (.aload_n 1, 1) := by decide +kernel
theorem dX7_wrap_186 : decode cX7_wrap 186 = .ok (.iload 5, 2) := by decide +kernel
theorem dX7_wrap_188 : decode cX7_wrap 188 = .ok (.invokevirtual 62, 3) := by decide +kernel
theorem dX7_wrap_191 : decode cX7_wrap 191 = .ok (.ifCond .eq 7, 3) := by decide +kernel
theorem dX7_wrap_194 : decode cX7_wrap 194 = .ok (.iconst 1, 1) := by decide +kernel
theorem dX7_wrap_195 : decode cX7_wrap 195 = .ok (.goto 4, 3) := by decide +kernel
theorem dX7_wrap_198 : decode cX7_wrap 198 = .ok (.iconst 0, 1) := by decide +kernel
theorem dX7_wrap_199 : decode cX7_wrap 199 = .ok (.ireturn, 1) := by decide +kernel
theorem dX8_init_0 : decode cX8_init 0 = .ok (.aload_n 0, 1) := by decide +kernel
theorem dX8_init_1 : decode cX8_init 1 = .ok (.invokespecial 3, 3) := by decide +kernel
theorem dX8_init_4 : decode cX8_init 4 = .ok (.aload_n 0, 1) := by decide +kernel
theorem dX8_init_5 : decode cX8_init 5 = .ok (.bipush 24, 2) := by decide +kernel
theorem dX8_init_7 : decode cX8_init 7 = .ok (.newarray .char, 2) := by decide +kernel
theorem dX8_init_9 : decode cX8_init 9 = .ok (.putfield 9, 3) := by decide +kernel
theorem dX8_init_12 : decode cX8_init 12 = .ok (.return_, 1) := by decide +kernel
theorem dX8_isFull_0 : decode cX8_isFull 0 = .ok (.aload_n 0, 1) := by decide +kernel
theorem dX8_isFull_1 : decode cX8_isFull 1 = .ok (.getfield 15, 3) := by decide +kernel
theorem dX8_isFull_4 : decode cX8_isFull 4 = .ok (.aload_n 0, 1) := by decide +kernel
theorem dX8_isFull_5 : decode cX8_isFull 5 = .ok (.getfield 9, 3) := by decide +kernel
theorem dX8_isFull_8 : decode cX8_isFull 8 = .ok (.arraylength, 1) := by decide +kernel
theorem dX8_isFull_9 : decode cX8_isFull 9 = .ok (.if_icmp .lt 7, 3) := by decide +kernel
theorem dX8_isFull_12 : decode cX8_isFull 12 = .ok (.iconst 1, 1) := by decide +kernel
theorem dX8_isFull_13 : decode cX8_isFull 13 = .ok (.goto 4, 3) := by decide +kernel
theorem dX8_isFull_16 : decode cX8_isFull 16 = .ok (.iconst 0, 1) := by decide +kernel
theorem dX8_isFull_17 : decode cX8_isFull 17 = .ok (.ireturn, 1) := by decide +kernel
theorem dX8_append_0 : decode cX8_append 0 = .ok (.aload_n 0, 1) := by decide +kernel
theorem dX8_append_1 : decode cX8_append 1 = .ok (.getfield 15, 3) := by decide +kernel
theorem dX8_append_4 : decode cX8_append 4 = .ok (.ifCond .lt 35, 3) := by decide +kernel
theorem dX8_append_7 : decode cX8_append 7 = .ok (.aload_n 0, 1) := by decide +kernel
theorem dX8_append_8 : decode cX8_append 8 = .ok (.getfield 15, 3) := by decide +kernel
theorem dX8_append_11 : decode cX8_append 11 = .ok (.aload_n 0, 1) := by decide +kernel
theorem dX8_append_12 : decode cX8_append 12 = .ok (.getfield 9, 3) := by decide +kernel
theorem dX8_append_15 : decode cX8_append 15 = .ok (.arraylength, 1) := by decide +kernel
theorem dX8_append_16 : decode cX8_append 16 = .ok (.if_icmp .ge 23, 3) := by decide +kernel
theorem dX8_append_19 : decode cX8_append 19 = .ok (.aload_n 0, 1) := by decide +kernel
theorem dX8_append_20 : decode cX8_append 20 = .ok (.getfield 9, 3) := by decide +kernel
theorem dX8_append_23 : decode cX8_append 23 = .ok (.aload_n 0, 1) := by decide +kernel
theorem dX8_append_24 : decode cX8_append 24 = .ok (.getfield 15, 3) := by decide +kernel
theorem dX8_append_27 : decode cX8_append 27 = .ok (.iload_n 1, 1) := by decide +kernel
theorem dX8_append_28 : decode cX8_append 28 = .ok (.castore, 1) := by decide +kernel
theorem dX8_append_29 : decode cX8_append 29 = .ok (.aload_n 0, 1) := by decide +kernel
theorem dX8_append_30 : decode cX8_append 30 = .ok (.dup, 1) := by decide +kernel
theorem dX8_append_31 : decode cX8_append 31 = .ok (.getfield 15, 3) := by decide +kernel
theorem dX8_append_34 : decode cX8_append 34 = .ok (.iconst 1, 1) := by decide +kernel
theorem dX8_append_35 : decode cX8_append 35 = .ok (.iadd, 1) := by decide +kernel
theorem dX8_append_36 : decode cX8_append 36 = .ok (.putfield 15, 3) := by decide +kernel
theorem dX8_append_39 : decode cX8_append 39 = .ok (.aload_n 0, 1) := by decide +kernel
theorem dX8_append_40 : decode cX8_append 40 = .ok (.getfield 15, 3) := by decide +kernel
theorem dX8_append_43 : decode cX8_append 43 = .ok (.ireturn, 1) := by decide +kernel
theorem dX8_clear_0 : decode cX8_clear 0 = .ok (.aload_n 0, 1) := by decide +kernel
theorem dX8_clear_1 : decode cX8_clear 1 = .ok (.getfield 15, 3) := by decide +kernel
theorem dX8_clear_4 : decode cX8_clear 4 = .ok (.istore_n 1, 1) := by decide +kernel
theorem dX8_clear_5 : decode cX8_clear 5 = .ok (.aload_n 0, 1) := by decide +kernel
theorem dX8_clear_6 : decode cX8_clear 6 = .ok (.iconst 0, 1) := by decide +kernel
theorem dX8_clear_7 : decode cX8_clear 7 = .ok (.putfield 15, 3) := by decide +kernel
theorem dX8_clear_10 : decode cX8_clear 10 = .ok (.iload_n 1, 1) := by decide +kernel
theorem dX8_clear_11 : decode cX8_clear 11 = .ok (.ireturn, 1) := by decide +kernel
theorem dX8_length_0 : decode cX8_length 0 = .ok (.aload_n 0, 1) := by decide +kernel
theorem dX8_length_1 : decode cX8_length 1 = .ok (.getfield 15, 3) := by decide +kernel
theorem dX8_length_4 : decode cX8_length 4 = .ok (.ireturn, 1) := by decide +kernel
theorem dX8_letter_0 : decode cX8_letter 0 = .ok (.iload_n 1, 1) := by decide +kernel
theorem dX8_letter_1 : decode cX8_letter 1 = .ok (.ifCond .lt 21, 3) := by decide +kernel
theorem dX8_letter_4 : decode cX8_letter 4 = .ok (.iload_n 1, 1) := by decide +kernel
theorem dX8_letter_5 : decode cX8_letter 5 = .ok (.aload_n 0, 1) := by decide +kernel
theorem dX8_letter_6 : decode cX8_letter 6 = .ok (.getfield 9, 3) := by decide +kernel
theorem dX8_letter_9 : decode cX8_letter 9 = .ok (.arraylength, 1) := by decide +kernel
theorem dX8_letter_10 : decode cX8_letter 10 = .ok (.if_icmp .ge 12, 3) := by decide +kernel
theorem dX8_letter_13 : decode cX8_letter 13 = .ok (.aload_n 0, 1) := by decide +kernel
theorem dX8_letter_14 : decode cX8_letter 14 = .ok (.getfield 9, 3) := by decide +kernel
theorem dX8_letter_17 : decode cX8_letter 17 = .ok (.iload_n 1, 1) := by decide +kernel
theorem dX8_letter_18 : decode cX8_letter 18 = .ok (.caload, 1) := by decide +kernel
theorem dX8_letter_19 : decode cX8_letter 19 = .ok (.goto 5, 3) := by decide +kernel
theorem dX8_letter_22 : decode cX8_letter 22 = .ok (.bipush 32, 2) := by decide +kernel
theorem dX8_letter_24 : decode cX8_letter 24 = .ok (.ireturn, 1) := by decide +kernel
theorem dX8_copyRenamed_0 : decode cX8_copyRenamed 0 = .ok (.aload_n 0, 1) := by decide +kernel
theorem dX8_copyRenamed_1 : decode cX8_copyRenamed 1 = .ok (.iconst 0, 1) := by decide +kernel
theorem dX8_copyRenamed_2 : decode cX8_copyRenamed 2 = .ok (.putfield 15, 3) := by decide +kernel
theorem dX8_copyRenamed_5 : decode cX8_copyRenamed 5 = .ok (.iconst 0, 1) := by decide +kernel
theorem dX8_copyRenamed_6 : decode cX8_copyRenamed 6 = .ok (.istore_n 3, 1) := by decide +kernel
theorem dX8_copyRenamed_7 : decode cX8_copyRenamed 7 = .ok (.iload_n 3, 1) := by decide +kernel
theorem dX8_copyRenamed_8 : decode cX8_copyRenamed 8 = .ok (.aload_n 1, 1) := by decide +kernel
theorem dX8_copyRenamed_9 : decode cX8_copyRenamed 9 = .ok (.getfield 15, 3) := by decide +kernel
theorem dX8_copyRenamed_12 : decode cX8_copyRenamed 12 = .ok (.if_icmp .ge 53, 3) := by decide +kernel
theorem dX8_copyRenamed_15 : decode cX8_copyRenamed 15 = .ok (.aload_n 1, 1) := by decide +kernel
theorem dX8_copyRenamed_16 : decode cX8_copyRenamed 16 = .ok (.iload_n 3, 1) := by decide +kernel
theorem dX8_copyRenamed_17 : decode cX8_copyRenamed 17 = .ok (.invokevirtual 19, 3) := by decide +kernel
theorem dX8_copyRenamed_20 : decode cX8_copyRenamed 20 = .ok (.istore 4, 2) := by decide +kernel
theorem dX8_copyRenamed_22 : decode cX8_copyRenamed 22 = .ok (.iload 4, 2) := by decide +kernel
theorem dX8_copyRenamed_24 : decode cX8_copyRenamed 24 = .ok (.invokestatic 23, 3) := by decide +kernel
theorem dX8_copyRenamed_27 : decode cX8_copyRenamed 27 = .ok (.ifCond .eq 25, 3) := by decide +kernel
theorem dX8_copyRenamed_30 : decode cX8_copyRenamed 30 = .ok (.aload_n 0, 1) := by decide +kernel
theorem dX8_copyRenamed_31 : decode cX8_copyRenamed 31 = .ok (.bipush 65, 2) := by decide +kernel
theorem dX8_copyRenamed_33 : decode cX8_copyRenamed 33 = .ok (.iload 4, 2) := by decide +kernel
theorem dX8_copyRenamed_35 : decode cX8_copyRenamed 35 = .ok (.bipush 65, 2) := by decide +kernel
theorem dX8_copyRenamed_37 : decode cX8_copyRenamed 37 = .ok (.isub, 1) := by decide +kernel
theorem dX8_copyRenamed_38 : decode cX8_copyRenamed 38 = .ok (.iload_n 2, 1) := by decide +kernel
theorem dX8_copyRenamed_39 : decode cX8_copyRenamed 39 = .ok (.iadd, 1) := by decide +kernel
theorem dX8_copyRenamed_40 : decode cX8_copyRenamed 40 = .ok (.bipush 8, 2) := by decide +kernel
theorem dX8_copyRenamed_42 : decode cX8_copyRenamed 42 = .ok (.irem, 1) := by decide +kernel
theorem dX8_copyRenamed_43 : decode cX8_copyRenamed 43 = .ok (.iadd, 1) := by decide +kernel
theorem dX8_copyRenamed_44 : decode cX8_copyRenamed 44 = .ok (.i2c, 1) := by decide +kernel
theorem dX8_copyRenamed_45 : decode cX8_copyRenamed 45 = .ok (.invokevirtual 27, 3) := by decide +kernel
theorem dX8_copyRenamed_48 : decode cX8_copyRenamed 48 = .ok (.pop, 1) := by decide +kernel
theorem dX8_copyRenamed_49 : decode cX8_copyRenamed 49 = .ok (.goto 10, 3) := by decide +kernel
theorem dX8_copyRenamed_52 : decode cX8_copyRenamed 52 = .ok (.aload_n 0, 1) := by decide +kernel
theorem dX8_copyRenamed_53 : decode cX8_copyRenamed 53 = .ok (.iload 4, 2) := by decide +kernel
theorem dX8_copyRenamed_55 : decode cX8_copyRenamed 55 = .ok (.invokevirtual 27, 3) := by decide +kernel
theorem dX8_copyRenamed_58 : decode cX8_copyRenamed 58 = .ok (.pop, 1) := by decide +kernel
theorem dX8_copyRenamed_59 : decode cX8_copyRenamed 59 = .ok (.iinc 3 1, 3) := by decide +kernel
theorem dX8_copyRenamed_62 : decode cX8_copyRenamed 62 = .ok (.goto (-55), 3) := by decide +kernel
theorem dX8_copyRenamed_65 : decode cX8_copyRenamed 65 = .ok (.return_, 1) := by decide +kernel
theorem dX8_firstFault_0 : decode cX8_firstFault 0 = .ok (.iconst 0, 1) := by decide +kernel
theorem dX8_firstFault_1 : decode cX8_firstFault 1 = .ok (.istore_n 1, 1) := by decide +kernel
theorem dX8_firstFault_2 : decode cX8_firstFault 2 = .ok (.iconst 0, 1) := by decide +kernel
theorem dX8_firstFault_3 : decode cX8_firstFault 3 = .ok (.istore_n 2, 1) := by decide +kernel
theorem dX8_firstFault_4 : decode cX8_firstFault 4 = .ok (.iconst 0, 1) := by decide +kernel
theorem dX8_firstFault_5 : decode cX8_firstFault 5 = .ok (.istore_n 3, 1) := by decide +kernel
theorem dX8_firstFault_6 : decode cX8_firstFault 6 = .ok (.iload_n 3, 1) := by decide +kernel
theorem dX8_firstFault_7 : decode cX8_firstFault 7 = .ok (.aload_n 0, 1) := by decide +kernel
theorem dX8_firstFault_8 : decode cX8_firstFault 8 = .ok (.getfield 15, 3) := by decide +kernel
theorem dX8_firstFault_11 : decode cX8_firstFault 11 = .ok (.if_icmp .ge 54, 3) := by decide +kernel
theorem dX8_firstFault_14 : decode cX8_firstFault 14 = .ok (.aload_n 0, 1) := by decide +kernel
theorem dX8_firstFault_15 : decode cX8_firstFault 15 = .ok (.iload_n 3, 1) := by decide +kernel
theorem dX8_firstFault_16 : decode cX8_firstFault 16 = .ok (.invokevirtual 19, 3) := by decide +kernel
theorem dX8_firstFault_19 : decode cX8_firstFault 19 = .ok (.istore 4, 2) := by decide +kernel
theorem dX8_firstFault_21 : decode cX8_firstFault 21 = .ok (.iload_n 1, 1) := by decide +kernel
theorem dX8_firstFault_22 : decode cX8_firstFault 22 = .ok (.iload 4, 2) := by decide +kernel
theorem dX8_firstFault_24 : decode cX8_firstFault 24 = .ok (.iload_n 2, 1) := by decide +kernel
theorem dX8_firstFault_25 : decode cX8_firstFault 25 = .ok (.invokestatic 31, 3) := by decide +kernel
theorem dX8_firstFault_28 : decode cX8_firstFault 28 = .ok (.istore_n 1, 1) := by decide +kernel
theorem dX8_firstFault_29 : decode cX8_firstFault 29 = .ok (.iload_n 1, 1) := by decide +kernel
theorem dX8_firstFault_30 : decode cX8_firstFault 30 = .ok (.iconst 5, 1) := by decide +kernel
theorem dX8_firstFault_31 : decode cX8_firstFault 31 = .ok (.if_icmp .ne 5, 3) := by decide +kernel
theorem dX8_firstFault_34 : decode cX8_firstFault 34 = .ok (.iload_n 3, 1) := by decide +kernel
theorem dX8_firstFault_35 : decode cX8_firstFault 35 = .ok (.ireturn, 1) := by decide +kernel
theorem dX8_firstFault_36 : decode cX8_firstFault 36 = .ok (.iload 4, 2) := by decide +kernel
theorem dX8_firstFault_38 : decode cX8_firstFault 38 = .ok (.bipush 40, 2) := by decide +kernel
theorem dX8_firstFault_40 : decode cX8_firstFault 40 = .ok (.if_icmp .ne 9, 3) := by decide +kernel
theorem dX8_firstFault_43 : decode cX8_firstFault 43 = .ok (.iinc 2 1, 3) := by decide +kernel
theorem dX8_firstFault_46 : decode cX8_firstFault 46 = .ok (.goto 13, 3) := by decide +kernel
theorem dX8_firstFault_49 : decode cX8_firstFault 49 = .ok (.iload 4, 2) := by decide +kernel
theorem dX8_firstFault_51 : decode cX8_firstFault 51 = .ok (.bipush 41, 2) := by decide +kernel
theorem dX8_firstFault_53 : decode cX8_firstFault 53 = .ok (.if_icmp .ne 6, 3) := by decide +kernel
theorem dX8_firstFault_56 : decode cX8_firstFault 56 = .ok (.iinc 2 (-1), 3) := by decide +kernel
theorem dX8_firstFault_59 : decode cX8_firstFault 59 = .ok (.iinc 3 1, 3) := by decide +kernel
theorem dX8_firstFault_62 : decode cX8_firstFault 62 = .ok (.goto (-56), 3) := by decide +kernel
theorem dX8_firstFault_65 : decode cX8_firstFault 65 = .ok (.iload_n 2, 1) := by decide +kernel
theorem dX8_firstFault_66 : decode cX8_firstFault 66 = .ok (.ifCond .ne 17, 3) := by decide +kernel
theorem dX8_firstFault_69 : decode cX8_firstFault 69 = .ok (.iload_n 1, 1) := by decide +kernel
theorem dX8_firstFault_70 : decode cX8_firstFault 70 = .ok (.iconst 2, 1) := by decide +kernel
theorem dX8_firstFault_71 : decode cX8_firstFault 71 = .ok (.if_icmp .eq 8, 3) := by decide +kernel
theorem dX8_firstFault_74 : decode cX8_firstFault 74 = .ok (.iload_n 1, 1) := by decide +kernel
theorem dX8_firstFault_75 : decode cX8_firstFault 75 = .ok (.iconst 3, 1) := by decide +kernel
theorem dX8_firstFault_76 : decode cX8_firstFault 76 = .ok (.if_icmp .ne 7, 3) := by decide +kernel
theorem dX8_firstFault_79 : decode cX8_firstFault 79 = .ok (.iconst 1, 1) := by decide +kernel
theorem dX8_firstFault_80 : decode cX8_firstFault 80 = .ok (.goto 4, 3) := by decide +kernel
theorem dX8_firstFault_83 : decode cX8_firstFault 83 = .ok (.iconst 0, 1) := by decide +kernel
theorem dX8_firstFault_84 : decode cX8_firstFault 84 = .ok (.istore_n 3, 1) := by decide +kernel
theorem dX8_firstFault_85 : decode cX8_firstFault 85 = .ok (.iload_n 3, 1) := by decide +kernel
theorem dX8_firstFault_86 : decode cX8_firstFault 86 = .ok (.ifCond .eq 7, 3) := by decide +kernel
theorem dX8_firstFault_89 : decode cX8_firstFault 89 = .ok (.iconst (-1), 1) := by decide +kernel
theorem dX8_firstFault_90 : decode cX8_firstFault 90 = .ok (.goto 7, 3) := by decide +kernel
theorem dX8_firstFault_93 : decode cX8_firstFault 93 = .ok (.aload_n 0, 1) := by decide +kernel
theorem dX8_firstFault_94 : decode cX8_firstFault 94 = .ok (.getfield 15, 3) := by decide +kernel
theorem dX8_firstFault_97 : decode cX8_firstFault 97 = .ok (.ireturn, 1) := by decide +kernel
theorem dX8_stateBehind_0 : decode cX8_stateBehind 0 = .ok (.iload_n 0, 1) := by decide +kernel
theorem dX8_stateBehind_1 : decode cX8_stateBehind 1 = .ok (.tableswitch 73 0 4 #[35, 48, 73, 73, 60], 35) := by decide +kernel
theorem dX8_stateBehind_36 : decode cX8_stateBehind 36 = .ok (.iload_n 1, 1) := by decide +kernel
theorem dX8_stateBehind_37 : decode cX8_stateBehind 37 = .ok (.invokestatic 23, 3) := by decide +kernel
theorem dX8_stateBehind_40 : decode cX8_stateBehind 40 = .ok (.ifCond .eq 7, 3) := by decide +kernel
theorem dX8_stateBehind_43 : decode cX8_stateBehind 43 = .ok (.iconst 1, 1) := by decide +kernel
theorem dX8_stateBehind_44 : decode cX8_stateBehind 44 = .ok (.goto 4, 3) := by decide +kernel
theorem dX8_stateBehind_47 : decode cX8_stateBehind 47 = .ok (.iconst 5, 1) := by decide +kernel
theorem dX8_stateBehind_48 : decode cX8_stateBehind 48 = .ok (.ireturn, 1) := by decide +kernel
theorem dX8_stateBehind_49 : decode cX8_stateBehind 49 = .ok (.iload_n 1, 1) := by decide +kernel
theorem dX8_stateBehind_50 : decode cX8_stateBehind 50 = .ok (.bipush 58, 2) := by decide +kernel
theorem dX8_stateBehind_52 : decode cX8_stateBehind 52 = .ok (.if_icmp .ne 7, 3) := by decide +kernel
theorem dX8_stateBehind_55 : decode cX8_stateBehind 55 = .ok (.iconst 2, 1) := by decide +kernel
theorem dX8_stateBehind_56 : decode cX8_stateBehind 56 = .ok (.goto 4, 3) := by decide +kernel
theorem dX8_stateBehind_59 : decode cX8_stateBehind 59 = .ok (.iconst 5, 1) := by decide +kernel
theorem dX8_stateBehind_60 : decode cX8_stateBehind 60 = .ok (.ireturn, 1) := by decide +kernel
theorem dX8_stateBehind_61 : decode cX8_stateBehind 61 = .ok (.iload_n 1, 1) := by decide +kernel
theorem dX8_stateBehind_62 : decode cX8_stateBehind 62 = .ok (.invokestatic 35, 3) := by decide +kernel
theorem dX8_stateBehind_65 : decode cX8_stateBehind 65 = .ok (.ifCond .eq 7, 3) := by decide +kernel
theorem dX8_stateBehind_68 : decode cX8_stateBehind 68 = .ok (.iconst 2, 1) := by decide +kernel
theorem dX8_stateBehind_69 : decode cX8_stateBehind 69 = .ok (.goto 4, 3) := by decide +kernel
theorem dX8_stateBehind_72 : decode cX8_stateBehind 72 = .ok (.iconst 5, 1) := by decide +kernel
theorem dX8_stateBehind_73 : decode cX8_stateBehind 73 = .ok (.ireturn, 1) := by decide +kernel
theorem dX8_stateBehind_74 : decode cX8_stateBehind 74 = .ok (.iload_n 0, 1) := by decide +kernel
theorem dX8_stateBehind_75 : decode cX8_stateBehind 75 = .ok (.iload_n 1, 1) := by decide +kernel
theorem dX8_stateBehind_76 : decode cX8_stateBehind 76 = .ok (.iload_n 2, 1) := by decide +kernel
theorem dX8_stateBehind_77 : decode cX8_stateBehind 77 = .ok (.invokestatic 38, 3) := by decide +kernel
theorem dX8_stateBehind_80 : decode cX8_stateBehind 80 = .ok (.ireturn, 1) := by decide +kernel
theorem dX8_stateInChoice_0 : decode cX8_stateInChoice 0 = .ok (.iload_n 1, 1) := by decide +kernel
theorem dX8_stateInChoice_1 : decode cX8_stateInChoice 1 = .ok (.invokestatic 35, 3) := by decide +kernel
theorem dX8_stateInChoice_4 : decode cX8_stateInChoice 4 = .ok (.ifCond .ne 10, 3) := by decide +kernel
theorem dX8_stateInChoice_7 : decode cX8_stateInChoice 7 = .ok (.iload_n 1, 1) := by decide +kernel
theorem dX8_stateInChoice_8 : decode cX8_stateInChoice 8 = .ok (.invokestatic 23, 3) := by decide +kernel
theorem dX8_stateInChoice_11 : decode cX8_stateInChoice 11 = .ok (.ifCond .eq 5, 3) := by decide +kernel
theorem dX8_stateInChoice_14 : decode cX8_stateInChoice 14 = .ok (.iconst 3, 1) := by decide +kernel
theorem dX8_stateInChoice_15 : decode cX8_stateInChoice 15 = .ok (.ireturn, 1) := by decide +kernel
theorem dX8_stateInChoice_16 : decode cX8_stateInChoice 16 = .ok (.iload_n 1, 1) := by decide +kernel
theorem dX8_stateInChoice_17 : decode cX8_stateInChoice 17 = .ok (.bipush 40, 2) := by decide +kernel
theorem dX8_stateInChoice_19 : decode cX8_stateInChoice 19 = .ok (.if_icmp .eq 9, 3) := by decide +kernel
theorem dX8_stateInChoice_22 : decode cX8_stateInChoice 22 = .ok (.iload_n 1, 1) := by decide +kernel
theorem dX8_stateInChoice_23 : decode cX8_stateInChoice 23 = .ok (.bipush 124, 2) := by decide +kernel
theorem dX8_stateInChoice_25 : decode cX8_stateInChoice 25 = .ok (.if_icmp .ne 5, 3) := by decide +kernel
theorem dX8_stateInChoice_28 : decode cX8_stateInChoice 28 = .ok (.iconst 2, 1) := by decide +kernel
theorem dX8_stateInChoice_29 : decode cX8_stateInChoice 29 = .ok (.ireturn, 1) := by decide +kernel
theorem dX8_stateInChoice_30 : decode cX8_stateInChoice 30 = .ok (.iload_n 1, 1) := by decide +kernel
theorem dX8_stateInChoice_31 : decode cX8_stateInChoice 31 = .ok (.bipush 41, 2) := by decide +kernel
theorem dX8_stateInChoice_33 : decode cX8_stateInChoice 33 = .ok (.if_icmp .ne 13, 3) := by decide +kernel
theorem dX8_stateInChoice_36 : decode cX8_stateInChoice 36 = .ok (.iload_n 2, 1) := by decide +kernel
theorem dX8_stateInChoice_37 : decode cX8_stateInChoice 37 = .ok (.ifCond .le 7, 3) := by decide +kernel
theorem dX8_stateInChoice_40 : decode cX8_stateInChoice 40 = .ok (.iconst 3, 1) := by decide +kernel
theorem dX8_stateInChoice_41 : decode cX8_stateInChoice 41 = .ok (.goto 4, 3) := by decide +kernel
theorem dX8_stateInChoice_44 : decode cX8_stateInChoice 44 = .ok (.iconst 5, 1) := by decide +kernel
theorem dX8_stateInChoice_45 : decode cX8_stateInChoice 45 = .ok (.ireturn, 1) := by decide +kernel
theorem dX8_stateInChoice_46 : decode cX8_stateInChoice 46 = .ok (.iload_n 0, 1) := by decide +kernel
theorem dX8_stateInChoice_47 : decode cX8_stateInChoice 47 = .ok (.iconst 3, 1) := by decide +kernel
theorem dX8_stateInChoice_48 : decode cX8_stateInChoice 48 = .ok (.if_icmp .eq 5, 3) := by decide +kernel
theorem dX8_stateInChoice_51 : decode cX8_stateInChoice 51 = .ok (.iconst 5, 1) := by decide +kernel
theorem dX8_stateInChoice_52 : decode cX8_stateInChoice 52 = .ok (.ireturn, 1) := by decide +kernel
theorem dX8_stateInChoice_53 : decode cX8_stateInChoice 53 = .ok (.iload_n 1, 1) := by decide +kernel
theorem dX8_stateInChoice_54 : decode cX8_stateInChoice 54 = .ok (.bipush 37, 2) := by decide +kernel
theorem dX8_stateInChoice_56 : decode cX8_stateInChoice 56 = .ok (.if_icmp .ne 5, 3) := by decide +kernel
theorem dX8_stateInChoice_59 : decode cX8_stateInChoice 59 = .ok (.iconst 4, 1) := by decide +kernel
theorem dX8_stateInChoice_60 : decode cX8_stateInChoice 60 = .ok (.ireturn, 1) := by decide +kernel
theorem dX8_stateInChoice_61 : decode cX8_stateInChoice 61 = .ok (.iload_n 1, 1) := by decide +kernel
theorem dX8_stateInChoice_62 : decode cX8_stateInChoice 62 = .ok (.invokestatic 41, 3) := by decide +kernel
theorem dX8_stateInChoice_65 : decode cX8_stateInChoice 65 = .ok (.ifCond .eq 7, 3) := by decide +kernel
theorem dX8_stateInChoice_68 : decode cX8_stateInChoice 68 = .ok (.iconst 2, 1) := by decide +kernel
theorem dX8_stateInChoice_69 : decode cX8_stateInChoice 69 = .ok (.goto 4, 3) := by decide +kernel
theorem dX8_stateInChoice_72 : decode cX8_stateInChoice 72 = .ok (.iconst 5, 1) := by decide +kernel
theorem dX8_stateInChoice_73 : decode cX8_stateInChoice 73 = .ok (.ireturn, 1) := by decide +kernel
theorem dX9_init_0 : decode cX9_init 0 = .ok (.aload_n 0, 1) := by decide +kernel
theorem dX9_init_1 : decode cX9_init 1 = .ok (.invokespecial 3, 3) := by decide +kernel
theorem dX9_init_4 : decode cX9_init 4 = .ok (.aload_n 0, 1) := by decide +kernel
theorem dX9_init_5 : decode cX9_init 5 = .ok (.sipush 301, 3) := by decide +kernel
theorem dX9_init_8 : decode cX9_init 8 = .ok (.newarray .int, 2) := by decide +kernel
theorem dX9_init_10 : decode cX9_init 10 = .ok (.putfield 9, 3) := by decide +kernel
theorem dX9_init_13 : decode cX9_init 13 = .ok (.aload_n 0, 1) := by decide +kernel
theorem dX9_init_14 : decode cX9_init 14 = .ok (.sipush 301, 3) := by decide +kernel
theorem dX9_init_17 : decode cX9_init 17 = .ok (.newarray .int, 2) := by decide +kernel
theorem dX9_init_19 : decode cX9_init 19 = .ok (.putfield 15, 3) := by decide +kernel
theorem dX9_init_22 : decode cX9_init 22 = .ok (.aload_n 0, 1) := by decide +kernel
theorem dX9_init_23 : decode cX9_init 23 = .ok (.aload_n 1, 1) := by decide +kernel
theorem dX9_init_24 : decode cX9_init 24 = .ok (.putfield 18, 3) := by decide +kernel
theorem dX9_init_27 : decode cX9_init 27 = .ok (.aload_n 0, 1) := by decide +kernel
theorem dX9_init_28 : decode cX9_init 28 = .ok (.iload_n 2, 1) := by decide +kernel
theorem dX9_init_29 : decode cX9_init 29 = .ok (.putfield 22, 3) := by decide +kernel
theorem dX9_init_32 : decode cX9_init 32 = .ok (.aload_n 0, 1) := by decide +kernel
theorem dX9_init_33 : decode cX9_init 33 = .ok (.aload_n 3, 1) := by decide +kernel
theorem dX9_init_34 : decode cX9_init 34 = .ok (.putfield 26, 3) := by decide +kernel
theorem dX9_init_37 : decode cX9_init 37 = .ok (.aload_n 0, 1) := by decide +kernel
theorem dX9_init_38 : decode cX9_init 38 = .ok (.aload 4, 2) := by decide +kernel
theorem dX9_init_40 : decode cX9_init 40 = .ok (.putfield 29, 3) := by decide +kernel
theorem dX9_init_43 : decode cX9_init 43 = .ok (.aload_n 0, 1) := by decide +kernel
theorem dX9_init_44 : decode cX9_init 44 = .ok (.aload 5, 2) := by decide +kernel
theorem dX9_init_46 : decode cX9_init 46 = .ok (.putfield 32, 3) := by decide +kernel
theorem dX9_init_49 : decode cX9_init 49 = .ok (.return_, 1) := by decide +kernel
theorem dX9_extent_0 : decode cX9_extent 0 = .ok (.aload_n 0, 1) := by decide +kernel
theorem dX9_extent_1 : decode cX9_extent 1 = .ok (.getfield 18, 3) := by decide +kernel
theorem dX9_extent_4 : decode cX9_extent 4 = .ok (.invokevirtual 35, 3) := by decide +kernel
theorem dX9_extent_7 : decode cX9_extent 7 = .ok (.ireturn, 1) := by decide +kernel
theorem dX9_clashes_0 : decode cX9_clashes 0 = .ok (.aload_n 0, 1) := by decide +kernel
theorem dX9_clashes_1 : decode cX9_clashes 1 = .ok (.iconst 0, 1) := by decide +kernel
theorem dX9_clashes_2 : decode cX9_clashes 2 = .ok (.invokevirtual 41, 3) := by decide +kernel
theorem dX9_clashes_5 : decode cX9_clashes 5 = .ok (.ireturn, 1) := by decide +kernel
theorem dX9_easedClashes_0 : decode cX9_easedClashes 0 = .ok (.aload_n 0, 1) := by decide +kernel
theorem dX9_easedClashes_1 : decode cX9_easedClashes 1 = .ok (.iconst 1, 1) := by decide +kernel
theorem dX9_easedClashes_2 : decode cX9_easedClashes 2 = .ok (.invokevirtual 41, 3) := by decide +kernel
theorem dX9_easedClashes_5 : decode cX9_easedClashes 5 = .ok (.ireturn, 1) := by decide +kernel
theorem dX9_run_0 : decode cX9_run 0 = .ok (.aload_n 0, 1) := by decide +kernel
theorem dX9_run_1 : decode cX9_run 1 = .ok (.getfield 18, 3) := by decide +kernel
theorem dX9_run_4 : decode cX9_run 4 = .ok (.invokevirtual 35, 3) := by decide +kernel
theorem dX9_run_7 : decode cX9_run 7 = .ok (.bipush (-2), 2) := by decide +kernel
theorem dX9_run_9 : decode cX9_run 9 = .ok (.if_icmp .ne 6, 3) := by decide +kernel
theorem dX9_run_12 : decode cX9_run 12 = .ok (.bipush (-2), 2) := by decide +kernel
theorem dX9_run_14 : decode cX9_run 14 = .ok (.ireturn, 1) := by decide +kernel
theorem dX9_run_15 : decode cX9_run 15 = .ok (.aload_n 0, 1) := by decide +kernel
theorem dX9_run_16 : decode cX9_run 16 = .ok (.iconst 0, 1) := by decide +kernel
theorem dX9_run_17 : decode cX9_run 17 = .ok (.putfield 45, 3) := by decide +kernel
theorem dX9_run_20 : decode cX9_run 20 = .ok (.aload_n 0, 1) := by decide +kernel
theorem dX9_run_21 : decode cX9_run 21 = .ok (.iconst 0, 1) := by decide +kernel
theorem dX9_run_22 : decode cX9_run 22 = .ok (.iconst 0, 1) := by decide +kernel
theorem dX9_run_23 : decode cX9_run 23 = .ok (.invokevirtual 49, 3) := by decide +kernel
theorem dX9_run_26 : decode cX9_run 26 = .ok (.iconst 0, 1) := by decide +kernel
theorem dX9_run_27 : decode cX9_run 27 = .ok (.istore_n 1, 1) := by decide +kernel
theorem dX9_run_28 : decode cX9_run 28 = .ok (.iconst 0, 1) := by decide +kernel
theorem dX9_run_29 : decode cX9_run 29 = .ok (.istore_n 2, 1) := by decide +kernel
theorem dX9_run_30 : decode cX9_run 30 = .ok (.iload_n 2, 1) := by decide +kernel
theorem dX9_run_31 : decode cX9_run 31 = .ok (.sipush 300, 3) := by decide +kernel
theorem dX9_run_34 : decode cX9_run 34 = .ok (.if_icmp .gt 106, 3) := by decide +kernel
theorem dX9_run_37 : decode cX9_run 37 = .ok (.aload_n 0, 1) := by decide +kernel
theorem dX9_run_38 : decode cX9_run 38 = .ok (.getfield 32, 3) := by decide +kernel
theorem dX9_run_41 : decode cX9_run 41 = .ok (.iload_n 1, 1) := by decide +kernel
theorem dX9_run_42 : decode cX9_run 42 = .ok (.invokestatic 53, 3) := by decide +kernel
theorem dX9_run_45 : decode cX9_run 45 = .ok (.istore_n 3, 1) := by decide +kernel
theorem dX9_run_46 : decode cX9_run 46 = .ok (.aload_n 0, 1) := by decide +kernel
theorem dX9_run_47 : decode cX9_run 47 = .ok (.aload_n 0, 1) := by decide +kernel
theorem dX9_run_48 : decode cX9_run 48 = .ok (.invokevirtual 57, 3) := by decide +kernel
theorem dX9_run_51 : decode cX9_run 51 = .ok (.iload_n 3, 1) := by decide +kernel
theorem dX9_run_52 : decode cX9_run 52 = .ok (.invokevirtual 60, 3) := by decide +kernel
theorem dX9_run_55 : decode cX9_run 55 = .ok (.istore 4, 2) := by decide +kernel
theorem dX9_run_57 : decode cX9_run 57 = .ok (.iload 4, 2) := by decide +kernel
theorem dX9_run_59 : decode cX9_run 59 = .ok (.bipush 25, 2) := by decide +kernel
theorem dX9_run_61 : decode cX9_run 61 = .ok (.if_icmp .ne 13, 3) := by decide +kernel
theorem dX9_run_64 : decode cX9_run 64 = .ok (.aload_n 0, 1) := by decide +kernel
theorem dX9_run_65 : decode cX9_run 65 = .ok (.aload_n 0, 1) := by decide +kernel
theorem dX9_run_66 : decode cX9_run 66 = .ok (.invokevirtual 64, 3) := by decide +kernel
theorem dX9_run_69 : decode cX9_run 69 = .ok (.invokevirtual 67, 3) := by decide +kernel
theorem dX9_run_72 : decode cX9_run 72 = .ok (.iconst (-1), 1) := by decide +kernel
theorem dX9_run_73 : decode cX9_run 73 = .ok (.ireturn, 1) := by decide +kernel
theorem dX9_run_74 : decode cX9_run 74 = .ok (.iload 4, 2) := by decide +kernel
theorem dX9_run_76 : decode cX9_run 76 = .ok (.iconst (-1), 1) := by decide +kernel
theorem dX9_run_77 : decode cX9_run 77 = .ok (.if_icmp .ne 5, 3) := by decide +kernel
theorem dX9_run_80 : decode cX9_run 80 = .ok (.iload_n 1, 1) := by decide +kernel
theorem dX9_run_81 : decode cX9_run 81 = .ok (.ireturn, 1) := by decide +kernel
theorem dX9_run_82 : decode cX9_run 82 = .ok (.iload_n 2, 1) := by decide +kernel
theorem dX9_run_83 : decode cX9_run 83 = .ok (.sipush 300, 3) := by decide +kernel
theorem dX9_run_86 : decode cX9_run 86 = .ok (.if_icmp .ge 35, 3) := by decide +kernel
theorem dX9_run_89 : decode cX9_run 89 = .ok (.iload 4, 2) := by decide +kernel
theorem dX9_run_91 : decode cX9_run 91 = .ok (.bipush 24, 2) := by decide +kernel
theorem dX9_run_93 : decode cX9_run 93 = .ok (.if_icmp .ne 28, 3) := by decide +kernel
theorem dX9_run_96 : decode cX9_run 96 = .ok (.aload_n 0, 1) := by decide +kernel
theorem dX9_run_97 : decode cX9_run 97 = .ok (.aload_n 0, 1) := by decide +kernel
theorem dX9_run_98 : decode cX9_run 98 = .ok (.getfield 18, 3) := by decide +kernel
theorem dX9_run_101 : decode cX9_run 101 = .ok (.aload_n 0, 1) := by decide +kernel
theorem dX9_run_102 : decode cX9_run 102 = .ok (.invokevirtual 57, 3) := by decide +kernel
theorem dX9_run_105 : decode cX9_run 105 = .ok (.iload_n 3, 1) := by decide +kernel
theorem dX9_run_106 : decode cX9_run 106 = .ok (.invokevirtual 71, 3) := by decide +kernel
theorem dX9_run_109 : decode cX9_run 109 = .ok (.iload_n 3, 1) := by decide +kernel
theorem dX9_run_110 : decode cX9_run 110 = .ok (.iconst 1, 1) := by decide +kernel
theorem dX9_run_111 : decode cX9_run 111 = .ok (.iadd, 1) := by decide +kernel
theorem dX9_run_112 : decode cX9_run 112 = .ok (.invokevirtual 49, 3) := by decide +kernel
theorem dX9_run_115 : decode cX9_run 115 = .ok (.iinc 1 1, 3) := by decide +kernel
theorem dX9_run_118 : decode cX9_run 118 = .ok (.goto 16, 3) := by decide +kernel
theorem dX9_run_121 : decode cX9_run 121 = .ok (.iload_n 2, 1) := by decide +kernel
theorem dX9_run_122 : decode cX9_run 122 = .ok (.sipush 300, 3) := by decide +kernel
theorem dX9_run_125 : decode cX9_run 125 = .ok (.if_icmp .ge 9, 3) := by decide +kernel
theorem dX9_run_128 : decode cX9_run 128 = .ok (.aload_n 0, 1) := by decide +kernel
theorem dX9_run_129 : decode cX9_run 129 = .ok (.iload 4, 2) := by decide +kernel
theorem dX9_run_131 : decode cX9_run 131 = .ok (.invokevirtual 74, 3) := by decide +kernel
theorem dX9_run_134 : decode cX9_run 134 = .ok (.iinc 2 1, 3) := by decide +kernel
theorem dX9_run_137 : decode cX9_run 137 = .ok (.goto (-107), 3) := by decide +kernel
theorem dX9_run_140 : decode cX9_run 140 = .ok (.bipush (-3), 2) := by decide +kernel
theorem dX9_run_142 : decode cX9_run 142 = .ok (.ireturn, 1) := by decide +kernel
theorem dX9_cellsInConflict_0 : decode cX9_cellsInConflict 0 = .ok (.aload_n 0, 1) := by decide +kernel
theorem dX9_cellsInConflict_1 : decode cX9_cellsInConflict 1 = .ok (.getfield 18, 3) := by decide +kernel
theorem dX9_cellsInConflict_4 : decode cX9_cellsInConflict 4 = .ok (.invokevirtual 35, 3) := by decide +kernel
theorem dX9_cellsInConflict_7 : decode cX9_cellsInConflict 7 = .ok (.bipush (-2), 2) := by decide +kernel
theorem dX9_cellsInConflict_9 : decode cX9_cellsInConflict 9 = .ok (.if_icmp .ne 6, 3) := by decide +kernel
theorem dX9_cellsInConflict_12 : decode cX9_cellsInConflict 12 = .ok (.bipush (-2), 2) := by decide +kernel
theorem dX9_cellsInConflict_14 : decode cX9_cellsInConflict 14 = .ok (.ireturn, 1) := by decide +kernel
theorem dX9_cellsInConflict_15 : decode cX9_cellsInConflict 15 = .ok (.iconst 0, 1) := by decide +kernel
theorem dX9_cellsInConflict_16 : decode cX9_cellsInConflict 16 = .ok (.istore_n 2, 1) := by decide +kernel
theorem dX9_cellsInConflict_17 : decode cX9_cellsInConflict 17 = .ok (.iconst 0, 1) := by decide +kernel
theorem dX9_cellsInConflict_18 : decode cX9_cellsInConflict 18 = .ok (.istore_n 3, 1) := by decide +kernel
theorem dX9_cellsInConflict_19 : decode cX9_cellsInConflict 19 = .ok (.iload_n 3, 1) := by decide +kernel
theorem dX9_cellsInConflict_20 : decode cX9_cellsInConflict 20 = .ok (.aload_n 0, 1) := by decide +kernel
theorem dX9_cellsInConflict_21 : decode cX9_cellsInConflict 21 = .ok (.getfield 18, 3) := by decide +kernel
theorem dX9_cellsInConflict_24 : decode cX9_cellsInConflict 24 = .ok (.invokevirtual 35, 3) := by decide +kernel
theorem dX9_cellsInConflict_27 : decode cX9_cellsInConflict 27 = .ok (.if_icmp .ge 55, 3) := by decide +kernel
theorem dX9_cellsInConflict_30 : decode cX9_cellsInConflict 30 = .ok (.iconst 0, 1) := by decide +kernel
theorem dX9_cellsInConflict_31 : decode cX9_cellsInConflict 31 = .ok (.istore 4, 2) := by decide +kernel
theorem dX9_cellsInConflict_33 : decode cX9_cellsInConflict 33 = .ok (.iload 4, 2) := by decide +kernel
theorem dX9_cellsInConflict_35 : decode cX9_cellsInConflict 35 = .ok (.bipush 9, 2) := by decide +kernel
theorem dX9_cellsInConflict_37 : decode cX9_cellsInConflict 37 = .ok (.if_icmp .ge 39, 3) := by decide +kernel
theorem dX9_cellsInConflict_40 : decode cX9_cellsInConflict 40 = .ok (.aload_n 0, 1) := by decide +kernel
theorem dX9_cellsInConflict_41 : decode cX9_cellsInConflict 41 = .ok (.iload_n 3, 1) := by decide +kernel
theorem dX9_cellsInConflict_42 : decode cX9_cellsInConflict 42 = .ok (.iload 4, 2) := by decide +kernel
theorem dX9_cellsInConflict_44 : decode cX9_cellsInConflict 44 = .ok (.invokevirtual 77, 3) := by decide +kernel
theorem dX9_cellsInConflict_47 : decode cX9_cellsInConflict 47 = .ok (.aload_n 0, 1) := by decide +kernel
theorem dX9_cellsInConflict_48 : decode cX9_cellsInConflict 48 = .ok (.invokevirtual 80, 3) := by decide +kernel
theorem dX9_cellsInConflict_51 : decode cX9_cellsInConflict 51 = .ok (.ifCond .eq 19, 3) := by decide +kernel
theorem dX9_cellsInConflict_54 : decode cX9_cellsInConflict 54 = .ok (.iload_n 1, 1) := by decide +kernel
theorem dX9_cellsInConflict_55 : decode cX9_cellsInConflict 55 = .ok (.ifCond .eq 12, 3) := by decide +kernel
theorem dX9_cellsInConflict_58 : decode cX9_cellsInConflict 58 = .ok (.aload_n 0, 1) := by decide +kernel
theorem dX9_cellsInConflict_59 : decode cX9_cellsInConflict 59 = .ok (.iload 4, 2) := by decide +kernel
theorem dX9_cellsInConflict_61 : decode cX9_cellsInConflict 61 = .ok (.invokevirtual 84, 3) := by decide +kernel
theorem dX9_cellsInConflict_64 : decode cX9_cellsInConflict 64 = .ok (.ifCond .eq 6, 3) := by decide +kernel
theorem dX9_cellsInConflict_67 : decode cX9_cellsInConflict 67 = .ok (.iinc 2 1, 3) := by decide +kernel
theorem dX9_cellsInConflict_70 : decode cX9_cellsInConflict 70 = .ok (.iinc 4 1, 3) := by decide +kernel
theorem dX9_cellsInConflict_73 : decode cX9_cellsInConflict 73 = .ok (.goto (-40), 3) := by decide +kernel
theorem dX9_cellsInConflict_76 : decode cX9_cellsInConflict 76 = .ok (.iinc 3 1, 3) := by decide +kernel
theorem dX9_cellsInConflict_79 : decode cX9_cellsInConflict 79 = .ok (.goto (-60), 3) := by decide +kernel
theorem dX9_cellsInConflict_82 : decode cX9_cellsInConflict 82 = .ok (.iload_n 2, 1) := by decide +kernel
theorem dX9_cellsInConflict_83 : decode cX9_cellsInConflict 83 = .ok (.ireturn, 1) := by decide +kernel
theorem dX9_readCell_0 : decode cX9_readCell 0 = .ok (.aload_n 0, 1) := by decide +kernel
theorem dX9_readCell_1 : decode cX9_readCell 1 = .ok (.getfield 18, 3) := by decide +kernel
