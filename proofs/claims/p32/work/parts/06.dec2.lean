theorem dX9_readCell_4 : decode cX9_readCell 4 = .ok (.invokevirtual 88, 3) := by decide +kernel
theorem dX9_readCell_7 : decode cX9_readCell 7 = .ok (.invokevirtual 92, 3) := by decide +kernel
theorem dX9_readCell_10 : decode cX9_readCell 10 = .ok (.astore_n 3, 1) := by decide +kernel
theorem dX9_readCell_11 : decode cX9_readCell 11 = .ok (.aload_n 0, 1) := by decide +kernel
theorem dX9_readCell_12 : decode cX9_readCell 12 = .ok (.iload_n 2, 1) := by decide +kernel
theorem dX9_readCell_13 : decode cX9_readCell 13 = .ok (.invokestatic 98, 3) := by decide +kernel
theorem dX9_readCell_16 : decode cX9_readCell 16 = .ok (.ifCond .eq 20, 3) := by decide +kernel
theorem dX9_readCell_19 : decode cX9_readCell 19 = .ok (.aload_n 0, 1) := by decide +kernel
theorem dX9_readCell_20 : decode cX9_readCell 20 = .ok (.getfield 18, 3) := by decide +kernel
theorem dX9_readCell_23 : decode cX9_readCell 23 = .ok (.iload_n 1, 1) := by decide +kernel
theorem dX9_readCell_24 : decode cX9_readCell 24 = .ok (.iload_n 2, 1) := by decide +kernel
theorem dX9_readCell_25 : decode cX9_readCell 25 = .ok (.invokevirtual 71, 3) := by decide +kernel
theorem dX9_readCell_28 : decode cX9_readCell 28 = .ok (.iconst (-1), 1) := by decide +kernel
theorem dX9_readCell_29 : decode cX9_readCell 29 = .ok (.if_icmp .eq 7, 3) := by decide +kernel
theorem dX9_readCell_32 : decode cX9_readCell 32 = .ok (.iconst 1, 1) := by decide +kernel
theorem dX9_readCell_33 : decode cX9_readCell 33 = .ok (.goto 4, 3) := by decide +kernel
theorem dX9_readCell_36 : decode cX9_readCell 36 = .ok (.iconst 0, 1) := by decide +kernel
theorem dX9_readCell_37 : decode cX9_readCell 37 = .ok (.putfield 101, 3) := by decide +kernel
theorem dX9_readCell_40 : decode cX9_readCell 40 = .ok (.aload_n 0, 1) := by decide +kernel
theorem dX9_readCell_41 : decode cX9_readCell 41 = .ok (.aload_n 0, 1) := by decide +kernel
theorem dX9_readCell_42 : decode cX9_readCell 42 = .ok (.getfield 18, 3) := by decide +kernel
theorem dX9_readCell_45 : decode cX9_readCell 45 = .ok (.iload_n 1, 1) := by decide +kernel
theorem dX9_readCell_46 : decode cX9_readCell 46 = .ok (.sipush 145, 3) := by decide +kernel
theorem dX9_readCell_49 : decode cX9_readCell 49 = .ok (.invokevirtual 104, 3) := by decide +kernel
theorem dX9_readCell_52 : decode cX9_readCell 52 = .ok (.sipush 511, 3) := by decide +kernel
theorem dX9_readCell_55 : decode cX9_readCell 55 = .ok (.iand, 1) := by decide +kernel
theorem dX9_readCell_56 : decode cX9_readCell 56 = .ok (.iload_n 2, 1) := by decide +kernel
theorem dX9_readCell_57 : decode cX9_readCell 57 = .ok (.invokestatic 107, 3) := by decide +kernel
theorem dX9_readCell_60 : decode cX9_readCell 60 = .ok (.putfield 111, 3) := by decide +kernel
theorem dX9_readCell_63 : decode cX9_readCell 63 = .ok (.aload_n 0, 1) := by decide +kernel
theorem dX9_readCell_64 : decode cX9_readCell 64 = .ok (.iconst 0, 1) := by decide +kernel
theorem dX9_readCell_65 : decode cX9_readCell 65 = .ok (.putfield 114, 3) := by decide +kernel
theorem dX9_readCell_68 : decode cX9_readCell 68 = .ok (.aload_n 0, 1) := by decide +kernel
theorem dX9_readCell_69 : decode cX9_readCell 69 = .ok (.iconst (-1), 1) := by decide +kernel
theorem dX9_readCell_70 : decode cX9_readCell 70 = .ok (.putfield 117, 3) := by decide +kernel
theorem dX9_readCell_73 : decode cX9_readCell 73 = .ok (.aload_n 3, 1) := by decide +kernel
theorem dX9_readCell_74 : decode cX9_readCell 74 = .ok (.invokevirtual 120, 3) := by decide +kernel
theorem dX9_readCell_77 : decode cX9_readCell 77 = .ok (.iconst 1, 1) := by decide +kernel
theorem dX9_readCell_78 : decode cX9_readCell 78 = .ok (.isub, 1) := by decide +kernel
theorem dX9_readCell_79 : decode cX9_readCell 79 = .ok (.istore 4, 2) := by decide +kernel
theorem dX9_readCell_81 : decode cX9_readCell 81 = .ok (.iload 4, 2) := by decide +kernel
theorem dX9_readCell_83 : decode cX9_readCell 83 = .ok (.ifCond .lt 39, 3) := by decide +kernel
theorem dX9_readCell_86 : decode cX9_readCell 86 = .ok (.aload_n 0, 1) := by decide +kernel
theorem dX9_readCell_87 : decode cX9_readCell 87 = .ok (.iload_n 1, 1) := by decide +kernel
theorem dX9_readCell_88 : decode cX9_readCell 88 = .ok (.iload 4, 2) := by decide +kernel
theorem dX9_readCell_90 : decode cX9_readCell 90 = .ok (.invokevirtual 125, 3) := by decide +kernel
theorem dX9_readCell_93 : decode cX9_readCell 93 = .ok (.iload_n 2, 1) := by decide +kernel
theorem dX9_readCell_94 : decode cX9_readCell 94 = .ok (.invokestatic 107, 3) := by decide +kernel
theorem dX9_readCell_97 : decode cX9_readCell 97 = .ok (.ifCond .eq 19, 3) := by decide +kernel
theorem dX9_readCell_100 : decode cX9_readCell 100 = .ok (.aload_n 0, 1) := by decide +kernel
theorem dX9_readCell_101 : decode cX9_readCell 101 = .ok (.dup, 1) := by decide +kernel
theorem dX9_readCell_102 : decode cX9_readCell 102 = .ok (.getfield 114, 3) := by decide +kernel
theorem dX9_readCell_105 : decode cX9_readCell 105 = .ok (.iconst 1, 1) := by decide +kernel
theorem dX9_readCell_106 : decode cX9_readCell 106 = .ok (.iadd, 1) := by decide +kernel
theorem dX9_readCell_107 : decode cX9_readCell 107 = .ok (.putfield 114, 3) := by decide +kernel
theorem dX9_readCell_110 : decode cX9_readCell 110 = .ok (.aload_n 0, 1) := by decide +kernel
theorem dX9_readCell_111 : decode cX9_readCell 111 = .ok (.iload 4, 2) := by decide +kernel
theorem dX9_readCell_113 : decode cX9_readCell 113 = .ok (.putfield 117, 3) := by decide +kernel
theorem dX9_readCell_116 : decode cX9_readCell 116 = .ok (.iinc 4 (-1), 3) := by decide +kernel
theorem dX9_readCell_119 : decode cX9_readCell 119 = .ok (.goto (-38), 3) := by decide +kernel
theorem dX9_readCell_122 : decode cX9_readCell 122 = .ok (.return_, 1) := by decide +kernel
theorem dX9_reducedBy_0 : decode cX9_reducedBy 0 = .ok (.aload_n 0, 1) := by decide +kernel
theorem dX9_reducedBy_1 : decode cX9_reducedBy 1 = .ok (.getfield 18, 3) := by decide +kernel
theorem dX9_reducedBy_4 : decode cX9_reducedBy 4 = .ok (.invokevirtual 88, 3) := by decide +kernel
theorem dX9_reducedBy_7 : decode cX9_reducedBy 7 = .ok (.invokevirtual 92, 3) := by decide +kernel
theorem dX9_reducedBy_10 : decode cX9_reducedBy 10 = .ok (.astore_n 3, 1) := by decide +kernel
theorem dX9_reducedBy_11 : decode cX9_reducedBy 11 = .ok (.aload_n 0, 1) := by decide +kernel
theorem dX9_reducedBy_12 : decode cX9_reducedBy 12 = .ok (.getfield 18, 3) := by decide +kernel
theorem dX9_reducedBy_15 : decode cX9_reducedBy 15 = .ok (.iload_n 1, 1) := by decide +kernel
theorem dX9_reducedBy_16 : decode cX9_reducedBy 16 = .ok (.iload_n 2, 1) := by decide +kernel
theorem dX9_reducedBy_17 : decode cX9_reducedBy 17 = .ok (.bipush 6, 2) := by decide +kernel
theorem dX9_reducedBy_19 : decode cX9_reducedBy 19 = .ok (.imul, 1) := by decide +kernel
theorem dX9_reducedBy_20 : decode cX9_reducedBy 20 = .ok (.aload_n 3, 1) := by decide +kernel
theorem dX9_reducedBy_21 : decode cX9_reducedBy 21 = .ok (.iload_n 2, 1) := by decide +kernel
theorem dX9_reducedBy_22 : decode cX9_reducedBy 22 = .ok (.invokevirtual 128, 3) := by decide +kernel
theorem dX9_reducedBy_25 : decode cX9_reducedBy 25 = .ok (.iadd, 1) := by decide +kernel
theorem dX9_reducedBy_26 : decode cX9_reducedBy 26 = .ok (.invokevirtual 104, 3) := by decide +kernel
theorem dX9_reducedBy_29 : decode cX9_reducedBy 29 = .ok (.istore 4, 2) := by decide +kernel
theorem dX9_reducedBy_31 : decode cX9_reducedBy 31 = .ok (.iload 4, 2) := by decide +kernel
theorem dX9_reducedBy_33 : decode cX9_reducedBy 33 = .ok (.ifCond .ne 5, 3) := by decide +kernel
theorem dX9_reducedBy_36 : decode cX9_reducedBy 36 = .ok (.iconst 0, 1) := by decide +kernel
theorem dX9_reducedBy_37 : decode cX9_reducedBy 37 = .ok (.ireturn, 1) := by decide +kernel
theorem dX9_reducedBy_38 : decode cX9_reducedBy 38 = .ok (.aload_n 0, 1) := by decide +kernel
theorem dX9_reducedBy_39 : decode cX9_reducedBy 39 = .ok (.getfield 22, 3) := by decide +kernel
theorem dX9_reducedBy_42 : decode cX9_reducedBy 42 = .ok (.ifCond .eq 21, 3) := by decide +kernel
theorem dX9_reducedBy_45 : decode cX9_reducedBy 45 = .ok (.aload_n 0, 1) := by decide +kernel
theorem dX9_reducedBy_46 : decode cX9_reducedBy 46 = .ok (.getfield 18, 3) := by decide +kernel
theorem dX9_reducedBy_49 : decode cX9_reducedBy 49 = .ok (.invokevirtual 88, 3) := by decide +kernel
theorem dX9_reducedBy_52 : decode cX9_reducedBy 52 = .ok (.aload_n 3, 1) := by decide +kernel
theorem dX9_reducedBy_53 : decode cX9_reducedBy 53 = .ok (.iload_n 2, 1) := by decide +kernel
theorem dX9_reducedBy_54 : decode cX9_reducedBy 54 = .ok (.invokevirtual 132, 3) := by decide +kernel
theorem dX9_reducedBy_57 : decode cX9_reducedBy 57 = .ok (.invokevirtual 135, 3) := by decide +kernel
theorem dX9_reducedBy_60 : decode cX9_reducedBy 60 = .ok (.goto 9, 3) := by decide +kernel
theorem dX9_reducedBy_63 : decode cX9_reducedBy 63 = .ok (.iload 4, 2) := by decide +kernel
theorem dX9_reducedBy_65 : decode cX9_reducedBy 65 = .ok (.sipush 511, 3) := by decide +kernel
theorem dX9_reducedBy_68 : decode cX9_reducedBy 68 = .ok (.iand, 1) := by decide +kernel
theorem dX9_reducedBy_69 : decode cX9_reducedBy 69 = .ok (.ireturn, 1) := by decide +kernel
theorem dX9_isConflict_0 : decode cX9_isConflict 0 = .ok (.aload_n 0, 1) := by decide +kernel
theorem dX9_isConflict_1 : decode cX9_isConflict 1 = .ok (.getfield 101, 3) := by decide +kernel
theorem dX9_isConflict_4 : decode cX9_isConflict 4 = .ok (.ifCond .eq 7, 3) := by decide +kernel
theorem dX9_isConflict_7 : decode cX9_isConflict 7 = .ok (.iconst 1, 1) := by decide +kernel
theorem dX9_isConflict_8 : decode cX9_isConflict 8 = .ok (.goto 4, 3) := by decide +kernel
theorem dX9_isConflict_11 : decode cX9_isConflict 11 = .ok (.iconst 0, 1) := by decide +kernel
theorem dX9_isConflict_12 : decode cX9_isConflict 12 = .ok (.aload_n 0, 1) := by decide +kernel
theorem dX9_isConflict_13 : decode cX9_isConflict 13 = .ok (.getfield 111, 3) := by decide +kernel
theorem dX9_isConflict_16 : decode cX9_isConflict 16 = .ok (.ifCond .eq 7, 3) := by decide +kernel
theorem dX9_isConflict_19 : decode cX9_isConflict 19 = .ok (.iconst 1, 1) := by decide +kernel
theorem dX9_isConflict_20 : decode cX9_isConflict 20 = .ok (.goto 4, 3) := by decide +kernel
theorem dX9_isConflict_23 : decode cX9_isConflict 23 = .ok (.iconst 0, 1) := by decide +kernel
theorem dX9_isConflict_24 : decode cX9_isConflict 24 = .ok (.iadd, 1) := by decide +kernel
theorem dX9_isConflict_25 : decode cX9_isConflict 25 = .ok (.aload_n 0, 1) := by decide +kernel
theorem dX9_isConflict_26 : decode cX9_isConflict 26 = .ok (.getfield 114, 3) := by decide +kernel
theorem dX9_isConflict_29 : decode cX9_isConflict 29 = .ok (.iadd, 1) := by decide +kernel
theorem dX9_isConflict_30 : decode cX9_isConflict 30 = .ok (.iconst 1, 1) := by decide +kernel
theorem dX9_isConflict_31 : decode cX9_isConflict 31 = .ok (.if_icmp .le 7, 3) := by decide +kernel
theorem dX9_isConflict_34 : decode cX9_isConflict 34 = .ok (.iconst 1, 1) := by decide +kernel
theorem dX9_isConflict_35 : decode cX9_isConflict 35 = .ok (.goto 4, 3) := by decide +kernel
theorem dX9_isConflict_38 : decode cX9_isConflict 38 = .ok (.iconst 0, 1) := by decide +kernel
theorem dX9_isConflict_39 : decode cX9_isConflict 39 = .ok (.ireturn, 1) := by decide +kernel
theorem dX9_isSettled_0 : decode cX9_isSettled 0 = .ok (.aload_n 0, 1) := by decide +kernel
theorem dX9_isSettled_1 : decode cX9_isSettled 1 = .ok (.getfield 101, 3) := by decide +kernel
theorem dX9_isSettled_4 : decode cX9_isSettled 4 = .ok (.ifCond .eq 37, 3) := by decide +kernel
theorem dX9_isSettled_7 : decode cX9_isSettled 7 = .ok (.aload_n 0, 1) := by decide +kernel
theorem dX9_isSettled_8 : decode cX9_isSettled 8 = .ok (.getfield 111, 3) := by decide +kernel
theorem dX9_isSettled_11 : decode cX9_isSettled 11 = .ok (.ifCond .ne 30, 3) := by decide +kernel
theorem dX9_isSettled_14 : decode cX9_isSettled 14 = .ok (.aload_n 0, 1) := by decide +kernel
theorem dX9_isSettled_15 : decode cX9_isSettled 15 = .ok (.getfield 114, 3) := by decide +kernel
theorem dX9_isSettled_18 : decode cX9_isSettled 18 = .ok (.iconst 1, 1) := by decide +kernel
theorem dX9_isSettled_19 : decode cX9_isSettled 19 = .ok (.if_icmp .ne 22, 3) := by decide +kernel
theorem dX9_isSettled_22 : decode cX9_isSettled 22 = .ok (.aload_n 0, 1) := by decide +kernel
theorem dX9_isSettled_23 : decode cX9_isSettled 23 = .ok (.iload_n 1, 1) := by decide +kernel
theorem dX9_isSettled_24 : decode cX9_isSettled 24 = .ok (.invokevirtual 138, 3) := by decide +kernel
theorem dX9_isSettled_27 : decode cX9_isSettled 27 = .ok (.ifCond .le 14, 3) := by decide +kernel
theorem dX9_isSettled_30 : decode cX9_isSettled 30 = .ok (.aload_n 0, 1) := by decide +kernel
theorem dX9_isSettled_31 : decode cX9_isSettled 31 = .ok (.invokevirtual 141, 3) := by decide +kernel
theorem dX9_isSettled_34 : decode cX9_isSettled 34 = .ok (.ifCond .le 7, 3) := by decide +kernel
theorem dX9_isSettled_37 : decode cX9_isSettled 37 = .ok (.iconst 1, 1) := by decide +kernel
theorem dX9_isSettled_38 : decode cX9_isSettled 38 = .ok (.goto 4, 3) := by decide +kernel
theorem dX9_isSettled_41 : decode cX9_isSettled 41 = .ok (.iconst 0, 1) := by decide +kernel
theorem dX9_isSettled_42 : decode cX9_isSettled 42 = .ok (.ireturn, 1) := by decide +kernel
theorem dX9_levelOf_0 : decode cX9_levelOf 0 = .ok (.iload_n 1, 1) := by decide +kernel
theorem dX9_levelOf_1 : decode cX9_levelOf 1 = .ok (.ifCond .lt 21, 3) := by decide +kernel
theorem dX9_levelOf_4 : decode cX9_levelOf 4 = .ok (.iload_n 1, 1) := by decide +kernel
theorem dX9_levelOf_5 : decode cX9_levelOf 5 = .ok (.aload_n 0, 1) := by decide +kernel
theorem dX9_levelOf_6 : decode cX9_levelOf 6 = .ok (.getfield 26, 3) := by decide +kernel
theorem dX9_levelOf_9 : decode cX9_levelOf 9 = .ok (.arraylength, 1) := by decide +kernel
theorem dX9_levelOf_10 : decode cX9_levelOf 10 = .ok (.if_icmp .ge 12, 3) := by decide +kernel
theorem dX9_levelOf_13 : decode cX9_levelOf 13 = .ok (.aload_n 0, 1) := by decide +kernel
theorem dX9_levelOf_14 : decode cX9_levelOf 14 = .ok (.getfield 26, 3) := by decide +kernel
theorem dX9_levelOf_17 : decode cX9_levelOf 17 = .ok (.iload_n 1, 1) := by decide +kernel
theorem dX9_levelOf_18 : decode cX9_levelOf 18 = .ok (.iaload, 1) := by decide +kernel
theorem dX9_levelOf_19 : decode cX9_levelOf 19 = .ok (.goto 4, 3) := by decide +kernel
theorem dX9_levelOf_22 : decode cX9_levelOf 22 = .ok (.iconst 0, 1) := by decide +kernel
theorem dX9_levelOf_23 : decode cX9_levelOf 23 = .ok (.ireturn, 1) := by decide +kernel
theorem dX9_levelOfLowest_0 : decode cX9_levelOfLowest 0 = .ok (.aload_n 0, 1) := by decide +kernel
theorem dX9_levelOfLowest_1 : decode cX9_levelOfLowest 1 = .ok (.aload_n 0, 1) := by decide +kernel
theorem dX9_levelOfLowest_2 : decode cX9_levelOfLowest 2 = .ok (.getfield 18, 3) := by decide +kernel
theorem dX9_levelOfLowest_5 : decode cX9_levelOfLowest 5 = .ok (.invokevirtual 88, 3) := by decide +kernel
theorem dX9_levelOfLowest_8 : decode cX9_levelOfLowest 8 = .ok (.invokevirtual 92, 3) := by decide +kernel
theorem dX9_levelOfLowest_11 : decode cX9_levelOfLowest 11 = .ok (.aload_n 0, 1) := by decide +kernel
theorem dX9_levelOfLowest_12 : decode cX9_levelOfLowest 12 = .ok (.getfield 117, 3) := by decide +kernel
theorem dX9_levelOfLowest_15 : decode cX9_levelOfLowest 15 = .ok (.invokevirtual 144, 3) := by decide +kernel
theorem dX9_levelOfLowest_18 : decode cX9_levelOfLowest 18 = .ok (.invokevirtual 138, 3) := by decide +kernel
theorem dX9_levelOfLowest_21 : decode cX9_levelOfLowest 21 = .ok (.ireturn, 1) := by decide +kernel
theorem dX9_action_0 : decode cX9_action 0 = .ok (.aload_n 0, 1) := by decide +kernel
theorem dX9_action_1 : decode cX9_action 1 = .ok (.iload_n 1, 1) := by decide +kernel
theorem dX9_action_2 : decode cX9_action 2 = .ok (.iload_n 2, 1) := by decide +kernel
theorem dX9_action_3 : decode cX9_action 3 = .ok (.invokevirtual 77, 3) := by decide +kernel
theorem dX9_action_6 : decode cX9_action 6 = .ok (.aload_n 0, 1) := by decide +kernel
theorem dX9_action_7 : decode cX9_action 7 = .ok (.iload_n 2, 1) := by decide +kernel
theorem dX9_action_8 : decode cX9_action 8 = .ok (.invokevirtual 84, 3) := by decide +kernel
theorem dX9_action_11 : decode cX9_action 11 = .ok (.ifCond .eq 9, 3) := by decide +kernel
theorem dX9_action_14 : decode cX9_action 14 = .ok (.aload_n 0, 1) := by decide +kernel
theorem dX9_action_15 : decode cX9_action 15 = .ok (.iload_n 2, 1) := by decide +kernel
theorem dX9_action_16 : decode cX9_action 16 = .ok (.invokevirtual 147, 3) := by decide +kernel
theorem dX9_action_19 : decode cX9_action 19 = .ok (.ireturn, 1) := by decide +kernel
theorem dX9_action_20 : decode cX9_action 20 = .ok (.aload_n 0, 1) := by decide +kernel
theorem dX9_action_21 : decode cX9_action 21 = .ok (.getfield 111, 3) := by decide +kernel
theorem dX9_action_24 : decode cX9_action 24 = .ok (.ifCond .eq 6, 3) := by decide +kernel
theorem dX9_action_27 : decode cX9_action 27 = .ok (.bipush 25, 2) := by decide +kernel
theorem dX9_action_29 : decode cX9_action 29 = .ok (.ireturn, 1) := by decide +kernel
theorem dX9_action_30 : decode cX9_action 30 = .ok (.aload_n 0, 1) := by decide +kernel
theorem dX9_action_31 : decode cX9_action 31 = .ok (.getfield 101, 3) := by decide +kernel
theorem dX9_action_34 : decode cX9_action 34 = .ok (.ifCond .eq 8, 3) := by decide +kernel
theorem dX9_action_37 : decode cX9_action 37 = .ok (.bipush 24, 2) := by decide +kernel
theorem dX9_action_39 : decode cX9_action 39 = .ok (.goto 7, 3) := by decide +kernel
theorem dX9_action_42 : decode cX9_action 42 = .ok (.aload_n 0, 1) := by decide +kernel
theorem dX9_action_43 : decode cX9_action 43 = .ok (.getfield 117, 3) := by decide +kernel
theorem dX9_action_46 : decode cX9_action 46 = .ok (.ireturn, 1) := by decide +kernel
theorem dX9_settledAction_0 : decode cX9_settledAction 0 = .ok (.aload_n 0, 1) := by decide +kernel
theorem dX9_settledAction_1 : decode cX9_settledAction 1 = .ok (.invokevirtual 141, 3) := by decide +kernel
theorem dX9_settledAction_4 : decode cX9_settledAction 4 = .ok (.aload_n 0, 1) := by decide +kernel
theorem dX9_settledAction_5 : decode cX9_settledAction 5 = .ok (.iload_n 1, 1) := by decide +kernel
theorem dX9_settledAction_6 : decode cX9_settledAction 6 = .ok (.invokevirtual 138, 3) := by decide +kernel
theorem dX9_settledAction_9 : decode cX9_settledAction 9 = .ok (.isub, 1) := by decide +kernel
theorem dX9_settledAction_10 : decode cX9_settledAction 10 = .ok (.istore_n 2, 1) := by decide +kernel
theorem dX9_settledAction_11 : decode cX9_settledAction 11 = .ok (.iload_n 2, 1) := by decide +kernel
theorem dX9_settledAction_12 : decode cX9_settledAction 12 = .ok (.ifCond .eq 17, 3) := by decide +kernel
theorem dX9_settledAction_15 : decode cX9_settledAction 15 = .ok (.iload_n 2, 1) := by decide +kernel
theorem dX9_settledAction_16 : decode cX9_settledAction 16 = .ok (.ifCond .le 10, 3) := by decide +kernel
theorem dX9_settledAction_19 : decode cX9_settledAction 19 = .ok (.aload_n 0, 1) := by decide +kernel
theorem dX9_settledAction_20 : decode cX9_settledAction 20 = .ok (.getfield 117, 3) := by decide +kernel
theorem dX9_settledAction_23 : decode cX9_settledAction 23 = .ok (.goto 5, 3) := by decide +kernel
theorem dX9_settledAction_26 : decode cX9_settledAction 26 = .ok (.bipush 24, 2) := by decide +kernel
theorem dX9_settledAction_28 : decode cX9_settledAction 28 = .ok (.ireturn, 1) := by decide +kernel
theorem dX9_settledAction_29 : decode cX9_settledAction 29 = .ok (.iload_n 1, 1) := by decide +kernel
theorem dX9_settledAction_30 : decode cX9_settledAction 30 = .ok (.ifCond .lt 21, 3) := by decide +kernel
theorem dX9_settledAction_33 : decode cX9_settledAction 33 = .ok (.iload_n 1, 1) := by decide +kernel
theorem dX9_settledAction_34 : decode cX9_settledAction 34 = .ok (.aload_n 0, 1) := by decide +kernel
theorem dX9_settledAction_35 : decode cX9_settledAction 35 = .ok (.getfield 29, 3) := by decide +kernel
theorem dX9_settledAction_38 : decode cX9_settledAction 38 = .ok (.arraylength, 1) := by decide +kernel
theorem dX9_settledAction_39 : decode cX9_settledAction 39 = .ok (.if_icmp .ge 12, 3) := by decide +kernel
theorem dX9_settledAction_42 : decode cX9_settledAction 42 = .ok (.aload_n 0, 1) := by decide +kernel
theorem dX9_settledAction_43 : decode cX9_settledAction 43 = .ok (.getfield 29, 3) := by decide +kernel
theorem dX9_settledAction_46 : decode cX9_settledAction 46 = .ok (.iload_n 1, 1) := by decide +kernel
theorem dX9_settledAction_47 : decode cX9_settledAction 47 = .ok (.iaload, 1) := by decide +kernel
theorem dX9_settledAction_48 : decode cX9_settledAction 48 = .ok (.goto 4, 3) := by decide +kernel
theorem dX9_settledAction_51 : decode cX9_settledAction 51 = .ok (.iconst 2, 1) := by decide +kernel
theorem dX9_settledAction_52 : decode cX9_settledAction 52 = .ok (.istore_n 3, 1) := by decide +kernel
theorem dX9_settledAction_53 : decode cX9_settledAction 53 = .ok (.iload_n 3, 1) := by decide +kernel
theorem dX9_settledAction_54 : decode cX9_settledAction 54 = .ok (.iconst 2, 1) := by decide +kernel
theorem dX9_settledAction_55 : decode cX9_settledAction 55 = .ok (.if_icmp .ne 5, 3) := by decide +kernel
theorem dX9_settledAction_58 : decode cX9_settledAction 58 = .ok (.iconst (-1), 1) := by decide +kernel
theorem dX9_settledAction_59 : decode cX9_settledAction 59 = .ok (.ireturn, 1) := by decide +kernel
theorem dX9_settledAction_60 : decode cX9_settledAction 60 = .ok (.iload_n 3, 1) := by decide +kernel
theorem dX9_settledAction_61 : decode cX9_settledAction 61 = .ok (.ifCond .ne 10, 3) := by decide +kernel
theorem dX9_settledAction_64 : decode cX9_settledAction 64 = .ok (.aload_n 0, 1) := by decide +kernel
theorem dX9_settledAction_65 : decode cX9_settledAction 65 = .ok (.getfield 117, 3) := by decide +kernel
theorem dX9_settledAction_68 : decode cX9_settledAction 68 = .ok (.goto 5, 3) := by decide +kernel
theorem dX9_settledAction_71 : decode cX9_settledAction 71 = .ok (.bipush 24, 2) := by decide +kernel
theorem dX9_settledAction_73 : decode cX9_settledAction 73 = .ok (.ireturn, 1) := by decide +kernel
theorem dX9_state_0 : decode cX9_state 0 = .ok (.aload_n 0, 1) := by decide +kernel
theorem dX9_state_1 : decode cX9_state 1 = .ok (.getfield 45, 3) := by decide +kernel
theorem dX9_state_4 : decode cX9_state 4 = .ok (.ifCond .le 29, 3) := by decide +kernel
theorem dX9_state_7 : decode cX9_state 7 = .ok (.aload_n 0, 1) := by decide +kernel
theorem dX9_state_8 : decode cX9_state 8 = .ok (.getfield 45, 3) := by decide +kernel
theorem dX9_state_11 : decode cX9_state 11 = .ok (.aload_n 0, 1) := by decide +kernel
theorem dX9_state_12 : decode cX9_state 12 = .ok (.getfield 9, 3) := by decide +kernel
theorem dX9_state_15 : decode cX9_state 15 = .ok (.arraylength, 1) := by decide +kernel
theorem dX9_state_16 : decode cX9_state 16 = .ok (.if_icmp .gt 17, 3) := by decide +kernel
theorem dX9_state_19 : decode cX9_state 19 = .ok (.aload_n 0, 1) := by decide +kernel
theorem dX9_state_20 : decode cX9_state 20 = .ok (.getfield 9, 3) := by decide +kernel
theorem dX9_state_23 : decode cX9_state 23 = .ok (.aload_n 0, 1) := by decide +kernel
theorem dX9_state_24 : decode cX9_state 24 = .ok (.getfield 45, 3) := by decide +kernel
theorem dX9_state_27 : decode cX9_state 27 = .ok (.iconst 1, 1) := by decide +kernel
theorem dX9_state_28 : decode cX9_state 28 = .ok (.isub, 1) := by decide +kernel
theorem dX9_state_29 : decode cX9_state 29 = .ok (.iaload, 1) := by decide +kernel
theorem dX9_state_30 : decode cX9_state 30 = .ok (.goto 4, 3) := by decide +kernel
theorem dX9_state_33 : decode cX9_state 33 = .ok (.iconst (-1), 1) := by decide +kernel
theorem dX9_state_34 : decode cX9_state 34 = .ok (.ireturn, 1) := by decide +kernel
theorem dX9_worthOfTop_0 : decode cX9_worthOfTop 0 = .ok (.aload_n 0, 1) := by decide +kernel
theorem dX9_worthOfTop_1 : decode cX9_worthOfTop 1 = .ok (.getfield 45, 3) := by decide +kernel
theorem dX9_worthOfTop_4 : decode cX9_worthOfTop 4 = .ok (.ifCond .le 29, 3) := by decide +kernel
theorem dX9_worthOfTop_7 : decode cX9_worthOfTop 7 = .ok (.aload_n 0, 1) := by decide +kernel
theorem dX9_worthOfTop_8 : decode cX9_worthOfTop 8 = .ok (.getfield 45, 3) := by decide +kernel
theorem dX9_worthOfTop_11 : decode cX9_worthOfTop 11 = .ok (.aload_n 0, 1) := by decide +kernel
theorem dX9_worthOfTop_12 : decode cX9_worthOfTop 12 = .ok (.getfield 15, 3) := by decide +kernel
theorem dX9_worthOfTop_15 : decode cX9_worthOfTop 15 = .ok (.arraylength, 1) := by decide +kernel
theorem dX9_worthOfTop_16 : decode cX9_worthOfTop 16 = .ok (.if_icmp .gt 17, 3) := by decide +kernel
theorem dX9_worthOfTop_19 : decode cX9_worthOfTop 19 = .ok (.aload_n 0, 1) := by decide +kernel
theorem dX9_worthOfTop_20 : decode cX9_worthOfTop 20 = .ok (.getfield 15, 3) := by decide +kernel
theorem dX9_worthOfTop_23 : decode cX9_worthOfTop 23 = .ok (.aload_n 0, 1) := by decide +kernel
theorem dX9_worthOfTop_24 : decode cX9_worthOfTop 24 = .ok (.getfield 45, 3) := by decide +kernel
theorem dX9_worthOfTop_27 : decode cX9_worthOfTop 27 = .ok (.iconst 1, 1) := by decide +kernel
theorem dX9_worthOfTop_28 : decode cX9_worthOfTop 28 = .ok (.isub, 1) := by decide +kernel
theorem dX9_worthOfTop_29 : decode cX9_worthOfTop 29 = .ok (.iaload, 1) := by decide +kernel
theorem dX9_worthOfTop_30 : decode cX9_worthOfTop 30 = .ok (.goto 4, 3) := by decide +kernel
theorem dX9_worthOfTop_33 : decode cX9_worthOfTop 33 = .ok (.iconst 0, 1) := by decide +kernel
theorem dX9_worthOfTop_34 : decode cX9_worthOfTop 34 = .ok (.ireturn, 1) := by decide +kernel
theorem dX9_push_0 : decode cX9_push 0 = .ok (.aload_n 0, 1) := by decide +kernel
theorem dX9_push_1 : decode cX9_push 1 = .ok (.getfield 45, 3) := by decide +kernel
theorem dX9_push_4 : decode cX9_push 4 = .ok (.ifCond .lt 57, 3) := by decide +kernel
theorem dX9_push_7 : decode cX9_push 7 = .ok (.aload_n 0, 1) := by decide +kernel
theorem dX9_push_8 : decode cX9_push 8 = .ok (.getfield 45, 3) := by decide +kernel
theorem dX9_push_11 : decode cX9_push 11 = .ok (.aload_n 0, 1) := by decide +kernel
theorem dX9_push_12 : decode cX9_push 12 = .ok (.getfield 9, 3) := by decide +kernel
theorem dX9_push_15 : decode cX9_push 15 = .ok (.arraylength, 1) := by decide +kernel
theorem dX9_push_16 : decode cX9_push 16 = .ok (.if_icmp .ge 45, 3) := by decide +kernel
theorem dX9_push_19 : decode cX9_push 19 = .ok (.aload_n 0, 1) := by decide +kernel
theorem dX9_push_20 : decode cX9_push 20 = .ok (.getfield 45, 3) := by decide +kernel
theorem dX9_push_23 : decode cX9_push 23 = .ok (.aload_n 0, 1) := by decide +kernel
theorem dX9_push_24 : decode cX9_push 24 = .ok (.getfield 15, 3) := by decide +kernel
theorem dX9_push_27 : decode cX9_push 27 = .ok (.arraylength, 1) := by decide +kernel
theorem dX9_push_28 : decode cX9_push 28 = .ok (.if_icmp .ge 33, 3) := by decide +kernel
theorem dX9_push_31 : decode cX9_push 31 = .ok (.aload_n 0, 1) := by decide +kernel
theorem dX9_push_32 : decode cX9_push 32 = .ok (.getfield 9, 3) := by decide +kernel
theorem dX9_push_35 : decode cX9_push 35 = .ok (.aload_n 0, 1) := by decide +kernel
theorem dX9_push_36 : decode cX9_push 36 = .ok (.getfield 45, 3) := by decide +kernel
theorem dX9_push_39 : decode cX9_push 39 = .ok (.iload_n 1, 1) := by decide +kernel
theorem dX9_push_40 : decode cX9_push 40 = .ok (.iastore, 1) := by decide +kernel
theorem dX9_push_41 : decode cX9_push 41 = .ok (.aload_n 0, 1) := by decide +kernel
theorem dX9_push_42 : decode cX9_push 42 = .ok (.getfield 15, 3) := by decide +kernel
theorem dX9_push_45 : decode cX9_push 45 = .ok (.aload_n 0, 1) := by decide +kernel
theorem dX9_push_46 : decode cX9_push 46 = .ok (.getfield 45, 3) := by decide +kernel
theorem dX9_push_49 : decode cX9_push 49 = .ok (.iload_n 2, 1) := by decide +kernel
theorem dX9_push_50 : decode cX9_push 50 = .ok (.iastore, 1) := by decide +kernel
theorem dX9_push_51 : decode cX9_push 51 = .ok (.aload_n 0, 1) := by decide +kernel
theorem dX9_push_52 : decode cX9_push 52 = .ok (.dup, 1) := by decide +kernel
theorem dX9_push_53 : decode cX9_push 53 = .ok (.getfield 45, 3) := by decide +kernel
theorem dX9_push_56 : decode cX9_push 56 = .ok (.iconst 1, 1) := by decide +kernel
theorem dX9_push_57 : decode cX9_push 57 = .ok (.iadd, 1) := by decide +kernel
theorem dX9_push_58 : decode cX9_push 58 = .ok (.putfield 45, 3) := by decide +kernel
theorem dX9_push_61 : decode cX9_push 61 = .ok (.return_, 1) := by decide +kernel
theorem dX9_reduce_0 : decode cX9_reduce 0 = .ok (.aload_n 0, 1) := by decide +kernel
theorem dX9_reduce_1 : decode cX9_reduce 1 = .ok (.getfield 18, 3) := by decide +kernel
theorem dX9_reduce_4 : decode cX9_reduce 4 = .ok (.invokevirtual 88, 3) := by decide +kernel
theorem dX9_reduce_7 : decode cX9_reduce 7 = .ok (.invokevirtual 92, 3) := by decide +kernel
theorem dX9_reduce_10 : decode cX9_reduce 10 = .ok (.astore_n 2, 1) := by decide +kernel
theorem dX9_reduce_11 : decode cX9_reduce 11 = .ok (.iload_n 1, 1) := by decide +kernel
theorem dX9_reduce_12 : decode cX9_reduce 12 = .ok (.iconst 1, 1) := by decide +kernel
theorem dX9_reduce_13 : decode cX9_reduce 13 = .ok (.iadd, 1) := by decide +kernel
theorem dX9_reduce_14 : decode cX9_reduce 14 = .ok (.istore_n 3, 1) := by decide +kernel
theorem dX9_reduce_15 : decode cX9_reduce 15 = .ok (.aload_n 2, 1) := by decide +kernel
theorem dX9_reduce_16 : decode cX9_reduce 16 = .ok (.iload_n 1, 1) := by decide +kernel
theorem dX9_reduce_17 : decode cX9_reduce 17 = .ok (.invokevirtual 128, 3) := by decide +kernel
theorem dX9_reduce_20 : decode cX9_reduce 20 = .ok (.iconst 1, 1) := by decide +kernel
theorem dX9_reduce_21 : decode cX9_reduce 21 = .ok (.isub, 1) := by decide +kernel
theorem dX9_reduce_22 : decode cX9_reduce 22 = .ok (.istore 4, 2) := by decide +kernel
theorem dX9_reduce_24 : decode cX9_reduce 24 = .ok (.iload 4, 2) := by decide +kernel
theorem dX9_reduce_26 : decode cX9_reduce 26 = .ok (.ifCond .lt 31, 3) := by decide +kernel
theorem dX9_reduce_29 : decode cX9_reduce 29 = .ok (.iload_n 3, 1) := by decide +kernel
theorem dX9_reduce_30 : decode cX9_reduce 30 = .ok (.iload 4, 2) := by decide +kernel
theorem dX9_reduce_32 : decode cX9_reduce 32 = .ok (.iconst 1, 1) := by decide +kernel
theorem dX9_reduce_33 : decode cX9_reduce 33 = .ok (.iadd, 1) := by decide +kernel
theorem dX9_reduce_34 : decode cX9_reduce 34 = .ok (.aload_n 0, 1) := by decide +kernel
theorem dX9_reduce_35 : decode cX9_reduce 35 = .ok (.invokevirtual 64, 3) := by decide +kernel
theorem dX9_reduce_38 : decode cX9_reduce 38 = .ok (.imul, 1) := by decide +kernel
theorem dX9_reduce_39 : decode cX9_reduce 39 = .ok (.iadd, 1) := by decide +kernel
theorem dX9_reduce_40 : decode cX9_reduce 40 = .ok (.istore_n 3, 1) := by decide +kernel
theorem dX9_reduce_41 : decode cX9_reduce 41 = .ok (.aload_n 0, 1) := by decide +kernel
theorem dX9_reduce_42 : decode cX9_reduce 42 = .ok (.dup, 1) := by decide +kernel
theorem dX9_reduce_43 : decode cX9_reduce 43 = .ok (.getfield 45, 3) := by decide +kernel
theorem dX9_reduce_46 : decode cX9_reduce 46 = .ok (.iconst 1, 1) := by decide +kernel
theorem dX9_reduce_47 : decode cX9_reduce 47 = .ok (.isub, 1) := by decide +kernel
theorem dX9_reduce_48 : decode cX9_reduce 48 = .ok (.putfield 45, 3) := by decide +kernel
theorem dX9_reduce_51 : decode cX9_reduce 51 = .ok (.iinc 4 (-1), 3) := by decide +kernel
theorem dX9_reduce_54 : decode cX9_reduce 54 = .ok (.goto (-30), 3) := by decide +kernel
theorem dX9_reduce_57 : decode cX9_reduce 57 = .ok (.aload_n 0, 1) := by decide +kernel
theorem dX9_reduce_58 : decode cX9_reduce 58 = .ok (.aload_n 0, 1) := by decide +kernel
theorem dX9_reduce_59 : decode cX9_reduce 59 = .ok (.getfield 18, 3) := by decide +kernel
theorem dX9_reduce_62 : decode cX9_reduce 62 = .ok (.aload_n 0, 1) := by decide +kernel
theorem dX9_reduce_63 : decode cX9_reduce 63 = .ok (.invokevirtual 57, 3) := by decide +kernel
theorem dX9_reduce_66 : decode cX9_reduce 66 = .ok (.bipush 16, 2) := by decide +kernel
theorem dX9_reduce_68 : decode cX9_reduce 68 = .ok (.aload_n 2, 1) := by decide +kernel
theorem dX9_reduce_69 : decode cX9_reduce 69 = .ok (.iload_n 1, 1) := by decide +kernel
theorem dX9_reduce_70 : decode cX9_reduce 70 = .ok (.invokevirtual 132, 3) := by decide +kernel
theorem dX9_reduce_73 : decode cX9_reduce 73 = .ok (.iadd, 1) := by decide +kernel
theorem dX9_reduce_74 : decode cX9_reduce 74 = .ok (.invokevirtual 71, 3) := by decide +kernel
theorem dX9_reduce_77 : decode cX9_reduce 77 = .ok (.iload_n 3, 1) := by decide +kernel
theorem dX9_reduce_78 : decode cX9_reduce 78 = .ok (.sipush 1009, 3) := by decide +kernel
theorem dX9_reduce_81 : decode cX9_reduce 81 = .ok (.irem, 1) := by decide +kernel
theorem dX9_reduce_82 : decode cX9_reduce 82 = .ok (.invokevirtual 49, 3) := by decide +kernel
theorem dX9_reduce_85 : decode cX9_reduce 85 = .ok (.return_, 1) := by decide +kernel
theorem dX10_init_0 : decode cX10_init 0 = .ok (.aload_n 0, 1) := by decide +kernel
theorem dX10_init_1 : decode cX10_init 1 = .ok (.invokespecial 1, 3) := by decide +kernel
theorem dX10_init_4 : decode cX10_init 4 = .ok (.return_, 1) := by decide +kernel
theorem dX10_worth_0 : decode cX10_worth 0 = .ok (.aload_n 0, 1) := by decide +kernel
theorem dX10_worth_1 : decode cX10_worth 1 = .ok (.getfield 7, 3) := by decide +kernel
theorem dX10_worth_4 : decode cX10_worth 4 = .ok (.ireturn, 1) := by decide +kernel
theorem dX10_keepWorth_0 : decode cX10_keepWorth 0 = .ok (.aload_n 0, 1) := by decide +kernel
theorem dX10_keepWorth_1 : decode cX10_keepWorth 1 = .ok (.iload_n 1, 1) := by decide +kernel
theorem dX10_keepWorth_2 : decode cX10_keepWorth 2 = .ok (.putfield 7, 3) := by decide +kernel
theorem dX10_keepWorth_5 : decode cX10_keepWorth 5 = .ok (.return_, 1) := by decide +kernel
theorem dX11_init_0 : decode cX11_init 0 = .ok (.aload_n 0, 1) := by decide +kernel
theorem dX11_init_1 : decode cX11_init 1 = .ok (.invokespecial 3, 3) := by decide +kernel
theorem dX11_init_4 : decode cX11_init 4 = .ok (.aload_n 0, 1) := by decide +kernel
theorem dX11_init_5 : decode cX11_init 5 = .ok (.new 9, 3) := by decide +kernel
theorem dX11_init_8 : decode cX11_init 8 = .ok (.dup, 1) := by decide +kernel
theorem dX11_init_9 : decode cX11_init 9 = .ok (.invokespecial 11, 3) := by decide +kernel
theorem dX11_init_12 : decode cX11_init 12 = .ok (.putfield 12, 3) := by decide +kernel
theorem dX11_init_15 : decode cX11_init 15 = .ok (.new 16, 3) := by decide +kernel
theorem dX11_init_18 : decode cX11_init 18 = .ok (.dup, 1) := by decide +kernel
theorem dX11_init_19 : decode cX11_init 19 = .ok (.invokespecial 18, 3) := by decide +kernel
theorem dX11_init_22 : decode cX11_init 22 = .ok (.astore_n 1, 1) := by decide +kernel
theorem dX11_init_23 : decode cX11_init 23 = .ok (.bipush 8, 2) := by decide +kernel
theorem dX11_init_25 : decode cX11_init 25 = .ok (.newarray .int, 2) := by decide +kernel
theorem dX11_init_27 : decode cX11_init 27 = .ok (.astore_n 2, 1) := by decide +kernel
theorem dX11_init_28 : decode cX11_init 28 = .ok (.bipush 8, 2) := by decide +kernel
theorem dX11_init_30 : decode cX11_init 30 = .ok (.newarray .int, 2) := by decide +kernel
theorem dX11_init_32 : decode cX11_init 32 = .ok (.astore_n 3, 1) := by decide +kernel
theorem dX11_init_33 : decode cX11_init 33 = .ok (.bipush 13, 2) := by decide +kernel
theorem dX11_init_35 : decode cX11_init 35 = .ok (.newarray .int, 2) := by decide +kernel
theorem dX11_init_37 : decode cX11_init 37 = .ok (.astore 4, 2) := by decide +kernel
theorem dX11_init_39 : decode cX11_init 39 = .ok (.aload 4, 2) := by decide +kernel
theorem dX11_init_41 : decode cX11_init 41 = .ok (.bipush 8, 2) := by decide +kernel
theorem dX11_init_43 : decode cX11_init 43 = .ok (.invokestatic 19, 3) := by decide +kernel
theorem dX11_init_46 : decode cX11_init 46 = .ok (.new 25, 3) := by decide +kernel
theorem dX11_init_49 : decode cX11_init 49 = .ok (.dup, 1) := by decide +kernel
theorem dX11_init_50 : decode cX11_init 50 = .ok (.aload_n 1, 1) := by decide +kernel
theorem dX11_init_51 : decode cX11_init 51 = .ok (.invokespecial 27, 3) := by decide +kernel
theorem dX11_init_54 : decode cX11_init 54 = .ok (.astore 5, 2) := by decide +kernel
theorem dX11_init_56 : decode cX11_init 56 = .ok (.new 30, 3) := by decide +kernel
theorem dX11_init_59 : decode cX11_init 59 = .ok (.dup, 1) := by decide +kernel
theorem dX11_init_60 : decode cX11_init 60 = .ok (.aload 5, 2) := by decide +kernel
theorem dX11_init_62 : decode cX11_init 62 = .ok (.iconst 1, 1) := by decide +kernel
theorem dX11_init_63 : decode cX11_init 63 = .ok (.invokespecial 32, 3) := by decide +kernel
theorem dX11_init_66 : decode cX11_init 66 = .ok (.astore 6, 2) := by decide +kernel
theorem dX11_init_68 : decode cX11_init 68 = .ok (.new 30, 3) := by decide +kernel
theorem dX11_init_71 : decode cX11_init 71 = .ok (.dup, 1) := by decide +kernel
theorem dX11_init_72 : decode cX11_init 72 = .ok (.aload 5, 2) := by decide +kernel
theorem dX11_init_74 : decode cX11_init 74 = .ok (.iconst 0, 1) := by decide +kernel
theorem dX11_init_75 : decode cX11_init 75 = .ok (.invokespecial 32, 3) := by decide +kernel
theorem dX11_init_78 : decode cX11_init 78 = .ok (.astore 7, 2) := by decide +kernel
theorem dX11_init_80 : decode cX11_init 80 = .ok (.sipush 2704, 3) := by decide +kernel
theorem dX11_init_83 : decode cX11_init 83 = .ok (.newarray .int, 2) := by decide +kernel
theorem dX11_init_85 : decode cX11_init 85 = .ok (.astore 8, 2) := by decide +kernel
theorem dX11_init_87 : decode cX11_init 87 = .ok (.sipush 25350, 3) := by decide +kernel
theorem dX11_init_90 : decode cX11_init 90 = .ok (.newarray .int, 2) := by decide +kernel
theorem dX11_init_92 : decode cX11_init 92 = .ok (.astore 9, 2) := by decide +kernel
theorem dX11_init_94 : decode cX11_init 94 = .ok (.aload_n 0, 1) := by decide +kernel
theorem dX11_init_95 : decode cX11_init 95 = .ok (.aload_n 1, 1) := by decide +kernel
theorem dX11_init_96 : decode cX11_init 96 = .ok (.putfield 35, 3) := by decide +kernel
theorem dX11_init_99 : decode cX11_init 99 = .ok (.aload_n 0, 1) := by decide +kernel
theorem dX11_init_100 : decode cX11_init 100 = .ok (.new 16, 3) := by decide +kernel
theorem dX11_init_103 : decode cX11_init 103 = .ok (.dup, 1) := by decide +kernel
theorem dX11_init_104 : decode cX11_init 104 = .ok (.invokespecial 18, 3) := by decide +kernel
theorem dX11_init_107 : decode cX11_init 107 = .ok (.putfield 39, 3) := by decide +kernel
theorem dX11_init_110 : decode cX11_init 110 = .ok (.aload_n 0, 1) := by decide +kernel
theorem dX11_init_111 : decode cX11_init 111 = .ok (.aload_n 2, 1) := by decide +kernel
theorem dX11_init_112 : decode cX11_init 112 = .ok (.putfield 42, 3) := by decide +kernel
theorem dX11_init_115 : decode cX11_init 115 = .ok (.aload_n 0, 1) := by decide +kernel
theorem dX11_init_116 : decode cX11_init 116 = .ok (.aload_n 3, 1) := by decide +kernel
theorem dX11_init_117 : decode cX11_init 117 = .ok (.putfield 46, 3) := by decide +kernel
theorem dX11_init_120 : decode cX11_init 120 = .ok (.aload_n 0, 1) := by decide +kernel
theorem dX11_init_121 : decode cX11_init 121 = .ok (.aload 4, 2) := by decide +kernel
theorem dX11_init_123 : decode cX11_init 123 = .ok (.putfield 49, 3) := by decide +kernel
theorem dX11_init_126 : decode cX11_init 126 = .ok (.aload_n 0, 1) := by decide +kernel
theorem dX11_init_127 : decode cX11_init 127 = .ok (.aload 5, 2) := by decide +kernel
theorem dX11_init_129 : decode cX11_init 129 = .ok (.putfield 52, 3) := by decide +kernel
theorem dX11_init_132 : decode cX11_init 132 = .ok (.aload_n 0, 1) := by decide +kernel
theorem dX11_init_133 : decode cX11_init 133 = .ok (.aload 6, 2) := by decide +kernel
theorem dX11_init_135 : decode cX11_init 135 = .ok (.putfield 56, 3) := by decide +kernel
theorem dX11_init_138 : decode cX11_init 138 = .ok (.aload_n 0, 1) := by decide +kernel
theorem dX11_init_139 : decode cX11_init 139 = .ok (.aload 7, 2) := by decide +kernel
theorem dX11_init_141 : decode cX11_init 141 = .ok (.putfield 60, 3) := by decide +kernel
theorem dX11_init_144 : decode cX11_init 144 = .ok (.aload_n 0, 1) := by decide +kernel
theorem dX11_init_145 : decode cX11_init 145 = .ok (.new 63, 3) := by decide +kernel
theorem dX11_init_148 : decode cX11_init 148 = .ok (.dup, 1) := by decide +kernel
theorem dX11_init_149 : decode cX11_init 149 = .ok (.aload 5, 2) := by decide +kernel
theorem dX11_init_151 : decode cX11_init 151 = .ok (.aload 4, 2) := by decide +kernel
theorem dX11_init_153 : decode cX11_init 153 = .ok (.invokespecial 65, 3) := by decide +kernel
theorem dX11_init_156 : decode cX11_init 156 = .ok (.putfield 68, 3) := by decide +kernel
theorem dX11_init_159 : decode cX11_init 159 = .ok (.aload_n 0, 1) := by decide +kernel
theorem dX11_init_160 : decode cX11_init 160 = .ok (.new 72, 3) := by decide +kernel
theorem dX11_init_163 : decode cX11_init 163 = .ok (.dup, 1) := by decide +kernel
theorem dX11_init_164 : decode cX11_init 164 = .ok (.aload 6, 2) := by decide +kernel
theorem dX11_init_166 : decode cX11_init 166 = .ok (.iconst 1, 1) := by decide +kernel
theorem dX11_init_167 : decode cX11_init 167 = .ok (.aload_n 2, 1) := by decide +kernel
theorem dX11_init_168 : decode cX11_init 168 = .ok (.aload_n 3, 1) := by decide +kernel
theorem dX11_init_169 : decode cX11_init 169 = .ok (.aload 4, 2) := by decide +kernel
theorem dX11_init_171 : decode cX11_init 171 = .ok (.invokespecial 74, 3) := by decide +kernel
theorem dX11_init_174 : decode cX11_init 174 = .ok (.putfield 77, 3) := by decide +kernel
theorem dX11_init_177 : decode cX11_init 177 = .ok (.aload_n 0, 1) := by decide +kernel
theorem dX11_init_178 : decode cX11_init 178 = .ok (.new 72, 3) := by decide +kernel
theorem dX11_init_181 : decode cX11_init 181 = .ok (.dup, 1) := by decide +kernel
theorem dX11_init_182 : decode cX11_init 182 = .ok (.aload 6, 2) := by decide +kernel
theorem dX11_init_184 : decode cX11_init 184 = .ok (.iconst 0, 1) := by decide +kernel
theorem dX11_init_185 : decode cX11_init 185 = .ok (.aload_n 2, 1) := by decide +kernel
theorem dX11_init_186 : decode cX11_init 186 = .ok (.aload_n 3, 1) := by decide +kernel
theorem dX11_init_187 : decode cX11_init 187 = .ok (.aload 4, 2) := by decide +kernel
theorem dX11_init_189 : decode cX11_init 189 = .ok (.invokespecial 74, 3) := by decide +kernel
theorem dX11_init_192 : decode cX11_init 192 = .ok (.putfield 80, 3) := by decide +kernel
theorem dX11_init_195 : decode cX11_init 195 = .ok (.aload_n 0, 1) := by decide +kernel
theorem dX11_init_196 : decode cX11_init 196 = .ok (.new 72, 3) := by decide +kernel
theorem dX11_init_199 : decode cX11_init 199 = .ok (.dup, 1) := by decide +kernel
theorem dX11_init_200 : decode cX11_init 200 = .ok (.aload 7, 2) := by decide +kernel
theorem dX11_init_202 : decode cX11_init 202 = .ok (.iconst 0, 1) := by decide +kernel
theorem dX11_init_203 : decode cX11_init 203 = .ok (.aload_n 2, 1) := by decide +kernel
theorem dX11_init_204 : decode cX11_init 204 = .ok (.aload_n 3, 1) := by decide +kernel
theorem dX11_init_205 : decode cX11_init 205 = .ok (.aload 4, 2) := by decide +kernel
theorem dX11_init_207 : decode cX11_init 207 = .ok (.invokespecial 74, 3) := by decide +kernel
theorem dX11_init_210 : decode cX11_init 210 = .ok (.putfield 83, 3) := by decide +kernel
theorem dX11_init_213 : decode cX11_init 213 = .ok (.aload_n 0, 1) := by decide +kernel
theorem dX11_init_214 : decode cX11_init 214 = .ok (.new 86, 3) := by decide +kernel
theorem dX11_init_217 : decode cX11_init 217 = .ok (.dup, 1) := by decide +kernel
theorem dX11_init_218 : decode cX11_init 218 = .ok (.aload 5, 2) := by decide +kernel
theorem dX11_init_220 : decode cX11_init 220 = .ok (.aload 4, 2) := by decide +kernel
theorem dX11_init_222 : decode cX11_init 222 = .ok (.aload 8, 2) := by decide +kernel
theorem dX11_init_224 : decode cX11_init 224 = .ok (.aload 9, 2) := by decide +kernel
theorem dX11_init_226 : decode cX11_init 226 = .ok (.invokespecial 88, 3) := by decide +kernel
theorem dX11_init_229 : decode cX11_init 229 = .ok (.putfield 91, 3) := by decide +kernel
theorem dX11_init_232 : decode cX11_init 232 = .ok (.aload_n 0, 1) := by decide +kernel
theorem dX11_init_233 : decode cX11_init 233 = .ok (.new 95, 3) := by decide +kernel
theorem dX11_init_236 : decode cX11_init 236 = .ok (.dup, 1) := by decide +kernel
theorem dX11_init_237 : decode cX11_init 237 = .ok (.aload 5, 2) := by decide +kernel
theorem dX11_init_239 : decode cX11_init 239 = .ok (.aload 4, 2) := by decide +kernel
theorem dX11_init_241 : decode cX11_init 241 = .ok (.aload 8, 2) := by decide +kernel
theorem dX11_init_243 : decode cX11_init 243 = .ok (.aload 9, 2) := by decide +kernel
theorem dX11_init_245 : decode cX11_init 245 = .ok (.invokespecial 97, 3) := by decide +kernel
theorem dX11_init_248 : decode cX11_init 248 = .ok (.putfield 98, 3) := by decide +kernel
theorem dX11_init_251 : decode cX11_init 251 = .ok (.return_, 1) := by decide +kernel
theorem dX11_type_0 : decode cX11_type 0 = .ok (.iload_n 1, 1) := by decide +kernel
theorem dX11_type_1 : decode cX11_type 1 = .ok (.invokestatic 101, 3) := by decide +kernel
theorem dX11_type_4 : decode cX11_type 4 = .ok (.ifCond .ne 13, 3) := by decide +kernel
theorem dX11_type_7 : decode cX11_type 7 = .ok (.new 105, 3) := by decide +kernel
theorem dX11_type_10 : decode cX11_type 10 = .ok (.dup, 1) := by decide +kernel
theorem dX11_type_11 : decode cX11_type 11 = .ok (.ldc 107, 2) := by decide +kernel
theorem dX11_type_13 : decode cX11_type 13 = .ok (.invokespecial 109, 3) := by decide +kernel
theorem dX11_type_16 : decode cX11_type 16 = .ok (.athrow, 1) := by decide +kernel
theorem dX11_type_17 : decode cX11_type 17 = .ok (.aload_n 0, 1) := by decide +kernel
theorem dX11_type_18 : decode cX11_type 18 = .ok (.getfield 12, 3) := by decide +kernel
theorem dX11_type_21 : decode cX11_type 21 = .ok (.invokevirtual 112, 3) := by decide +kernel
theorem dX11_type_24 : decode cX11_type 24 = .ok (.ifCond .eq 13, 3) := by decide +kernel
theorem dX11_type_27 : decode cX11_type 27 = .ok (.new 116, 3) := by decide +kernel
theorem dX11_type_30 : decode cX11_type 30 = .ok (.dup, 1) := by decide +kernel
theorem dX11_type_31 : decode cX11_type 31 = .ok (.ldc 118, 2) := by decide +kernel
theorem dX11_type_33 : decode cX11_type 33 = .ok (.invokespecial 120, 3) := by decide +kernel
theorem dX11_type_36 : decode cX11_type 36 = .ok (.athrow, 1) := by decide +kernel
theorem dX11_type_37 : decode cX11_type 37 = .ok (.aload_n 0, 1) := by decide +kernel
theorem dX11_type_38 : decode cX11_type 38 = .ok (.getfield 12, 3) := by decide +kernel
theorem dX11_type_41 : decode cX11_type 41 = .ok (.iload_n 1, 1) := by decide +kernel
theorem dX11_type_42 : decode cX11_type 42 = .ok (.invokevirtual 121, 3) := by decide +kernel
theorem dX11_type_45 : decode cX11_type 45 = .ok (.ireturn, 1) := by decide +kernel
theorem dX11_wipe_0 : decode cX11_wipe 0 = .ok (.aload_n 0, 1) := by decide +kernel
theorem dX11_wipe_1 : decode cX11_wipe 1 = .ok (.getfield 12, 3) := by decide +kernel
theorem dX11_wipe_4 : decode cX11_wipe 4 = .ok (.invokevirtual 125, 3) := by decide +kernel
theorem dX11_wipe_7 : decode cX11_wipe 7 = .ok (.ireturn, 1) := by decide +kernel
theorem dX11_fault_0 : decode cX11_fault 0 = .ok (.aload_n 0, 1) := by decide +kernel
theorem dX11_fault_1 : decode cX11_fault 1 = .ok (.getfield 12, 3) := by decide +kernel
theorem dX11_fault_4 : decode cX11_fault 4 = .ok (.invokevirtual 129, 3) := by decide +kernel
theorem dX11_fault_7 : decode cX11_fault 7 = .ok (.ireturn, 1) := by decide +kernel
theorem dX11_enter_0 : decode cX11_enter 0 = .ok (.aload_n 0, 1) := by decide +kernel
theorem dX11_enter_1 : decode cX11_enter 1 = .ok (.getfield 12, 3) := by decide +kernel
theorem dX11_enter_4 : decode cX11_enter 4 = .ok (.invokevirtual 129, 3) := by decide +kernel
theorem dX11_enter_7 : decode cX11_enter 7 = .ok (.iconst (-1), 1) := by decide +kernel
theorem dX11_enter_8 : decode cX11_enter 8 = .ok (.if_icmp .eq 13, 3) := by decide +kernel
theorem dX11_enter_11 : decode cX11_enter 11 = .ok (.new 105, 3) := by decide +kernel
theorem dX11_enter_14 : decode cX11_enter 14 = .ok (.dup, 1) := by decide +kernel
theorem dX11_enter_15 : decode cX11_enter 15 = .ok (.ldc 132, 2) := by decide +kernel
theorem dX11_enter_17 : decode cX11_enter 17 = .ok (.invokespecial 109, 3) := by decide +kernel
theorem dX11_enter_20 : decode cX11_enter 20 = .ok (.athrow, 1) := by decide +kernel
theorem dX11_enter_21 : decode cX11_enter 21 = .ok (.aload_n 0, 1) := by decide +kernel
theorem dX11_enter_22 : decode cX11_enter 22 = .ok (.getfield 35, 3) := by decide +kernel
theorem dX11_enter_25 : decode cX11_enter 25 = .ok (.aload_n 0, 1) := by decide +kernel
theorem dX11_enter_26 : decode cX11_enter 26 = .ok (.getfield 12, 3) := by decide +kernel
theorem dX11_enter_29 : decode cX11_enter 29 = .ok (.invokevirtual 134, 3) := by decide +kernel
theorem dX11_enter_32 : decode cX11_enter 32 = .ok (.ifCond .ne 13, 3) := by decide +kernel
theorem dX11_enter_35 : decode cX11_enter 35 = .ok (.new 116, 3) := by decide +kernel
theorem dX11_enter_38 : decode cX11_enter 38 = .ok (.dup, 1) := by decide +kernel
theorem dX11_enter_39 : decode cX11_enter 39 = .ok (.ldc 138, 2) := by decide +kernel
theorem dX11_enter_41 : decode cX11_enter 41 = .ok (.invokespecial 120, 3) := by decide +kernel
theorem dX11_enter_44 : decode cX11_enter 44 = .ok (.athrow, 1) := by decide +kernel
theorem dX11_enter_45 : decode cX11_enter 45 = .ok (.aload_n 0, 1) := by decide +kernel
theorem dX11_enter_46 : decode cX11_enter 46 = .ok (.invokevirtual 140, 3) := by decide +kernel
theorem dX11_enter_49 : decode cX11_enter 49 = .ok (.aload_n 0, 1) := by decide +kernel
theorem dX11_enter_50 : decode cX11_enter 50 = .ok (.getfield 35, 3) := by decide +kernel
theorem dX11_enter_53 : decode cX11_enter 53 = .ok (.invokevirtual 143, 3) := by decide +kernel
theorem dX11_enter_56 : decode cX11_enter 56 = .ok (.ireturn, 1) := by decide +kernel
theorem dX11_undo_0 : decode cX11_undo 0 = .ok (.aload_n 0, 1) := by decide +kernel
theorem dX11_undo_1 : decode cX11_undo 1 = .ok (.getfield 35, 3) := by decide +kernel
theorem dX11_undo_4 : decode cX11_undo 4 = .ok (.invokevirtual 146, 3) := by decide +kernel
theorem dX11_undo_7 : decode cX11_undo 7 = .ok (.ifCond .ne 13, 3) := by decide +kernel
theorem dX11_undo_10 : decode cX11_undo 10 = .ok (.new 116, 3) := by decide +kernel
theorem dX11_undo_13 : decode cX11_undo 13 = .ok (.dup, 1) := by decide +kernel
theorem dX11_undo_14 : decode cX11_undo 14 = .ok (.ldc 149, 2) := by decide +kernel
theorem dX11_undo_16 : decode cX11_undo 16 = .ok (.invokespecial 120, 3) := by decide +kernel
theorem dX11_undo_19 : decode cX11_undo 19 = .ok (.athrow, 1) := by decide +kernel
theorem dX11_undo_20 : decode cX11_undo 20 = .ok (.aload_n 0, 1) := by decide +kernel
theorem dX11_undo_21 : decode cX11_undo 21 = .ok (.invokevirtual 140, 3) := by decide +kernel
theorem dX11_undo_24 : decode cX11_undo 24 = .ok (.aload_n 0, 1) := by decide +kernel
theorem dX11_undo_25 : decode cX11_undo 25 = .ok (.getfield 35, 3) := by decide +kernel
theorem dX11_undo_28 : decode cX11_undo 28 = .ok (.invokevirtual 143, 3) := by decide +kernel
theorem dX11_undo_31 : decode cX11_undo 31 = .ok (.ireturn, 1) := by decide +kernel
theorem dX11_use_0 : decode cX11_use 0 = .ok (.iload_n 1, 1) := by decide +kernel
theorem dX11_use_1 : decode cX11_use 1 = .ok (.ifCond .lt 8, 3) := by decide +kernel
theorem dX11_use_4 : decode cX11_use 4 = .ok (.iload_n 1, 1) := by decide +kernel
theorem dX11_use_5 : decode cX11_use 5 = .ok (.iconst 1, 1) := by decide +kernel
theorem dX11_use_6 : decode cX11_use 6 = .ok (.if_icmp .le 13, 3) := by decide +kernel
theorem dX11_use_9 : decode cX11_use 9 = .ok (.new 151, 3) := by decide +kernel
theorem dX11_use_12 : decode cX11_use 12 = .ok (.dup, 1) := by decide +kernel
theorem dX11_use_13 : decode cX11_use 13 = .ok (.ldc 153, 2) := by decide +kernel
theorem dX11_use_15 : decode cX11_use 15 = .ok (.invokespecial 155, 3) := by decide +kernel
theorem dX11_use_18 : decode cX11_use 18 = .ok (.athrow, 1) := by decide +kernel
theorem dX11_use_19 : decode cX11_use 19 = .ok (.aload_n 0, 1) := by decide +kernel
theorem dX11_use_20 : decode cX11_use 20 = .ok (.getfield 156, 3) := by decide +kernel
theorem dX11_use_23 : decode cX11_use 23 = .ok (.istore_n 2, 1) := by decide +kernel
theorem dX11_use_24 : decode cX11_use 24 = .ok (.iload_n 1, 1) := by decide +kernel
theorem dX11_use_25 : decode cX11_use 25 = .ok (.iload_n 2, 1) := by decide +kernel
theorem dX11_use_26 : decode cX11_use 26 = .ok (.if_icmp .eq 30, 3) := by decide +kernel
theorem dX11_use_29 : decode cX11_use 29 = .ok (.aload_n 0, 1) := by decide +kernel
theorem dX11_use_30 : decode cX11_use 30 = .ok (.getfield 35, 3) := by decide +kernel
theorem dX11_use_33 : decode cX11_use 33 = .ok (.astore_n 3, 1) := by decide +kernel
theorem dX11_use_34 : decode cX11_use 34 = .ok (.aload_n 0, 1) := by decide +kernel
theorem dX11_use_35 : decode cX11_use 35 = .ok (.aload_n 0, 1) := by decide +kernel
theorem dX11_use_36 : decode cX11_use 36 = .ok (.getfield 39, 3) := by decide +kernel
theorem dX11_use_39 : decode cX11_use 39 = .ok (.putfield 35, 3) := by decide +kernel
theorem dX11_use_42 : decode cX11_use 42 = .ok (.aload_n 0, 1) := by decide +kernel
theorem dX11_use_43 : decode cX11_use 43 = .ok (.aload_n 3, 1) := by decide +kernel
theorem dX11_use_44 : decode cX11_use 44 = .ok (.putfield 39, 3) := by decide +kernel
theorem dX11_use_47 : decode cX11_use 47 = .ok (.aload_n 0, 1) := by decide +kernel
theorem dX11_use_48 : decode cX11_use 48 = .ok (.iload_n 1, 1) := by decide +kernel
theorem dX11_use_49 : decode cX11_use 49 = .ok (.putfield 156, 3) := by decide +kernel
theorem dX11_use_52 : decode cX11_use 52 = .ok (.aload_n 0, 1) := by decide +kernel
theorem dX11_use_53 : decode cX11_use 53 = .ok (.invokevirtual 140, 3) := by decide +kernel
theorem dX11_use_56 : decode cX11_use 56 = .ok (.iload_n 2, 1) := by decide +kernel
theorem dX11_use_57 : decode cX11_use 57 = .ok (.ireturn, 1) := by decide +kernel
theorem dX11_bring_0 : decode cX11_bring 0 = .ok (.iload_n 1, 1) := by decide +kernel
theorem dX11_bring_1 : decode cX11_bring 1 = .ok (.ifCond .lt 9, 3) := by decide +kernel
theorem dX11_bring_4 : decode cX11_bring 4 = .ok (.iload_n 1, 1) := by decide +kernel
theorem dX11_bring_5 : decode cX11_bring 5 = .ok (.bipush 8, 2) := by decide +kernel
theorem dX11_bring_7 : decode cX11_bring 7 = .ok (.if_icmp .lt 13, 3) := by decide +kernel
theorem dX11_bring_10 : decode cX11_bring 10 = .ok (.new 105, 3) := by decide +kernel
theorem dX11_bring_13 : decode cX11_bring 13 = .ok (.dup, 1) := by decide +kernel
theorem dX11_bring_14 : decode cX11_bring 14 = .ok (.ldc 160, 2) := by decide +kernel
theorem dX11_bring_16 : decode cX11_bring 16 = .ok (.invokespecial 109, 3) := by decide +kernel
theorem dX11_bring_19 : decode cX11_bring 19 = .ok (.athrow, 1) := by decide +kernel
theorem dX11_bring_20 : decode cX11_bring 20 = .ok (.aload_n 0, 1) := by decide +kernel
theorem dX11_bring_21 : decode cX11_bring 21 = .ok (.getfield 35, 3) := by decide +kernel
theorem dX11_bring_24 : decode cX11_bring 24 = .ok (.aload_n 0, 1) := by decide +kernel
theorem dX11_bring_25 : decode cX11_bring 25 = .ok (.getfield 39, 3) := by decide +kernel
theorem dX11_bring_28 : decode cX11_bring 28 = .ok (.iload_n 1, 1) := by decide +kernel
theorem dX11_bring_29 : decode cX11_bring 29 = .ok (.invokevirtual 162, 3) := by decide +kernel
theorem dX11_bring_32 : decode cX11_bring 32 = .ok (.ifCond .ne 13, 3) := by decide +kernel
theorem dX11_bring_35 : decode cX11_bring 35 = .ok (.new 116, 3) := by decide +kernel
theorem dX11_bring_38 : decode cX11_bring 38 = .ok (.dup, 1) := by decide +kernel
theorem dX11_bring_39 : decode cX11_bring 39 = .ok (.ldc 166, 2) := by decide +kernel
theorem dX11_bring_41 : decode cX11_bring 41 = .ok (.invokespecial 120, 3) := by decide +kernel
theorem dX11_bring_44 : decode cX11_bring 44 = .ok (.athrow, 1) := by decide +kernel
theorem dX11_bring_45 : decode cX11_bring 45 = .ok (.aload_n 0, 1) := by decide +kernel
theorem dX11_bring_46 : decode cX11_bring 46 = .ok (.invokevirtual 140, 3) := by decide +kernel
theorem dX11_bring_49 : decode cX11_bring 49 = .ok (.aload_n 0, 1) := by decide +kernel
theorem dX11_bring_50 : decode cX11_bring 50 = .ok (.getfield 39, 3) := by decide +kernel
theorem dX11_bring_53 : decode cX11_bring 53 = .ok (.invokevirtual 168, 3) := by decide +kernel
theorem dX11_bring_56 : decode cX11_bring 56 = .ok (.ireturn, 1) := by decide +kernel
theorem dX11_start_0 : decode cX11_start 0 = .ok (.iload_n 1, 1) := by decide +kernel
theorem dX11_start_1 : decode cX11_start 1 = .ok (.ifCond .lt 9, 3) := by decide +kernel
theorem dX11_start_4 : decode cX11_start 4 = .ok (.iload_n 1, 1) := by decide +kernel
theorem dX11_start_5 : decode cX11_start 5 = .ok (.bipush 8, 2) := by decide +kernel
theorem dX11_start_7 : decode cX11_start 7 = .ok (.if_icmp .lt 13, 3) := by decide +kernel
theorem dX11_start_10 : decode cX11_start 10 = .ok (.new 151, 3) := by decide +kernel
theorem dX11_start_13 : decode cX11_start 13 = .ok (.dup, 1) := by decide +kernel
theorem dX11_start_14 : decode cX11_start 14 = .ok (.ldc 171, 2) := by decide +kernel
theorem dX11_start_16 : decode cX11_start 16 = .ok (.invokespecial 155, 3) := by decide +kernel
theorem dX11_start_19 : decode cX11_start 19 = .ok (.athrow, 1) := by decide +kernel
theorem dX11_start_20 : decode cX11_start 20 = .ok (.aload_n 0, 1) := by decide +kernel
theorem dX11_start_21 : decode cX11_start 21 = .ok (.getfield 35, 3) := by decide +kernel
theorem dX11_start_24 : decode cX11_start 24 = .ok (.invokevirtual 173, 3) := by decide +kernel
theorem dX11_start_27 : decode cX11_start 27 = .ok (.istore_n 2, 1) := by decide +kernel
theorem dX11_start_28 : decode cX11_start 28 = .ok (.aload_n 0, 1) := by decide +kernel
theorem dX11_start_29 : decode cX11_start 29 = .ok (.getfield 35, 3) := by decide +kernel
theorem dX11_start_32 : decode cX11_start 32 = .ok (.iload_n 1, 1) := by decide +kernel
theorem dX11_start_33 : decode cX11_start 33 = .ok (.invokevirtual 176, 3) := by decide +kernel
theorem dX11_start_36 : decode cX11_start 36 = .ok (.aload_n 0, 1) := by decide +kernel
theorem dX11_start_37 : decode cX11_start 37 = .ok (.invokevirtual 140, 3) := by decide +kernel
theorem dX11_start_40 : decode cX11_start 40 = .ok (.iload_n 2, 1) := by decide +kernel
theorem dX11_start_41 : decode cX11_start 41 = .ok (.ireturn, 1) := by decide +kernel
theorem dX11_level_0 : decode cX11_level 0 = .ok (.iload_n 1, 1) := by decide +kernel
theorem dX11_level_1 : decode cX11_level 1 = .ok (.invokestatic 180, 3) := by decide +kernel
theorem dX11_level_4 : decode cX11_level 4 = .ok (.ifCond .eq 12, 3) := by decide +kernel
theorem dX11_level_7 : decode cX11_level 7 = .ok (.iload_n 3, 1) := by decide +kernel
theorem dX11_level_8 : decode cX11_level 8 = .ok (.ifCond .lt 8, 3) := by decide +kernel
theorem dX11_level_11 : decode cX11_level 11 = .ok (.iload_n 3, 1) := by decide +kernel
theorem dX11_level_12 : decode cX11_level 12 = .ok (.iconst 2, 1) := by decide +kernel
theorem dX11_level_13 : decode cX11_level 13 = .ok (.if_icmp .le 13, 3) := by decide +kernel
theorem dX11_level_16 : decode cX11_level 16 = .ok (.new 151, 3) := by decide +kernel
theorem dX11_level_19 : decode cX11_level 19 = .ok (.dup, 1) := by decide +kernel
theorem dX11_level_20 : decode cX11_level 20 = .ok (.ldc 184, 2) := by decide +kernel
theorem dX11_level_22 : decode cX11_level 22 = .ok (.invokespecial 155, 3) := by decide +kernel
theorem dX11_level_25 : decode cX11_level 25 = .ok (.athrow, 1) := by decide +kernel
theorem dX11_level_26 : decode cX11_level 26 = .ok (.iload_n 2, 1) := by decide +kernel
theorem dX11_level_27 : decode cX11_level 27 = .ok (.ifCond .lt 8, 3) := by decide +kernel
theorem dX11_level_30 : decode cX11_level 30 = .ok (.iload_n 2, 1) := by decide +kernel
theorem dX11_level_31 : decode cX11_level 31 = .ok (.iconst 5, 1) := by decide +kernel
theorem dX11_level_32 : decode cX11_level 32 = .ok (.if_icmp .le 13, 3) := by decide +kernel
theorem dX11_level_35 : decode cX11_level 35 = .ok (.new 105, 3) := by decide +kernel
theorem dX11_level_38 : decode cX11_level 38 = .ok (.dup, 1) := by decide +kernel
theorem dX11_level_39 : decode cX11_level 39 = .ok (.ldc 186, 2) := by decide +kernel
theorem dX11_level_41 : decode cX11_level 41 = .ok (.invokespecial 109, 3) := by decide +kernel
theorem dX11_level_44 : decode cX11_level 44 = .ok (.athrow, 1) := by decide +kernel
theorem dX11_level_45 : decode cX11_level 45 = .ok (.aload_n 0, 1) := by decide +kernel
theorem dX11_level_46 : decode cX11_level 46 = .ok (.getfield 42, 3) := by decide +kernel
theorem dX11_level_49 : decode cX11_level 49 = .ok (.iload_n 1, 1) := by decide +kernel
theorem dX11_level_50 : decode cX11_level 50 = .ok (.iaload, 1) := by decide +kernel
theorem dX11_level_51 : decode cX11_level 51 = .ok (.istore 4, 2) := by decide +kernel
theorem dX11_level_53 : decode cX11_level 53 = .ok (.aload_n 0, 1) := by decide +kernel
theorem dX11_level_54 : decode cX11_level 54 = .ok (.getfield 42, 3) := by decide +kernel
theorem dX11_level_57 : decode cX11_level 57 = .ok (.iload_n 1, 1) := by decide +kernel
theorem dX11_level_58 : decode cX11_level 58 = .ok (.iload_n 2, 1) := by decide +kernel
theorem dX11_level_59 : decode cX11_level 59 = .ok (.iastore, 1) := by decide +kernel
theorem dX11_level_60 : decode cX11_level 60 = .ok (.aload_n 0, 1) := by decide +kernel
theorem dX11_level_61 : decode cX11_level 61 = .ok (.getfield 46, 3) := by decide +kernel
theorem dX11_level_64 : decode cX11_level 64 = .ok (.iload_n 1, 1) := by decide +kernel
theorem dX11_level_65 : decode cX11_level 65 = .ok (.iload_n 3, 1) := by decide +kernel
theorem dX11_level_66 : decode cX11_level 66 = .ok (.iastore, 1) := by decide +kernel
theorem dX11_level_67 : decode cX11_level 67 = .ok (.iload 4, 2) := by decide +kernel
theorem dX11_level_69 : decode cX11_level 69 = .ok (.ireturn, 1) := by decide +kernel
theorem dX11_productions_0 : decode cX11_productions 0 = .ok (.aload_n 0, 1) := by decide +kernel
theorem dX11_productions_1 : decode cX11_productions 1 = .ok (.getfield 35, 3) := by decide +kernel
theorem dX11_productions_4 : decode cX11_productions 4 = .ok (.invokevirtual 143, 3) := by decide +kernel
theorem dX11_productions_7 : decode cX11_productions 7 = .ok (.ireturn, 1) := by decide +kernel
theorem dX11_left_0 : decode cX11_left 0 = .ok (.iload_n 1, 1) := by decide +kernel
theorem dX11_left_1 : decode cX11_left 1 = .ok (.ifCond .lt 14, 3) := by decide +kernel
theorem dX11_left_4 : decode cX11_left 4 = .ok (.iload_n 1, 1) := by decide +kernel
theorem dX11_left_5 : decode cX11_left 5 = .ok (.aload_n 0, 1) := by decide +kernel
theorem dX11_left_6 : decode cX11_left 6 = .ok (.getfield 35, 3) := by decide +kernel
theorem dX11_left_9 : decode cX11_left 9 = .ok (.invokevirtual 143, 3) := by decide +kernel
theorem dX11_left_12 : decode cX11_left 12 = .ok (.if_icmp .lt 13, 3) := by decide +kernel
theorem dX11_left_15 : decode cX11_left 15 = .ok (.new 151, 3) := by decide +kernel
theorem dX11_left_18 : decode cX11_left 18 = .ok (.dup, 1) := by decide +kernel
theorem dX11_left_19 : decode cX11_left 19 = .ok (.ldc 188, 2) := by decide +kernel
theorem dX11_left_21 : decode cX11_left 21 = .ok (.invokespecial 155, 3) := by decide +kernel
theorem dX11_left_24 : decode cX11_left 24 = .ok (.athrow, 1) := by decide +kernel
theorem dX11_left_25 : decode cX11_left 25 = .ok (.aload_n 0, 1) := by decide +kernel
theorem dX11_left_26 : decode cX11_left 26 = .ok (.getfield 35, 3) := by decide +kernel
theorem dX11_left_29 : decode cX11_left 29 = .ok (.iload_n 1, 1) := by decide +kernel
theorem dX11_left_30 : decode cX11_left 30 = .ok (.invokevirtual 190, 3) := by decide +kernel
theorem dX11_left_33 : decode cX11_left 33 = .ok (.ireturn, 1) := by decide +kernel
theorem dX11_right_0 : decode cX11_right 0 = .ok (.iload_n 1, 1) := by decide +kernel
theorem dX11_right_1 : decode cX11_right 1 = .ok (.ifCond .lt 23, 3) := by decide +kernel
theorem dX11_right_4 : decode cX11_right 4 = .ok (.iload_n 1, 1) := by decide +kernel
theorem dX11_right_5 : decode cX11_right 5 = .ok (.aload_n 0, 1) := by decide +kernel
theorem dX11_right_6 : decode cX11_right 6 = .ok (.getfield 35, 3) := by decide +kernel
theorem dX11_right_9 : decode cX11_right 9 = .ok (.invokevirtual 143, 3) := by decide +kernel
theorem dX11_right_12 : decode cX11_right 12 = .ok (.if_icmp .ge 12, 3) := by decide +kernel
theorem dX11_right_15 : decode cX11_right 15 = .ok (.iload_n 2, 1) := by decide +kernel
theorem dX11_right_16 : decode cX11_right 16 = .ok (.ifCond .lt 8, 3) := by decide +kernel
theorem dX11_right_19 : decode cX11_right 19 = .ok (.iload_n 2, 1) := by decide +kernel
theorem dX11_right_20 : decode cX11_right 20 = .ok (.iconst 5, 1) := by decide +kernel
theorem dX11_right_21 : decode cX11_right 21 = .ok (.if_icmp .lt 13, 3) := by decide +kernel
theorem dX11_right_24 : decode cX11_right 24 = .ok (.new 151, 3) := by decide +kernel
theorem dX11_right_27 : decode cX11_right 27 = .ok (.dup, 1) := by decide +kernel
theorem dX11_right_28 : decode cX11_right 28 = .ok (.ldc 194, 2) := by decide +kernel
theorem dX11_right_30 : decode cX11_right 30 = .ok (.invokespecial 155, 3) := by decide +kernel
theorem dX11_right_33 : decode cX11_right 33 = .ok (.athrow, 1) := by decide +kernel
theorem dX11_right_34 : decode cX11_right 34 = .ok (.aload_n 0, 1) := by decide +kernel
theorem dX11_right_35 : decode cX11_right 35 = .ok (.getfield 35, 3) := by decide +kernel
theorem dX11_right_38 : decode cX11_right 38 = .ok (.iload_n 1, 1) := by decide +kernel
theorem dX11_right_39 : decode cX11_right 39 = .ok (.iload_n 2, 1) := by decide +kernel
theorem dX11_right_40 : decode cX11_right 40 = .ok (.invokevirtual 196, 3) := by decide +kernel
theorem dX11_right_43 : decode cX11_right 43 = .ok (.ireturn, 1) := by decide +kernel
theorem dX11_isNullable_0 : decode cX11_isNullable 0 = .ok (.iload_n 1, 1) := by decide +kernel
theorem dX11_isNullable_1 : decode cX11_isNullable 1 = .ok (.invokestatic 200, 3) := by decide +kernel
theorem dX11_isNullable_4 : decode cX11_isNullable 4 = .ok (.aload_n 0, 1) := by decide +kernel
theorem dX11_isNullable_5 : decode cX11_isNullable 5 = .ok (.getfield 52, 3) := by decide +kernel
theorem dX11_isNullable_8 : decode cX11_isNullable 8 = .ok (.invokevirtual 203, 3) := by decide +kernel
theorem dX11_isNullable_11 : decode cX11_isNullable 11 = .ok (.aload_n 0, 1) := by decide +kernel
theorem dX11_isNullable_12 : decode cX11_isNullable 12 = .ok (.getfield 52, 3) := by decide +kernel
theorem dX11_isNullable_15 : decode cX11_isNullable 15 = .ok (.iload_n 1, 1) := by decide +kernel
theorem dX11_isNullable_16 : decode cX11_isNullable 16 = .ok (.invokevirtual 206, 3) := by decide +kernel
theorem dX11_isNullable_19 : decode cX11_isNullable 19 = .ok (.ireturn, 1) := by decide +kernel
theorem dX11_first_0 : decode cX11_first 0 = .ok (.iload_n 1, 1) := by decide +kernel
theorem dX11_first_1 : decode cX11_first 1 = .ok (.invokestatic 200, 3) := by decide +kernel
theorem dX11_first_4 : decode cX11_first 4 = .ok (.aload_n 0, 1) := by decide +kernel
theorem dX11_first_5 : decode cX11_first 5 = .ok (.getfield 52, 3) := by decide +kernel
theorem dX11_first_8 : decode cX11_first 8 = .ok (.invokevirtual 203, 3) := by decide +kernel
theorem dX11_first_11 : decode cX11_first 11 = .ok (.aload_n 0, 1) := by decide +kernel
theorem dX11_first_12 : decode cX11_first 12 = .ok (.getfield 52, 3) := by decide +kernel
theorem dX11_first_15 : decode cX11_first 15 = .ok (.iload_n 1, 1) := by decide +kernel
theorem dX11_first_16 : decode cX11_first 16 = .ok (.invokevirtual 209, 3) := by decide +kernel
theorem dX11_first_19 : decode cX11_first 19 = .ok (.ireturn, 1) := by decide +kernel
theorem dX11_follow_0 : decode cX11_follow 0 = .ok (.iload_n 1, 1) := by decide +kernel
theorem dX11_follow_1 : decode cX11_follow 1 = .ok (.invokestatic 200, 3) := by decide +kernel
theorem dX11_follow_4 : decode cX11_follow 4 = .ok (.aload_n 0, 1) := by decide +kernel
theorem dX11_follow_5 : decode cX11_follow 5 = .ok (.getfield 52, 3) := by decide +kernel
theorem dX11_follow_8 : decode cX11_follow 8 = .ok (.invokevirtual 203, 3) := by decide +kernel
theorem dX11_follow_11 : decode cX11_follow 11 = .ok (.aload_n 0, 1) := by decide +kernel
theorem dX11_follow_12 : decode cX11_follow 12 = .ok (.getfield 52, 3) := by decide +kernel
theorem dX11_follow_15 : decode cX11_follow 15 = .ok (.iload_n 1, 1) := by decide +kernel
theorem dX11_follow_16 : decode cX11_follow 16 = .ok (.invokevirtual 212, 3) := by decide +kernel
theorem dX11_follow_19 : decode cX11_follow 19 = .ok (.ireturn, 1) := by decide +kernel
theorem dX11_uses_0 : decode cX11_uses 0 = .ok (.iload_n 1, 1) := by decide +kernel
theorem dX11_uses_1 : decode cX11_uses 1 = .ok (.invokestatic 200, 3) := by decide +kernel
theorem dX11_uses_4 : decode cX11_uses 4 = .ok (.aload_n 0, 1) := by decide +kernel
theorem dX11_uses_5 : decode cX11_uses 5 = .ok (.getfield 52, 3) := by decide +kernel
theorem dX11_uses_8 : decode cX11_uses 8 = .ok (.invokevirtual 203, 3) := by decide +kernel
theorem dX11_uses_11 : decode cX11_uses 11 = .ok (.aload_n 0, 1) := by decide +kernel
theorem dX11_uses_12 : decode cX11_uses 12 = .ok (.getfield 52, 3) := by decide +kernel
theorem dX11_uses_15 : decode cX11_uses 15 = .ok (.iload_n 1, 1) := by decide +kernel
theorem dX11_uses_16 : decode cX11_uses 16 = .ok (.invokevirtual 215, 3) := by decide +kernel
theorem dX11_uses_19 : decode cX11_uses 19 = .ok (.ifCond .eq 7, 3) := by decide +kernel
theorem dX11_uses_22 : decode cX11_uses 22 = .ok (.iconst 1, 1) := by decide +kernel
theorem dX11_uses_23 : decode cX11_uses 23 = .ok (.goto 4, 3) := by decide +kernel
theorem dX11_uses_26 : decode cX11_uses 26 = .ok (.iconst 0, 1) := by decide +kernel
theorem dX11_uses_27 : decode cX11_uses 27 = .ok (.aload_n 0, 1) := by decide +kernel
theorem dX11_uses_28 : decode cX11_uses 28 = .ok (.getfield 52, 3) := by decide +kernel
theorem dX11_uses_31 : decode cX11_uses 31 = .ok (.iload_n 1, 1) := by decide +kernel
theorem dX11_uses_32 : decode cX11_uses 32 = .ok (.invokevirtual 218, 3) := by decide +kernel
theorem dX11_uses_35 : decode cX11_uses 35 = .ok (.ifCond .eq 7, 3) := by decide +kernel
theorem dX11_uses_38 : decode cX11_uses 38 = .ok (.iconst 2, 1) := by decide +kernel
theorem dX11_uses_39 : decode cX11_uses 39 = .ok (.goto 4, 3) := by decide +kernel
theorem dX11_uses_42 : decode cX11_uses 42 = .ok (.iconst 0, 1) := by decide +kernel
theorem dX11_uses_43 : decode cX11_uses 43 = .ok (.iadd, 1) := by decide +kernel
theorem dX11_uses_44 : decode cX11_uses 44 = .ok (.ireturn, 1) := by decide +kernel
theorem dX11_shortest_0 : decode cX11_shortest 0 = .ok (.iload_n 1, 1) := by decide +kernel
theorem dX11_shortest_1 : decode cX11_shortest 1 = .ok (.invokestatic 200, 3) := by decide +kernel
theorem dX11_shortest_4 : decode cX11_shortest 4 = .ok (.aload_n 0, 1) := by decide +kernel
theorem dX11_shortest_5 : decode cX11_shortest 5 = .ok (.getfield 52, 3) := by decide +kernel
theorem dX11_shortest_8 : decode cX11_shortest 8 = .ok (.invokevirtual 203, 3) := by decide +kernel
theorem dX11_shortest_11 : decode cX11_shortest 11 = .ok (.aload_n 0, 1) := by decide +kernel
theorem dX11_shortest_12 : decode cX11_shortest 12 = .ok (.getfield 52, 3) := by decide +kernel
theorem dX11_shortest_15 : decode cX11_shortest 15 = .ok (.iload_n 1, 1) := by decide +kernel
theorem dX11_shortest_16 : decode cX11_shortest 16 = .ok (.invokevirtual 224, 3) := by decide +kernel
theorem dX11_shortest_19 : decode cX11_shortest 19 = .ok (.ireturn, 1) := by decide +kernel
theorem dX11_sentence_0 : decode cX11_sentence 0 = .ok (.iload_n 1, 1) := by decide +kernel
theorem dX11_sentence_1 : decode cX11_sentence 1 = .ok (.invokestatic 200, 3) := by decide +kernel
theorem dX11_sentence_4 : decode cX11_sentence 4 = .ok (.iload_n 2, 1) := by decide +kernel
theorem dX11_sentence_5 : decode cX11_sentence 5 = .ok (.ifCond .ge 13, 3) := by decide +kernel
theorem dX11_sentence_8 : decode cX11_sentence 8 = .ok (.new 151, 3) := by decide +kernel
theorem dX11_sentence_11 : decode cX11_sentence 11 = .ok (.dup, 1) := by decide +kernel
theorem dX11_sentence_12 : decode cX11_sentence 12 = .ok (.ldc 227, 2) := by decide +kernel
theorem dX11_sentence_14 : decode cX11_sentence 14 = .ok (.invokespecial 155, 3) := by decide +kernel
theorem dX11_sentence_17 : decode cX11_sentence 17 = .ok (.athrow, 1) := by decide +kernel
theorem dX11_sentence_18 : decode cX11_sentence 18 = .ok (.aload_n 0, 1) := by decide +kernel
theorem dX11_sentence_19 : decode cX11_sentence 19 = .ok (.getfield 52, 3) := by decide +kernel
theorem dX11_sentence_22 : decode cX11_sentence 22 = .ok (.invokevirtual 203, 3) := by decide +kernel
theorem dX11_sentence_25 : decode cX11_sentence 25 = .ok (.aload_n 0, 1) := by decide +kernel
theorem dX11_sentence_26 : decode cX11_sentence 26 = .ok (.getfield 52, 3) := by decide +kernel
theorem dX11_sentence_29 : decode cX11_sentence 29 = .ok (.iload_n 1, 1) := by decide +kernel
theorem dX11_sentence_30 : decode cX11_sentence 30 = .ok (.invokevirtual 224, 3) := by decide +kernel
theorem dX11_sentence_33 : decode cX11_sentence 33 = .ok (.istore_n 3, 1) := by decide +kernel
theorem dX11_sentence_34 : decode cX11_sentence 34 = .ok (.iload_n 3, 1) := by decide +kernel
theorem dX11_sentence_35 : decode cX11_sentence 35 = .ok (.iconst (-1), 1) := by decide +kernel
theorem dX11_sentence_36 : decode cX11_sentence 36 = .ok (.if_icmp .eq 14, 3) := by decide +kernel
theorem dX11_sentence_39 : decode cX11_sentence 39 = .ok (.iload_n 3, 1) := by decide +kernel
theorem dX11_sentence_40 : decode cX11_sentence 40 = .ok (.bipush 20, 2) := by decide +kernel
theorem dX11_sentence_42 : decode cX11_sentence 42 = .ok (.if_icmp .gt 8, 3) := by decide +kernel
theorem dX11_sentence_45 : decode cX11_sentence 45 = .ok (.iload_n 2, 1) := by decide +kernel
theorem dX11_sentence_46 : decode cX11_sentence 46 = .ok (.iload_n 3, 1) := by decide +kernel
theorem dX11_sentence_47 : decode cX11_sentence 47 = .ok (.if_icmp .lt 13, 3) := by decide +kernel
theorem dX11_sentence_50 : decode cX11_sentence 50 = .ok (.new 116, 3) := by decide +kernel
theorem dX11_sentence_53 : decode cX11_sentence 53 = .ok (.dup, 1) := by decide +kernel
theorem dX11_sentence_54 : decode cX11_sentence 54 = .ok (.ldc 229, 2) := by decide +kernel
theorem dX11_sentence_56 : decode cX11_sentence 56 = .ok (.invokespecial 120, 3) := by decide +kernel
theorem dX11_sentence_59 : decode cX11_sentence 59 = .ok (.athrow, 1) := by decide +kernel
theorem dX11_sentence_60 : decode cX11_sentence 60 = .ok (.aload_n 0, 1) := by decide +kernel
theorem dX11_sentence_61 : decode cX11_sentence 61 = .ok (.getfield 52, 3) := by decide +kernel
theorem dX11_sentence_64 : decode cX11_sentence 64 = .ok (.iload_n 1, 1) := by decide +kernel
theorem dX11_sentence_65 : decode cX11_sentence 65 = .ok (.iload_n 2, 1) := by decide +kernel
theorem dX11_sentence_66 : decode cX11_sentence 66 = .ok (.invokevirtual 231, 3) := by decide +kernel
theorem dX11_sentence_69 : decode cX11_sentence 69 = .ok (.ireturn, 1) := by decide +kernel
theorem dX11_size_0 : decode cX11_size 0 = .ok (.iload_n 1, 1) := by decide +kernel
theorem dX11_size_1 : decode cX11_size 1 = .ok (.invokestatic 234, 3) := by decide +kernel
theorem dX11_size_4 : decode cX11_size 4 = .ok (.aload_n 0, 1) := by decide +kernel
theorem dX11_size_5 : decode cX11_size 5 = .ok (.iload_n 1, 1) := by decide +kernel
theorem dX11_size_6 : decode cX11_size 6 = .ok (.invokevirtual 237, 3) := by decide +kernel
theorem dX11_size_9 : decode cX11_size 9 = .ok (.invokevirtual 241, 3) := by decide +kernel
theorem dX11_size_12 : decode cX11_size 12 = .ok (.ireturn, 1) := by decide +kernel
theorem dX11_conflicts_0 : decode cX11_conflicts 0 = .ok (.iload_n 1, 1) := by decide +kernel
theorem dX11_conflicts_1 : decode cX11_conflicts 1 = .ok (.invokestatic 234, 3) := by decide +kernel
theorem dX11_conflicts_4 : decode cX11_conflicts 4 = .ok (.aload_n 0, 1) := by decide +kernel
theorem dX11_conflicts_5 : decode cX11_conflicts 5 = .ok (.iload_n 1, 1) := by decide +kernel
theorem dX11_conflicts_6 : decode cX11_conflicts 6 = .ok (.invokevirtual 237, 3) := by decide +kernel
theorem dX11_conflicts_9 : decode cX11_conflicts 9 = .ok (.invokevirtual 246, 3) := by decide +kernel
theorem dX11_conflicts_12 : decode cX11_conflicts 12 = .ok (.ireturn, 1) := by decide +kernel
theorem dX11_settled_0 : decode cX11_settled 0 = .ok (.iload_n 1, 1) := by decide +kernel
theorem dX11_settled_1 : decode cX11_settled 1 = .ok (.invokestatic 234, 3) := by decide +kernel
theorem dX11_settled_4 : decode cX11_settled 4 = .ok (.aload_n 0, 1) := by decide +kernel
theorem dX11_settled_5 : decode cX11_settled 5 = .ok (.iload_n 1, 1) := by decide +kernel
theorem dX11_settled_6 : decode cX11_settled 6 = .ok (.invokevirtual 237, 3) := by decide +kernel
theorem dX11_settled_9 : decode cX11_settled 9 = .ok (.invokevirtual 249, 3) := by decide +kernel
theorem dX11_settled_12 : decode cX11_settled 12 = .ok (.ireturn, 1) := by decide +kernel
theorem dX11_chosen_0 : decode cX11_chosen 0 = .ok (.iconst 0, 1) := by decide +kernel
theorem dX11_chosen_1 : decode cX11_chosen 1 = .ok (.istore_n 1, 1) := by decide +kernel
theorem dX11_chosen_2 : decode cX11_chosen 2 = .ok (.iload_n 1, 1) := by decide +kernel
theorem dX11_chosen_3 : decode cX11_chosen 3 = .ok (.iconst 3, 1) := by decide +kernel
theorem dX11_chosen_4 : decode cX11_chosen 4 = .ok (.if_icmp .gt 37, 3) := by decide +kernel
theorem dX11_chosen_7 : decode cX11_chosen 7 = .ok (.aload_n 0, 1) := by decide +kernel
theorem dX11_chosen_8 : decode cX11_chosen 8 = .ok (.iload_n 1, 1) := by decide +kernel
theorem dX11_chosen_9 : decode cX11_chosen 9 = .ok (.invokevirtual 237, 3) := by decide +kernel
theorem dX11_chosen_12 : decode cX11_chosen 12 = .ok (.astore_n 2, 1) := by decide +kernel
theorem dX11_chosen_13 : decode cX11_chosen 13 = .ok (.aload_n 2, 1) := by decide +kernel
theorem dX11_chosen_14 : decode cX11_chosen 14 = .ok (.invokevirtual 241, 3) := by decide +kernel
theorem dX11_chosen_17 : decode cX11_chosen 17 = .ok (.bipush (-2), 2) := by decide +kernel
theorem dX11_chosen_19 : decode cX11_chosen 19 = .ok (.if_icmp .eq 16, 3) := by decide +kernel
theorem dX11_chosen_22 : decode cX11_chosen 22 = .ok (.aload_n 2, 1) := by decide +kernel
theorem dX11_chosen_23 : decode cX11_chosen 23 = .ok (.invokevirtual 246, 3) := by decide +kernel
theorem dX11_chosen_26 : decode cX11_chosen 26 = .ok (.aload_n 2, 1) := by decide +kernel
theorem dX11_chosen_27 : decode cX11_chosen 27 = .ok (.invokevirtual 249, 3) := by decide +kernel
theorem dX11_chosen_30 : decode cX11_chosen 30 = .ok (.if_icmp .ne 5, 3) := by decide +kernel
theorem dX11_chosen_33 : decode cX11_chosen 33 = .ok (.iload_n 1, 1) := by decide +kernel
theorem dX11_chosen_34 : decode cX11_chosen 34 = .ok (.ireturn, 1) := by decide +kernel
theorem dX11_chosen_35 : decode cX11_chosen 35 = .ok (.iinc 1 1, 3) := by decide +kernel
theorem dX11_chosen_38 : decode cX11_chosen 38 = .ok (.goto (-36), 3) := by decide +kernel
theorem dX11_chosen_41 : decode cX11_chosen 41 = .ok (.iconst (-1), 1) := by decide +kernel
theorem dX11_chosen_42 : decode cX11_chosen 42 = .ok (.ireturn, 1) := by decide +kernel
theorem dX11_put_0 : decode cX11_put 0 = .ok (.iload_n 1, 1) := by decide +kernel
theorem dX11_put_1 : decode cX11_put 1 = .ok (.ifCond .lt 18, 3) := by decide +kernel
theorem dX11_put_4 : decode cX11_put 4 = .ok (.iload_n 1, 1) := by decide +kernel
theorem dX11_put_5 : decode cX11_put 5 = .ok (.aload_n 0, 1) := by decide +kernel
theorem dX11_put_6 : decode cX11_put 6 = .ok (.getfield 252, 3) := by decide +kernel
theorem dX11_put_9 : decode cX11_put 9 = .ok (.if_icmp .gt 10, 3) := by decide +kernel
theorem dX11_put_12 : decode cX11_put 12 = .ok (.iload_n 2, 1) := by decide +kernel
theorem dX11_put_13 : decode cX11_put 13 = .ok (.invokestatic 180, 3) := by decide +kernel
theorem dX11_put_16 : decode cX11_put 16 = .ok (.ifCond .ne 13, 3) := by decide +kernel
theorem dX11_put_19 : decode cX11_put 19 = .ok (.new 151, 3) := by decide +kernel
theorem dX11_put_22 : decode cX11_put 22 = .ok (.dup, 1) := by decide +kernel
theorem dX11_put_23 : decode cX11_put 23 = .ok (.ldc 255, 2) := by decide +kernel
theorem dX11_put_25 : decode cX11_put 25 = .ok (.invokespecial 155, 3) := by decide +kernel
theorem dX11_put_28 : decode cX11_put 28 = .ok (.athrow, 1) := by decide +kernel
theorem dX11_put_29 : decode cX11_put 29 = .ok (.aload_n 0, 1) := by decide +kernel
theorem dX11_put_30 : decode cX11_put 30 = .ok (.getfield 252, 3) := by decide +kernel
theorem dX11_put_33 : decode cX11_put 33 = .ok (.bipush 12, 2) := by decide +kernel
theorem dX11_put_35 : decode cX11_put 35 = .ok (.if_icmp .lt 14, 3) := by decide +kernel
theorem dX11_put_38 : decode cX11_put 38 = .ok (.new 116, 3) := by decide +kernel
theorem dX11_put_41 : decode cX11_put 41 = .ok (.dup, 1) := by decide +kernel
theorem dX11_put_42 : decode cX11_put 42 = .ok (.ldc_w 257, 3) := by decide +kernel
theorem dX11_put_45 : decode cX11_put 45 = .ok (.invokespecial 120, 3) := by decide +kernel
theorem dX11_put_48 : decode cX11_put 48 = .ok (.athrow, 1) := by decide +kernel
theorem dX11_put_49 : decode cX11_put 49 = .ok (.aload_n 0, 1) := by decide +kernel
theorem dX11_put_50 : decode cX11_put 50 = .ok (.getfield 252, 3) := by decide +kernel
theorem dX11_put_53 : decode cX11_put 53 = .ok (.istore_n 3, 1) := by decide +kernel
theorem dX11_put_54 : decode cX11_put 54 = .ok (.iload_n 3, 1) := by decide +kernel
theorem dX11_put_55 : decode cX11_put 55 = .ok (.iload_n 1, 1) := by decide +kernel
theorem dX11_put_56 : decode cX11_put 56 = .ok (.if_icmp .le 23, 3) := by decide +kernel
theorem dX11_put_59 : decode cX11_put 59 = .ok (.aload_n 0, 1) := by decide +kernel
theorem dX11_put_60 : decode cX11_put 60 = .ok (.getfield 49, 3) := by decide +kernel
theorem dX11_put_63 : decode cX11_put 63 = .ok (.iload_n 3, 1) := by decide +kernel
theorem dX11_put_64 : decode cX11_put 64 = .ok (.aload_n 0, 1) := by decide +kernel
theorem dX11_put_65 : decode cX11_put 65 = .ok (.getfield 49, 3) := by decide +kernel
theorem dX11_put_68 : decode cX11_put 68 = .ok (.iload_n 3, 1) := by decide +kernel
theorem dX11_put_69 : decode cX11_put 69 = .ok (.iconst 1, 1) := by decide +kernel
theorem dX11_put_70 : decode cX11_put 70 = .ok (.isub, 1) := by decide +kernel
theorem dX11_put_71 : decode cX11_put 71 = .ok (.iaload, 1) := by decide +kernel
theorem dX11_put_72 : decode cX11_put 72 = .ok (.iastore, 1) := by decide +kernel
theorem dX11_put_73 : decode cX11_put 73 = .ok (.iinc 3 (-1), 3) := by decide +kernel
theorem dX11_put_76 : decode cX11_put 76 = .ok (.goto (-22), 3) := by decide +kernel
theorem dX11_put_79 : decode cX11_put 79 = .ok (.aload_n 0, 1) := by decide +kernel
theorem dX11_put_80 : decode cX11_put 80 = .ok (.getfield 49, 3) := by decide +kernel
theorem dX11_put_83 : decode cX11_put 83 = .ok (.iload_n 1, 1) := by decide +kernel
theorem dX11_put_84 : decode cX11_put 84 = .ok (.iload_n 2, 1) := by decide +kernel
theorem dX11_put_85 : decode cX11_put 85 = .ok (.iastore, 1) := by decide +kernel
theorem dX11_put_86 : decode cX11_put 86 = .ok (.aload_n 0, 1) := by decide +kernel
theorem dX11_put_87 : decode cX11_put 87 = .ok (.dup, 1) := by decide +kernel
theorem dX11_put_88 : decode cX11_put 88 = .ok (.getfield 252, 3) := by decide +kernel
theorem dX11_put_91 : decode cX11_put 91 = .ok (.iconst 1, 1) := by decide +kernel
theorem dX11_put_92 : decode cX11_put 92 = .ok (.iadd, 1) := by decide +kernel
theorem dX11_put_93 : decode cX11_put 93 = .ok (.putfield 252, 3) := by decide +kernel
theorem dX11_put_96 : decode cX11_put 96 = .ok (.aload_n 0, 1) := by decide +kernel
theorem dX11_put_97 : decode cX11_put 97 = .ok (.getfield 252, 3) := by decide +kernel
theorem dX11_put_100 : decode cX11_put 100 = .ok (.ireturn, 1) := by decide +kernel
theorem dX11_cut_0 : decode cX11_cut 0 = .ok (.iload_n 1, 1) := by decide +kernel
theorem dX11_cut_1 : decode cX11_cut 1 = .ok (.ifCond .lt 11, 3) := by decide +kernel
theorem dX11_cut_4 : decode cX11_cut 4 = .ok (.iload_n 1, 1) := by decide +kernel
theorem dX11_cut_5 : decode cX11_cut 5 = .ok (.aload_n 0, 1) := by decide +kernel
theorem dX11_cut_6 : decode cX11_cut 6 = .ok (.getfield 252, 3) := by decide +kernel
theorem dX11_cut_9 : decode cX11_cut 9 = .ok (.if_icmp .lt 13, 3) := by decide +kernel
theorem dX11_cut_12 : decode cX11_cut 12 = .ok (.new 151, 3) := by decide +kernel
theorem dX11_cut_15 : decode cX11_cut 15 = .ok (.dup, 1) := by decide +kernel
theorem dX11_cut_16 : decode cX11_cut 16 = .ok (.ldc 227, 2) := by decide +kernel
theorem dX11_cut_18 : decode cX11_cut 18 = .ok (.invokespecial 155, 3) := by decide +kernel
theorem dX11_cut_21 : decode cX11_cut 21 = .ok (.athrow, 1) := by decide +kernel
theorem dX11_cut_22 : decode cX11_cut 22 = .ok (.aload_n 0, 1) := by decide +kernel
theorem dX11_cut_23 : decode cX11_cut 23 = .ok (.getfield 49, 3) := by decide +kernel
theorem dX11_cut_26 : decode cX11_cut 26 = .ok (.iload_n 1, 1) := by decide +kernel
theorem dX11_cut_27 : decode cX11_cut 27 = .ok (.iaload, 1) := by decide +kernel
theorem dX11_cut_28 : decode cX11_cut 28 = .ok (.istore_n 2, 1) := by decide +kernel
theorem dX11_cut_29 : decode cX11_cut 29 = .ok (.iload_n 1, 1) := by decide +kernel
theorem dX11_cut_30 : decode cX11_cut 30 = .ok (.istore_n 3, 1) := by decide +kernel
theorem dX11_cut_31 : decode cX11_cut 31 = .ok (.iload_n 3, 1) := by decide +kernel
theorem dX11_cut_32 : decode cX11_cut 32 = .ok (.iconst 1, 1) := by decide +kernel
theorem dX11_cut_33 : decode cX11_cut 33 = .ok (.iadd, 1) := by decide +kernel
theorem dX11_cut_34 : decode cX11_cut 34 = .ok (.bipush 13, 2) := by decide +kernel
theorem dX11_cut_36 : decode cX11_cut 36 = .ok (.if_icmp .ge 23, 3) := by decide +kernel
theorem dX11_cut_39 : decode cX11_cut 39 = .ok (.aload_n 0, 1) := by decide +kernel
theorem dX11_cut_40 : decode cX11_cut 40 = .ok (.getfield 49, 3) := by decide +kernel
theorem dX11_cut_43 : decode cX11_cut 43 = .ok (.iload_n 3, 1) := by decide +kernel
theorem dX11_cut_44 : decode cX11_cut 44 = .ok (.aload_n 0, 1) := by decide +kernel
theorem dX11_cut_45 : decode cX11_cut 45 = .ok (.getfield 49, 3) := by decide +kernel
theorem dX11_cut_48 : decode cX11_cut 48 = .ok (.iload_n 3, 1) := by decide +kernel
theorem dX11_cut_49 : decode cX11_cut 49 = .ok (.iconst 1, 1) := by decide +kernel
theorem dX11_cut_50 : decode cX11_cut 50 = .ok (.iadd, 1) := by decide +kernel
theorem dX11_cut_51 : decode cX11_cut 51 = .ok (.iaload, 1) := by decide +kernel
theorem dX11_cut_52 : decode cX11_cut 52 = .ok (.iastore, 1) := by decide +kernel
theorem dX11_cut_53 : decode cX11_cut 53 = .ok (.iinc 3 1, 3) := by decide +kernel
theorem dX11_cut_56 : decode cX11_cut 56 = .ok (.goto (-25), 3) := by decide +kernel
theorem dX11_cut_59 : decode cX11_cut 59 = .ok (.aload_n 0, 1) := by decide +kernel
theorem dX11_cut_60 : decode cX11_cut 60 = .ok (.dup, 1) := by decide +kernel
theorem dX11_cut_61 : decode cX11_cut 61 = .ok (.getfield 252, 3) := by decide +kernel
theorem dX11_cut_64 : decode cX11_cut 64 = .ok (.iconst 1, 1) := by decide +kernel
theorem dX11_cut_65 : decode cX11_cut 65 = .ok (.isub, 1) := by decide +kernel
theorem dX11_cut_66 : decode cX11_cut 66 = .ok (.putfield 252, 3) := by decide +kernel
theorem dX11_cut_69 : decode cX11_cut 69 = .ok (.iload_n 2, 1) := by decide +kernel
theorem dX11_cut_70 : decode cX11_cut 70 = .ok (.ireturn, 1) := by decide +kernel
theorem dX11_parse_0 : decode cX11_parse 0 = .ok (.iload_n 1, 1) := by decide +kernel
theorem dX11_parse_1 : decode cX11_parse 1 = .ok (.invokestatic 234, 3) := by decide +kernel
theorem dX11_parse_4 : decode cX11_parse 4 = .ok (.aload_n 0, 1) := by decide +kernel
theorem dX11_parse_5 : decode cX11_parse 5 = .ok (.iload_n 1, 1) := by decide +kernel
theorem dX11_parse_6 : decode cX11_parse 6 = .ok (.invokevirtual 237, 3) := by decide +kernel
theorem dX11_parse_9 : decode cX11_parse 9 = .ok (.invokevirtual 259, 3) := by decide +kernel
theorem dX11_parse_12 : decode cX11_parse 12 = .ok (.ireturn, 1) := by decide +kernel
theorem dX11_value_0 : decode cX11_value 0 = .ok (.iload_n 1, 1) := by decide +kernel
theorem dX11_value_1 : decode cX11_value 1 = .ok (.invokestatic 234, 3) := by decide +kernel
theorem dX11_value_4 : decode cX11_value 4 = .ok (.aload_n 0, 1) := by decide +kernel
theorem dX11_value_5 : decode cX11_value 5 = .ok (.iload_n 1, 1) := by decide +kernel
theorem dX11_value_6 : decode cX11_value 6 = .ok (.invokevirtual 237, 3) := by decide +kernel
theorem dX11_value_9 : decode cX11_value 9 = .ok (.astore_n 2, 1) := by decide +kernel
theorem dX11_value_10 : decode cX11_value 10 = .ok (.aload_n 2, 1) := by decide +kernel
theorem dX11_value_11 : decode cX11_value 11 = .ok (.invokevirtual 259, 3) := by decide +kernel
theorem dX11_value_14 : decode cX11_value 14 = .ok (.iconst (-1), 1) := by decide +kernel
theorem dX11_value_15 : decode cX11_value 15 = .ok (.if_icmp .eq 14, 3) := by decide +kernel
theorem dX11_value_18 : decode cX11_value 18 = .ok (.new 116, 3) := by decide +kernel
theorem dX11_value_21 : decode cX11_value 21 = .ok (.dup, 1) := by decide +kernel
theorem dX11_value_22 : decode cX11_value 22 = .ok (.ldc_w 262, 3) := by decide +kernel
theorem dX11_value_25 : decode cX11_value 25 = .ok (.invokespecial 120, 3) := by decide +kernel
theorem dX11_value_28 : decode cX11_value 28 = .ok (.athrow, 1) := by decide +kernel
theorem dX11_value_29 : decode cX11_value 29 = .ok (.aload_n 2, 1) := by decide +kernel
theorem dX11_value_30 : decode cX11_value 30 = .ok (.invokevirtual 264, 3) := by decide +kernel
theorem dX11_value_33 : decode cX11_value 33 = .ok (.ireturn, 1) := by decide +kernel
theorem dX11_readings_0 : decode cX11_readings 0 = .ok (.aload_n 0, 1) := by decide +kernel
theorem dX11_readings_1 : decode cX11_readings 1 = .ok (.getfield 52, 3) := by decide +kernel
theorem dX11_readings_4 : decode cX11_readings 4 = .ok (.invokevirtual 203, 3) := by decide +kernel
theorem dX11_readings_7 : decode cX11_readings 7 = .ok (.aload_n 0, 1) := by decide +kernel
theorem dX11_readings_8 : decode cX11_readings 8 = .ok (.getfield 91, 3) := by decide +kernel
theorem dX11_readings_11 : decode cX11_readings 11 = .ok (.aload_n 0, 1) := by decide +kernel
theorem dX11_readings_12 : decode cX11_readings 12 = .ok (.getfield 252, 3) := by decide +kernel
theorem dX11_readings_15 : decode cX11_readings 15 = .ok (.invokevirtual 267, 3) := by decide +kernel
theorem dX11_readings_18 : decode cX11_readings 18 = .ok (.ireturn, 1) := by decide +kernel
theorem dX11_repair_0 : decode cX11_repair 0 = .ok (.aload_n 0, 1) := by decide +kernel
theorem dX11_repair_1 : decode cX11_repair 1 = .ok (.getfield 52, 3) := by decide +kernel
theorem dX11_repair_4 : decode cX11_repair 4 = .ok (.invokevirtual 203, 3) := by decide +kernel
theorem dX11_repair_7 : decode cX11_repair 7 = .ok (.aload_n 0, 1) := by decide +kernel
theorem dX11_repair_8 : decode cX11_repair 8 = .ok (.getfield 52, 3) := by decide +kernel
theorem dX11_repair_11 : decode cX11_repair 11 = .ok (.aload_n 0, 1) := by decide +kernel
theorem dX11_repair_12 : decode cX11_repair 12 = .ok (.getfield 35, 3) := by decide +kernel
theorem dX11_repair_15 : decode cX11_repair 15 = .ok (.invokevirtual 173, 3) := by decide +kernel
theorem dX11_repair_18 : decode cX11_repair 18 = .ok (.invokevirtual 215, 3) := by decide +kernel
theorem dX11_repair_21 : decode cX11_repair 21 = .ok (.ifCond .ne 5, 3) := by decide +kernel
theorem dX11_repair_24 : decode cX11_repair 24 = .ok (.iconst (-1), 1) := by decide +kernel
theorem dX11_repair_25 : decode cX11_repair 25 = .ok (.ireturn, 1) := by decide +kernel
theorem dX11_repair_26 : decode cX11_repair 26 = .ok (.aload_n 0, 1) := by decide +kernel
theorem dX11_repair_27 : decode cX11_repair 27 = .ok (.getfield 98, 3) := by decide +kernel
theorem dX11_repair_30 : decode cX11_repair 30 = .ok (.aload_n 0, 1) := by decide +kernel
theorem dX11_repair_31 : decode cX11_repair 31 = .ok (.getfield 252, 3) := by decide +kernel
theorem dX11_repair_34 : decode cX11_repair 34 = .ok (.invokevirtual 267, 3) := by decide +kernel
theorem dX11_repair_37 : decode cX11_repair 37 = .ok (.ireturn, 1) := by decide +kernel
theorem dX11_forget_0 : decode cX11_forget 0 = .ok (.aload_n 0, 1) := by decide +kernel
theorem dX11_forget_1 : decode cX11_forget 1 = .ok (.getfield 52, 3) := by decide +kernel
theorem dX11_forget_4 : decode cX11_forget 4 = .ok (.aload_n 0, 1) := by decide +kernel
theorem dX11_forget_5 : decode cX11_forget 5 = .ok (.getfield 35, 3) := by decide +kernel
theorem dX11_forget_8 : decode cX11_forget 8 = .ok (.invokevirtual 272, 3) := by decide +kernel
theorem dX11_forget_11 : decode cX11_forget 11 = .ok (.aload_n 0, 1) := by decide +kernel
theorem dX11_forget_12 : decode cX11_forget 12 = .ok (.getfield 56, 3) := by decide +kernel
theorem dX11_forget_15 : decode cX11_forget 15 = .ok (.invokevirtual 274, 3) := by decide +kernel
theorem dX11_forget_18 : decode cX11_forget 18 = .ok (.aload_n 0, 1) := by decide +kernel
theorem dX11_forget_19 : decode cX11_forget 19 = .ok (.getfield 60, 3) := by decide +kernel
theorem dX11_forget_22 : decode cX11_forget 22 = .ok (.invokevirtual 274, 3) := by decide +kernel
theorem dX11_forget_25 : decode cX11_forget 25 = .ok (.return_, 1) := by decide +kernel
theorem dX11_table_0 : decode cX11_table 0 = .ok (.aload_n 0, 1) := by decide +kernel
theorem dX11_table_1 : decode cX11_table 1 = .ok (.getfield 52, 3) := by decide +kernel
theorem dX11_table_4 : decode cX11_table 4 = .ok (.invokevirtual 203, 3) := by decide +kernel
theorem dX11_table_7 : decode cX11_table 7 = .ok (.iload_n 1, 1) := by decide +kernel
theorem dX11_table_8 : decode cX11_table 8 = .ok (.ifCond .ne 8, 3) := by decide +kernel
theorem dX11_table_11 : decode cX11_table 11 = .ok (.aload_n 0, 1) := by decide +kernel
theorem dX11_table_12 : decode cX11_table 12 = .ok (.getfield 68, 3) := by decide +kernel
theorem dX11_table_15 : decode cX11_table 15 = .ok (.areturn, 1) := by decide +kernel
theorem dX11_table_16 : decode cX11_table 16 = .ok (.iload_n 1, 1) := by decide +kernel
theorem dX11_table_17 : decode cX11_table 17 = .ok (.iconst 3, 1) := by decide +kernel
theorem dX11_table_18 : decode cX11_table 18 = .ok (.if_icmp .ne 15, 3) := by decide +kernel
theorem dX11_table_21 : decode cX11_table 21 = .ok (.aload_n 0, 1) := by decide +kernel
theorem dX11_table_22 : decode cX11_table 22 = .ok (.getfield 60, 3) := by decide +kernel
theorem dX11_table_25 : decode cX11_table 25 = .ok (.invokevirtual 275, 3) := by decide +kernel
theorem dX11_table_28 : decode cX11_table 28 = .ok (.aload_n 0, 1) := by decide +kernel
theorem dX11_table_29 : decode cX11_table 29 = .ok (.getfield 83, 3) := by decide +kernel
theorem dX11_table_32 : decode cX11_table 32 = .ok (.areturn, 1) := by decide +kernel
theorem dX11_table_33 : decode cX11_table 33 = .ok (.aload_n 0, 1) := by decide +kernel
theorem dX11_table_34 : decode cX11_table 34 = .ok (.getfield 56, 3) := by decide +kernel
theorem dX11_table_37 : decode cX11_table 37 = .ok (.invokevirtual 275, 3) := by decide +kernel
theorem dX11_table_40 : decode cX11_table 40 = .ok (.iload_n 1, 1) := by decide +kernel
theorem dX11_table_41 : decode cX11_table 41 = .ok (.iconst 1, 1) := by decide +kernel
theorem dX11_table_42 : decode cX11_table 42 = .ok (.if_icmp .ne 10, 3) := by decide +kernel
theorem dX11_table_45 : decode cX11_table 45 = .ok (.aload_n 0, 1) := by decide +kernel
theorem dX11_table_46 : decode cX11_table 46 = .ok (.getfield 77, 3) := by decide +kernel
theorem dX11_table_49 : decode cX11_table 49 = .ok (.goto 7, 3) := by decide +kernel
theorem dX11_table_52 : decode cX11_table 52 = .ok (.aload_n 0, 1) := by decide +kernel
theorem dX11_table_53 : decode cX11_table 53 = .ok (.getfield 80, 3) := by decide +kernel
theorem dX11_table_56 : decode cX11_table 56 = .ok (.areturn, 1) := by decide +kernel
theorem dX11_requireNonterminal_0 : decode cX11_requireNonterminal 0 = .ok (.iload_n 0, 1) := by decide +kernel
theorem dX11_requireNonterminal_1 : decode cX11_requireNonterminal 1 = .ok (.ifCond .lt 9, 3) := by decide +kernel
theorem dX11_requireNonterminal_4 : decode cX11_requireNonterminal 4 = .ok (.iload_n 0, 1) := by decide +kernel
theorem dX11_requireNonterminal_5 : decode cX11_requireNonterminal 5 = .ok (.bipush 16, 2) := by decide +kernel
theorem dX11_requireNonterminal_7 : decode cX11_requireNonterminal 7 = .ok (.if_icmp .lt 13, 3) := by decide +kernel
theorem dX11_requireNonterminal_10 : decode cX11_requireNonterminal 10 = .ok (.new 151, 3) := by decide +kernel
theorem dX11_requireNonterminal_13 : decode cX11_requireNonterminal 13 = .ok (.dup, 1) := by decide +kernel
theorem dX11_requireNonterminal_14 : decode cX11_requireNonterminal 14 = .ok (.ldc 171, 2) := by decide +kernel
theorem dX11_requireNonterminal_16 : decode cX11_requireNonterminal 16 = .ok (.invokespecial 155, 3) := by decide +kernel
theorem dX11_requireNonterminal_19 : decode cX11_requireNonterminal 19 = .ok (.athrow, 1) := by decide +kernel
theorem dX11_requireNonterminal_20 : decode cX11_requireNonterminal 20 = .ok (.return_, 1) := by decide +kernel
theorem dX11_requireKind_0 : decode cX11_requireKind 0 = .ok (.iload_n 0, 1) := by decide +kernel
theorem dX11_requireKind_1 : decode cX11_requireKind 1 = .ok (.ifCond .lt 8, 3) := by decide +kernel
theorem dX11_requireKind_4 : decode cX11_requireKind 4 = .ok (.iload_n 0, 1) := by decide +kernel
theorem dX11_requireKind_5 : decode cX11_requireKind 5 = .ok (.iconst 3, 1) := by decide +kernel
theorem dX11_requireKind_6 : decode cX11_requireKind 6 = .ok (.if_icmp .le 14, 3) := by decide +kernel
theorem dX11_requireKind_9 : decode cX11_requireKind 9 = .ok (.new 151, 3) := by decide +kernel
theorem dX11_requireKind_12 : decode cX11_requireKind 12 = .ok (.dup, 1) := by decide +kernel
theorem dX11_requireKind_13 : decode cX11_requireKind 13 = .ok (.ldc_w 278, 3) := by decide +kernel
theorem dX11_requireKind_16 : decode cX11_requireKind 16 = .ok (.invokespecial 155, 3) := by decide +kernel
theorem dX11_requireKind_19 : decode cX11_requireKind 19 = .ok (.athrow, 1) := by decide +kernel
theorem dX11_requireKind_20 : decode cX11_requireKind 20 = .ok (.return_, 1) := by decide +kernel
theorem dX11_isTerminal_0 : decode cX11_isTerminal 0 = .ok (.iload_n 0, 1) := by decide +kernel
theorem dX11_isTerminal_1 : decode cX11_isTerminal 1 = .ok (.ifCond .lt 13, 3) := by decide +kernel
theorem dX11_isTerminal_4 : decode cX11_isTerminal 4 = .ok (.iload_n 0, 1) := by decide +kernel
theorem dX11_isTerminal_5 : decode cX11_isTerminal 5 = .ok (.bipush 8, 2) := by decide +kernel
theorem dX11_isTerminal_7 : decode cX11_isTerminal 7 = .ok (.if_icmp .ge 7, 3) := by decide +kernel
theorem dX11_isTerminal_10 : decode cX11_isTerminal 10 = .ok (.iconst 1, 1) := by decide +kernel
theorem dX11_isTerminal_11 : decode cX11_isTerminal 11 = .ok (.goto 4, 3) := by decide +kernel
theorem dX11_isTerminal_14 : decode cX11_isTerminal 14 = .ok (.iconst 0, 1) := by decide +kernel
theorem dX11_isTerminal_15 : decode cX11_isTerminal 15 = .ok (.ireturn, 1) := by decide +kernel
theorem dX11_isNonterminal_0 : decode cX11_isNonterminal 0 = .ok (.iload_n 0, 1) := by decide +kernel
theorem dX11_isNonterminal_1 : decode cX11_isNonterminal 1 = .ok (.bipush 16, 2) := by decide +kernel
theorem dX11_isNonterminal_3 : decode cX11_isNonterminal 3 = .ok (.if_icmp .lt 13, 3) := by decide +kernel
theorem dX11_isNonterminal_6 : decode cX11_isNonterminal 6 = .ok (.iload_n 0, 1) := by decide +kernel
theorem dX11_isNonterminal_7 : decode cX11_isNonterminal 7 = .ok (.bipush 32, 2) := by decide +kernel
theorem dX11_isNonterminal_9 : decode cX11_isNonterminal 9 = .ok (.if_icmp .ge 7, 3) := by decide +kernel
theorem dX11_isNonterminal_12 : decode cX11_isNonterminal 12 = .ok (.iconst 1, 1) := by decide +kernel
theorem dX11_isNonterminal_13 : decode cX11_isNonterminal 13 = .ok (.goto 4, 3) := by decide +kernel
theorem dX11_isNonterminal_16 : decode cX11_isNonterminal 16 = .ok (.iconst 0, 1) := by decide +kernel
theorem dX11_isNonterminal_17 : decode cX11_isNonterminal 17 = .ok (.ireturn, 1) := by decide +kernel
theorem dX11_isTerminalLetter_0 : decode cX11_isTerminalLetter 0 = .ok (.iload_n 0, 1) := by decide +kernel
theorem dX11_isTerminalLetter_1 : decode cX11_isTerminalLetter 1 = .ok (.bipush 97, 2) := by decide +kernel
theorem dX11_isTerminalLetter_3 : decode cX11_isTerminalLetter 3 = .ok (.if_icmp .lt 13, 3) := by decide +kernel
theorem dX11_isTerminalLetter_6 : decode cX11_isTerminalLetter 6 = .ok (.iload_n 0, 1) := by decide +kernel
theorem dX11_isTerminalLetter_7 : decode cX11_isTerminalLetter 7 = .ok (.bipush 104, 2) := by decide +kernel
theorem dX11_isTerminalLetter_9 : decode cX11_isTerminalLetter 9 = .ok (.if_icmp .gt 7, 3) := by decide +kernel
theorem dX11_isTerminalLetter_12 : decode cX11_isTerminalLetter 12 = .ok (.iconst 1, 1) := by decide +kernel
theorem dX11_isTerminalLetter_13 : decode cX11_isTerminalLetter 13 = .ok (.goto 4, 3) := by decide +kernel
theorem dX11_isTerminalLetter_16 : decode cX11_isTerminalLetter 16 = .ok (.iconst 0, 1) := by decide +kernel
theorem dX11_isTerminalLetter_17 : decode cX11_isTerminalLetter 17 = .ok (.ireturn, 1) := by decide +kernel
theorem dX11_isNonterminalLetter_0 : decode cX11_isNonterminalLetter 0 = .ok (.iload_n 0, 1) := by decide +kernel
theorem dX11_isNonterminalLetter_1 : decode cX11_isNonterminalLetter 1 = .ok (.bipush 65, 2) := by decide +kernel
theorem dX11_isNonterminalLetter_3 : decode cX11_isNonterminalLetter 3 = .ok (.if_icmp .lt 13, 3) := by decide +kernel
theorem dX11_isNonterminalLetter_6 : decode cX11_isNonterminalLetter 6 = .ok (.iload_n 0, 1) := by decide +kernel
theorem dX11_isNonterminalLetter_7 : decode cX11_isNonterminalLetter 7 = .ok (.bipush 72, 2) := by decide +kernel
theorem dX11_isNonterminalLetter_9 : decode cX11_isNonterminalLetter 9 = .ok (.if_icmp .gt 7, 3) := by decide +kernel
theorem dX11_isNonterminalLetter_12 : decode cX11_isNonterminalLetter 12 = .ok (.iconst 1, 1) := by decide +kernel
theorem dX11_isNonterminalLetter_13 : decode cX11_isNonterminalLetter 13 = .ok (.goto 4, 3) := by decide +kernel
theorem dX11_isNonterminalLetter_16 : decode cX11_isNonterminalLetter 16 = .ok (.iconst 0, 1) := by decide +kernel
theorem dX11_isNonterminalLetter_17 : decode cX11_isNonterminalLetter 17 = .ok (.ireturn, 1) := by decide +kernel
theorem dX11_isRepeat_0 : decode cX11_isRepeat 0 = .ok (.iload_n 0, 1) := by decide +kernel
theorem dX11_isRepeat_1 : decode cX11_isRepeat 1 = .ok (.bipush 63, 2) := by decide +kernel
theorem dX11_isRepeat_3 : decode cX11_isRepeat 3 = .ok (.if_icmp .eq 15, 3) := by decide +kernel
theorem dX11_isRepeat_6 : decode cX11_isRepeat 6 = .ok (.iload_n 0, 1) := by decide +kernel
theorem dX11_isRepeat_7 : decode cX11_isRepeat 7 = .ok (.bipush 42, 2) := by decide +kernel
theorem dX11_isRepeat_9 : decode cX11_isRepeat 9 = .ok (.if_icmp .eq 9, 3) := by decide +kernel
theorem dX11_isRepeat_12 : decode cX11_isRepeat 12 = .ok (.iload_n 0, 1) := by decide +kernel
theorem dX11_isRepeat_13 : decode cX11_isRepeat 13 = .ok (.bipush 43, 2) := by decide +kernel
theorem dX11_isRepeat_15 : decode cX11_isRepeat 15 = .ok (.if_icmp .ne 7, 3) := by decide +kernel
theorem dX11_isRepeat_18 : decode cX11_isRepeat 18 = .ok (.iconst 1, 1) := by decide +kernel
theorem dX11_isRepeat_19 : decode cX11_isRepeat 19 = .ok (.goto 4, 3) := by decide +kernel
theorem dX11_isRepeat_22 : decode cX11_isRepeat 22 = .ok (.iconst 0, 1) := by decide +kernel
theorem dX11_isRepeat_23 : decode cX11_isRepeat 23 = .ok (.ireturn, 1) := by decide +kernel
theorem dX11_isLetter_0 : decode cX11_isLetter 0 = .ok (.iload_n 0, 1) := by decide +kernel
theorem dX11_isLetter_1 : decode cX11_isLetter 1 = .ok (.invokestatic 280, 3) := by decide +kernel
theorem dX11_isLetter_4 : decode cX11_isLetter 4 = .ok (.ifCond .ne 47, 3) := by decide +kernel
theorem dX11_isLetter_7 : decode cX11_isLetter 7 = .ok (.iload_n 0, 1) := by decide +kernel
theorem dX11_isLetter_8 : decode cX11_isLetter 8 = .ok (.invokestatic 283, 3) := by decide +kernel
theorem dX11_isLetter_11 : decode cX11_isLetter 11 = .ok (.ifCond .ne 40, 3) := by decide +kernel
theorem dX11_isLetter_14 : decode cX11_isLetter 14 = .ok (.iload_n 0, 1) := by decide +kernel
theorem dX11_isLetter_15 : decode cX11_isLetter 15 = .ok (.invokestatic 286, 3) := by decide +kernel
theorem dX11_isLetter_18 : decode cX11_isLetter 18 = .ok (.ifCond .ne 33, 3) := by decide +kernel
theorem dX11_isLetter_21 : decode cX11_isLetter 21 = .ok (.iload_n 0, 1) := by decide +kernel
theorem dX11_isLetter_22 : decode cX11_isLetter 22 = .ok (.bipush 58, 2) := by decide +kernel
theorem dX11_isLetter_24 : decode cX11_isLetter 24 = .ok (.if_icmp .eq 27, 3) := by decide +kernel
theorem dX11_isLetter_27 : decode cX11_isLetter 27 = .ok (.iload_n 0, 1) := by decide +kernel
theorem dX11_isLetter_28 : decode cX11_isLetter 28 = .ok (.bipush 124, 2) := by decide +kernel
theorem dX11_isLetter_30 : decode cX11_isLetter 30 = .ok (.if_icmp .eq 21, 3) := by decide +kernel
theorem dX11_isLetter_33 : decode cX11_isLetter 33 = .ok (.iload_n 0, 1) := by decide +kernel
theorem dX11_isLetter_34 : decode cX11_isLetter 34 = .ok (.bipush 40, 2) := by decide +kernel
theorem dX11_isLetter_36 : decode cX11_isLetter 36 = .ok (.if_icmp .eq 15, 3) := by decide +kernel
theorem dX11_isLetter_39 : decode cX11_isLetter 39 = .ok (.iload_n 0, 1) := by decide +kernel
theorem dX11_isLetter_40 : decode cX11_isLetter 40 = .ok (.bipush 41, 2) := by decide +kernel
theorem dX11_isLetter_42 : decode cX11_isLetter 42 = .ok (.if_icmp .eq 9, 3) := by decide +kernel
theorem dX11_isLetter_45 : decode cX11_isLetter 45 = .ok (.iload_n 0, 1) := by decide +kernel
theorem dX11_isLetter_46 : decode cX11_isLetter 46 = .ok (.bipush 37, 2) := by decide +kernel
theorem dX11_isLetter_48 : decode cX11_isLetter 48 = .ok (.if_icmp .ne 7, 3) := by decide +kernel
theorem dX11_isLetter_51 : decode cX11_isLetter 51 = .ok (.iconst 1, 1) := by decide +kernel
theorem dX11_isLetter_52 : decode cX11_isLetter 52 = .ok (.goto 4, 3) := by decide +kernel
theorem dX11_isLetter_55 : decode cX11_isLetter 55 = .ok (.iconst 0, 1) := by decide +kernel
theorem dX11_isLetter_56 : decode cX11_isLetter 56 = .ok (.ireturn, 1) := by decide +kernel
theorem dX11_has_0 : decode cX11_has 0 = .ok (.iload_n 0, 1) := by decide +kernel
theorem dX11_has_1 : decode cX11_has 1 = .ok (.iload_n 1, 1) := by decide +kernel
theorem dX11_has_2 : decode cX11_has 2 = .ok (.ishr, 1) := by decide +kernel
theorem dX11_has_3 : decode cX11_has 3 = .ok (.iconst 1, 1) := by decide +kernel
theorem dX11_has_4 : decode cX11_has 4 = .ok (.iand, 1) := by decide +kernel
theorem dX11_has_5 : decode cX11_has 5 = .ok (.ifCond .eq 7, 3) := by decide +kernel
theorem dX11_has_8 : decode cX11_has 8 = .ok (.iconst 1, 1) := by decide +kernel
theorem dX11_has_9 : decode cX11_has 9 = .ok (.goto 4, 3) := by decide +kernel
theorem dX11_has_12 : decode cX11_has 12 = .ok (.iconst 0, 1) := by decide +kernel
theorem dX11_has_13 : decode cX11_has 13 = .ok (.ireturn, 1) := by decide +kernel
theorem dX11_behindOf_0 : decode cX11_behindOf 0 = .ok (.iload_n 0, 1) := by decide +kernel
theorem dX11_behindOf_1 : decode cX11_behindOf 1 = .ok (.sipush 255, 3) := by decide +kernel
theorem dX11_behindOf_4 : decode cX11_behindOf 4 = .ok (.iand, 1) := by decide +kernel
theorem dX11_behindOf_5 : decode cX11_behindOf 5 = .ok (.istore_n 2, 1) := by decide +kernel
theorem dX11_behindOf_6 : decode cX11_behindOf 6 = .ok (.iload_n 0, 1) := by decide +kernel
theorem dX11_behindOf_7 : decode cX11_behindOf 7 = .ok (.sipush 512, 3) := by decide +kernel
theorem dX11_behindOf_10 : decode cX11_behindOf 10 = .ok (.iand, 1) := by decide +kernel
theorem dX11_behindOf_11 : decode cX11_behindOf 11 = .ok (.ifCond .eq 9, 3) := by decide +kernel
theorem dX11_behindOf_14 : decode cX11_behindOf 14 = .ok (.iload_n 2, 1) := by decide +kernel
theorem dX11_behindOf_15 : decode cX11_behindOf 15 = .ok (.iload_n 1, 1) := by decide +kernel
theorem dX11_behindOf_16 : decode cX11_behindOf 16 = .ok (.ior, 1) := by decide +kernel
theorem dX11_behindOf_17 : decode cX11_behindOf 17 = .ok (.goto 4, 3) := by decide +kernel
theorem dX11_behindOf_20 : decode cX11_behindOf 20 = .ok (.iload_n 2, 1) := by decide +kernel
theorem dX11_behindOf_21 : decode cX11_behindOf 21 = .ok (.ireturn, 1) := by decide +kernel
theorem dX11_lookAt_0 : decode cX11_lookAt 0 = .ok (.iload_n 1, 1) := by decide +kernel
theorem dX11_lookAt_1 : decode cX11_lookAt 1 = .ok (.ifCond .lt 15, 3) := by decide +kernel
theorem dX11_lookAt_4 : decode cX11_lookAt 4 = .ok (.iload_n 1, 1) := by decide +kernel
theorem dX11_lookAt_5 : decode cX11_lookAt 5 = .ok (.aload_n 0, 1) := by decide +kernel
theorem dX11_lookAt_6 : decode cX11_lookAt 6 = .ok (.arraylength, 1) := by decide +kernel
theorem dX11_lookAt_7 : decode cX11_lookAt 7 = .ok (.if_icmp .ge 9, 3) := by decide +kernel
theorem dX11_lookAt_10 : decode cX11_lookAt 10 = .ok (.aload_n 0, 1) := by decide +kernel
theorem dX11_lookAt_11 : decode cX11_lookAt 11 = .ok (.iload_n 1, 1) := by decide +kernel
theorem dX11_lookAt_12 : decode cX11_lookAt 12 = .ok (.iaload, 1) := by decide +kernel
theorem dX11_lookAt_13 : decode cX11_lookAt 13 = .ok (.goto 5, 3) := by decide +kernel
theorem dX11_lookAt_16 : decode cX11_lookAt 16 = .ok (.bipush 8, 2) := by decide +kernel
theorem dX11_lookAt_18 : decode cX11_lookAt 18 = .ok (.ireturn, 1) := by decide +kernel
theorem dJ9_min_7cf53_0 : decode cJ9_min_7cf53 0 = .ok (.iload_n 0, 1) := by decide +kernel
theorem dJ9_min_7cf53_1 : decode cJ9_min_7cf53 1 = .ok (.iload_n 1, 1) := by decide +kernel
theorem dJ9_min_7cf53_2 : decode cJ9_min_7cf53 2 = .ok (.if_icmp .gt 7, 3) := by decide +kernel
theorem dJ9_min_7cf53_5 : decode cJ9_min_7cf53 5 = .ok (.iload_n 0, 1) := by decide +kernel
theorem dJ9_min_7cf53_6 : decode cJ9_min_7cf53 6 = .ok (.goto 4, 3) := by decide +kernel
theorem dJ9_min_7cf53_9 : decode cJ9_min_7cf53 9 = .ok (.iload_n 1, 1) := by decide +kernel
theorem dJ9_min_7cf53_10 : decode cJ9_min_7cf53 10 = .ok (.ireturn, 1) := by decide +kernel
theorem dJ7_fill_53178_0 : decode cJ7_fill_53178 0 = .ok (.iconst 0, 1) := by decide +kernel
theorem dJ7_fill_53178_1 : decode cJ7_fill_53178 1 = .ok (.istore_n 2, 1) := by decide +kernel
theorem dJ7_fill_53178_2 : decode cJ7_fill_53178 2 = .ok (.aload_n 0, 1) := by decide +kernel
theorem dJ7_fill_53178_3 : decode cJ7_fill_53178 3 = .ok (.arraylength, 1) := by decide +kernel
theorem dJ7_fill_53178_4 : decode cJ7_fill_53178 4 = .ok (.istore_n 3, 1) := by decide +kernel
theorem dJ7_fill_53178_5 : decode cJ7_fill_53178 5 = .ok (.iload_n 2, 1) := by decide +kernel
theorem dJ7_fill_53178_6 : decode cJ7_fill_53178 6 = .ok (.iload_n 3, 1) := by decide +kernel
theorem dJ7_fill_53178_7 : decode cJ7_fill_53178 7 = .ok (.if_icmp .ge 13, 3) := by decide +kernel
theorem dJ7_fill_53178_10 : decode cJ7_fill_53178 10 = .ok (.aload_n 0, 1) := by decide +kernel
theorem dJ7_fill_53178_11 : decode cJ7_fill_53178 11 = .ok (.iload_n 2, 1) := by decide +kernel
theorem dJ7_fill_53178_12 : decode cJ7_fill_53178 12 = .ok (.iload_n 1, 1) := by decide +kernel
theorem dJ7_fill_53178_13 : decode cJ7_fill_53178 13 = .ok (.iastore, 1) := by decide +kernel
theorem dJ7_fill_53178_14 : decode cJ7_fill_53178 14 = .ok (.iinc 2 1, 3) := by decide +kernel
theorem dJ7_fill_53178_17 : decode cJ7_fill_53178 17 = .ok (.goto (-12), 3) := by decide +kernel
theorem dJ7_fill_53178_20 : decode cJ7_fill_53178 20 = .ok (.return_, 1) := by decide +kernel
theorem dL_cell_0 : decode cL_cell 0 = .ok (.iload_n 1, 1) := by decide +kernel
theorem dL_cell_1 : decode cL_cell 1 = .ok (.aload_n 0, 1) := by decide +kernel
theorem dL_cell_2 : decode cL_cell 2 = .ok (.arraylength, 1) := by decide +kernel
theorem dL_cell_3 : decode cL_cell 3 = .ok (.if_icmp .ge 9, 3) := by decide +kernel
theorem dL_cell_6 : decode cL_cell 6 = .ok (.aload_n 0, 1) := by decide +kernel
theorem dL_cell_7 : decode cL_cell 7 = .ok (.iload_n 1, 1) := by decide +kernel
theorem dL_cell_8 : decode cL_cell 8 = .ok (.iaload, 1) := by decide +kernel
theorem dL_cell_9 : decode cL_cell 9 = .ok (.goto 15, 3) := by decide +kernel
theorem dL_cell_12 : decode cL_cell 12 = .ok (.ldc 7, 2) := by decide +kernel
theorem dL_cell_14 : decode cL_cell 14 = .ok (.iload_n 1, 1) := by decide +kernel
theorem dL_cell_15 : decode cL_cell 15 = .ok (.sipush 6131, 3) := by decide +kernel
theorem dL_cell_18 : decode cL_cell 18 = .ok (.irem, 1) := by decide +kernel
theorem dL_cell_19 : decode cL_cell 19 = .ok (.imul, 1) := by decide +kernel
theorem dL_cell_20 : decode cL_cell 20 = .ok (.sipush 3907, 3) := by decide +kernel
theorem dL_cell_23 : decode cL_cell 23 = .ok (.iadd, 1) := by decide +kernel
theorem dL_cell_24 : decode cL_cell 24 = .ok (.ldc 8, 2) := by decide +kernel
theorem dL_cell_26 : decode cL_cell 26 = .ok (.iand, 1) := by decide +kernel
theorem dL_cell_27 : decode cL_cell 27 = .ok (.ireturn, 1) := by decide +kernel
theorem dL_type_0 : decode cL_type 0 = .ok (.aload_n 0, 1) := by decide +kernel
theorem dL_type_1 : decode cL_type 1 = .ok (.iload_n 1, 1) := by decide +kernel
theorem dL_type_2 : decode cL_type 2 = .ok (.i2c, 1) := by decide +kernel
theorem dL_type_3 : decode cL_type 3 = .ok (.invokevirtual 9, 3) := by decide +kernel
theorem dL_type_6 : decode cL_type 6 = .ok (.ireturn, 1) := by decide +kernel
theorem dL_type_7 : decode cL_type 7 = .ok (.astore_n 2, 1) := by decide +kernel
theorem dL_type_8 : decode cL_type 8 = .ok (.bipush (-102), 2) := by decide +kernel
theorem dL_type_10 : decode cL_type 10 = .ok (.ireturn, 1) := by decide +kernel
theorem dL_type_11 : decode cL_type 11 = .ok (.astore_n 2, 1) := by decide +kernel
theorem dL_type_12 : decode cL_type 12 = .ok (.bipush (-103), 2) := by decide +kernel
theorem dL_type_14 : decode cL_type 14 = .ok (.ireturn, 1) := by decide +kernel
theorem dL_enter_0 : decode cL_enter 0 = .ok (.aload_n 0, 1) := by decide +kernel
theorem dL_enter_1 : decode cL_enter 1 = .ok (.invokevirtual 19, 3) := by decide +kernel
theorem dL_enter_4 : decode cL_enter 4 = .ok (.ireturn, 1) := by decide +kernel
theorem dL_enter_5 : decode cL_enter 5 = .ok (.astore_n 1, 1) := by decide +kernel
theorem dL_enter_6 : decode cL_enter 6 = .ok (.bipush (-102), 2) := by decide +kernel
theorem dL_enter_8 : decode cL_enter 8 = .ok (.ireturn, 1) := by decide +kernel
theorem dL_enter_9 : decode cL_enter 9 = .ok (.astore_n 1, 1) := by decide +kernel
theorem dL_enter_10 : decode cL_enter 10 = .ok (.bipush (-103), 2) := by decide +kernel
theorem dL_enter_12 : decode cL_enter 12 = .ok (.ireturn, 1) := by decide +kernel
theorem dL_undo_0 : decode cL_undo 0 = .ok (.aload_n 0, 1) := by decide +kernel
theorem dL_undo_1 : decode cL_undo 1 = .ok (.invokevirtual 23, 3) := by decide +kernel
theorem dL_undo_4 : decode cL_undo 4 = .ok (.ireturn, 1) := by decide +kernel
theorem dL_undo_5 : decode cL_undo 5 = .ok (.astore_n 1, 1) := by decide +kernel
theorem dL_undo_6 : decode cL_undo 6 = .ok (.bipush (-103), 2) := by decide +kernel
theorem dL_undo_8 : decode cL_undo 8 = .ok (.ireturn, 1) := by decide +kernel
theorem dL_bring_0 : decode cL_bring 0 = .ok (.aload_n 0, 1) := by decide +kernel
theorem dL_bring_1 : decode cL_bring 1 = .ok (.iload_n 1, 1) := by decide +kernel
theorem dL_bring_2 : decode cL_bring 2 = .ok (.invokevirtual 26, 3) := by decide +kernel
theorem dL_bring_5 : decode cL_bring 5 = .ok (.ireturn, 1) := by decide +kernel
theorem dL_bring_6 : decode cL_bring 6 = .ok (.astore_n 2, 1) := by decide +kernel
theorem dL_bring_7 : decode cL_bring 7 = .ok (.bipush (-102), 2) := by decide +kernel
theorem dL_bring_9 : decode cL_bring 9 = .ok (.ireturn, 1) := by decide +kernel
theorem dL_bring_10 : decode cL_bring 10 = .ok (.astore_n 2, 1) := by decide +kernel
theorem dL_bring_11 : decode cL_bring 11 = .ok (.bipush (-103), 2) := by decide +kernel
theorem dL_bring_13 : decode cL_bring 13 = .ok (.ireturn, 1) := by decide +kernel
theorem dL_use_0 : decode cL_use 0 = .ok (.aload_n 0, 1) := by decide +kernel
theorem dL_use_1 : decode cL_use 1 = .ok (.iload_n 1, 1) := by decide +kernel
theorem dL_use_2 : decode cL_use 2 = .ok (.invokevirtual 30, 3) := by decide +kernel
theorem dL_use_5 : decode cL_use 5 = .ok (.ireturn, 1) := by decide +kernel
theorem dL_use_6 : decode cL_use 6 = .ok (.astore_n 2, 1) := by decide +kernel
theorem dL_use_7 : decode cL_use 7 = .ok (.bipush (-101), 2) := by decide +kernel
theorem dL_use_9 : decode cL_use 9 = .ok (.ireturn, 1) := by decide +kernel
theorem dL_start_0 : decode cL_start 0 = .ok (.aload_n 0, 1) := by decide +kernel
theorem dL_start_1 : decode cL_start 1 = .ok (.iload_n 1, 1) := by decide +kernel
theorem dL_start_2 : decode cL_start 2 = .ok (.invokevirtual 35, 3) := by decide +kernel
theorem dL_start_5 : decode cL_start 5 = .ok (.ireturn, 1) := by decide +kernel
theorem dL_start_6 : decode cL_start 6 = .ok (.astore_n 2, 1) := by decide +kernel
theorem dL_start_7 : decode cL_start 7 = .ok (.bipush (-101), 2) := by decide +kernel
theorem dL_start_9 : decode cL_start 9 = .ok (.ireturn, 1) := by decide +kernel
theorem dL_level_0 : decode cL_level 0 = .ok (.aload_n 0, 1) := by decide +kernel
theorem dL_level_1 : decode cL_level 1 = .ok (.iload_n 1, 1) := by decide +kernel
theorem dL_level_2 : decode cL_level 2 = .ok (.iload_n 2, 1) := by decide +kernel
theorem dL_level_3 : decode cL_level 3 = .ok (.iload_n 3, 1) := by decide +kernel
theorem dL_level_4 : decode cL_level 4 = .ok (.invokevirtual 38, 3) := by decide +kernel
theorem dL_level_7 : decode cL_level 7 = .ok (.ireturn, 1) := by decide +kernel
theorem dL_level_8 : decode cL_level 8 = .ok (.astore 4, 2) := by decide +kernel
theorem dL_level_10 : decode cL_level 10 = .ok (.bipush (-101), 2) := by decide +kernel
theorem dL_level_12 : decode cL_level 12 = .ok (.ireturn, 1) := by decide +kernel
theorem dL_level_13 : decode cL_level 13 = .ok (.astore 4, 2) := by decide +kernel
theorem dL_level_15 : decode cL_level 15 = .ok (.bipush (-102), 2) := by decide +kernel
theorem dL_level_17 : decode cL_level 17 = .ok (.ireturn, 1) := by decide +kernel
theorem dL_left_0 : decode cL_left 0 = .ok (.aload_n 0, 1) := by decide +kernel
theorem dL_left_1 : decode cL_left 1 = .ok (.iload_n 1, 1) := by decide +kernel
theorem dL_left_2 : decode cL_left 2 = .ok (.invokevirtual 42, 3) := by decide +kernel
theorem dL_left_5 : decode cL_left 5 = .ok (.ireturn, 1) := by decide +kernel
theorem dL_left_6 : decode cL_left 6 = .ok (.astore_n 2, 1) := by decide +kernel
theorem dL_left_7 : decode cL_left 7 = .ok (.bipush (-101), 2) := by decide +kernel
theorem dL_left_9 : decode cL_left 9 = .ok (.ireturn, 1) := by decide +kernel
theorem dL_right_0 : decode cL_right 0 = .ok (.aload_n 0, 1) := by decide +kernel
theorem dL_right_1 : decode cL_right 1 = .ok (.iload_n 1, 1) := by decide +kernel
theorem dL_right_2 : decode cL_right 2 = .ok (.iload_n 2, 1) := by decide +kernel
theorem dL_right_3 : decode cL_right 3 = .ok (.invokevirtual 45, 3) := by decide +kernel
theorem dL_right_6 : decode cL_right 6 = .ok (.ireturn, 1) := by decide +kernel
theorem dL_right_7 : decode cL_right 7 = .ok (.astore_n 3, 1) := by decide +kernel
theorem dL_right_8 : decode cL_right 8 = .ok (.bipush (-101), 2) := by decide +kernel
theorem dL_right_10 : decode cL_right 10 = .ok (.ireturn, 1) := by decide +kernel
theorem dL_nullable_0 : decode cL_nullable 0 = .ok (.aload_n 0, 1) := by decide +kernel
theorem dL_nullable_1 : decode cL_nullable 1 = .ok (.iload_n 1, 1) := by decide +kernel
theorem dL_nullable_2 : decode cL_nullable 2 = .ok (.invokevirtual 49, 3) := by decide +kernel
theorem dL_nullable_5 : decode cL_nullable 5 = .ok (.ifCond .eq 7, 3) := by decide +kernel
theorem dL_nullable_8 : decode cL_nullable 8 = .ok (.iconst 1, 1) := by decide +kernel
theorem dL_nullable_9 : decode cL_nullable 9 = .ok (.goto 4, 3) := by decide +kernel
theorem dL_nullable_12 : decode cL_nullable 12 = .ok (.iconst 0, 1) := by decide +kernel
theorem dL_nullable_13 : decode cL_nullable 13 = .ok (.ireturn, 1) := by decide +kernel
theorem dL_nullable_14 : decode cL_nullable 14 = .ok (.astore_n 2, 1) := by decide +kernel
theorem dL_nullable_15 : decode cL_nullable 15 = .ok (.bipush (-101), 2) := by decide +kernel
theorem dL_nullable_17 : decode cL_nullable 17 = .ok (.ireturn, 1) := by decide +kernel
theorem dL_first_0 : decode cL_first 0 = .ok (.aload_n 0, 1) := by decide +kernel
theorem dL_first_1 : decode cL_first 1 = .ok (.iload_n 1, 1) := by decide +kernel
theorem dL_first_2 : decode cL_first 2 = .ok (.invokevirtual 53, 3) := by decide +kernel
theorem dL_first_5 : decode cL_first 5 = .ok (.ireturn, 1) := by decide +kernel
theorem dL_first_6 : decode cL_first 6 = .ok (.astore_n 2, 1) := by decide +kernel
theorem dL_first_7 : decode cL_first 7 = .ok (.bipush (-101), 2) := by decide +kernel
theorem dL_first_9 : decode cL_first 9 = .ok (.ireturn, 1) := by decide +kernel
theorem dL_follow_0 : decode cL_follow 0 = .ok (.aload_n 0, 1) := by decide +kernel
theorem dL_follow_1 : decode cL_follow 1 = .ok (.iload_n 1, 1) := by decide +kernel
theorem dL_follow_2 : decode cL_follow 2 = .ok (.invokevirtual 56, 3) := by decide +kernel
theorem dL_follow_5 : decode cL_follow 5 = .ok (.ireturn, 1) := by decide +kernel
theorem dL_follow_6 : decode cL_follow 6 = .ok (.astore_n 2, 1) := by decide +kernel
theorem dL_follow_7 : decode cL_follow 7 = .ok (.bipush (-101), 2) := by decide +kernel
theorem dL_follow_9 : decode cL_follow 9 = .ok (.ireturn, 1) := by decide +kernel
theorem dL_uses_0 : decode cL_uses 0 = .ok (.aload_n 0, 1) := by decide +kernel
theorem dL_uses_1 : decode cL_uses 1 = .ok (.iload_n 1, 1) := by decide +kernel
theorem dL_uses_2 : decode cL_uses 2 = .ok (.invokevirtual 59, 3) := by decide +kernel
theorem dL_uses_5 : decode cL_uses 5 = .ok (.ireturn, 1) := by decide +kernel
theorem dL_uses_6 : decode cL_uses 6 = .ok (.astore_n 2, 1) := by decide +kernel
theorem dL_uses_7 : decode cL_uses 7 = .ok (.bipush (-101), 2) := by decide +kernel
theorem dL_uses_9 : decode cL_uses 9 = .ok (.ireturn, 1) := by decide +kernel
theorem dL_shortest_0 : decode cL_shortest 0 = .ok (.aload_n 0, 1) := by decide +kernel
theorem dL_shortest_1 : decode cL_shortest 1 = .ok (.iload_n 1, 1) := by decide +kernel
theorem dL_shortest_2 : decode cL_shortest 2 = .ok (.invokevirtual 65, 3) := by decide +kernel
theorem dL_shortest_5 : decode cL_shortest 5 = .ok (.ireturn, 1) := by decide +kernel
theorem dL_shortest_6 : decode cL_shortest 6 = .ok (.astore_n 2, 1) := by decide +kernel
theorem dL_shortest_7 : decode cL_shortest 7 = .ok (.bipush (-101), 2) := by decide +kernel
theorem dL_shortest_9 : decode cL_shortest 9 = .ok (.ireturn, 1) := by decide +kernel
theorem dL_sentence_0 : decode cL_sentence 0 = .ok (.aload_n 0, 1) := by decide +kernel
theorem dL_sentence_1 : decode cL_sentence 1 = .ok (.iload_n 1, 1) := by decide +kernel
theorem dL_sentence_2 : decode cL_sentence 2 = .ok (.iload_n 2, 1) := by decide +kernel
theorem dL_sentence_3 : decode cL_sentence 3 = .ok (.invokevirtual 68, 3) := by decide +kernel
theorem dL_sentence_6 : decode cL_sentence 6 = .ok (.ireturn, 1) := by decide +kernel
theorem dL_sentence_7 : decode cL_sentence 7 = .ok (.astore_n 3, 1) := by decide +kernel
theorem dL_sentence_8 : decode cL_sentence 8 = .ok (.bipush (-101), 2) := by decide +kernel
theorem dL_sentence_10 : decode cL_sentence 10 = .ok (.ireturn, 1) := by decide +kernel
theorem dL_sentence_11 : decode cL_sentence 11 = .ok (.astore_n 3, 1) := by decide +kernel
theorem dL_sentence_12 : decode cL_sentence 12 = .ok (.bipush (-103), 2) := by decide +kernel
theorem dL_sentence_14 : decode cL_sentence 14 = .ok (.ireturn, 1) := by decide +kernel
theorem dL_size_0 : decode cL_size 0 = .ok (.aload_n 0, 1) := by decide +kernel
theorem dL_size_1 : decode cL_size 1 = .ok (.iload_n 1, 1) := by decide +kernel
theorem dL_size_2 : decode cL_size 2 = .ok (.invokevirtual 71, 3) := by decide +kernel
theorem dL_size_5 : decode cL_size 5 = .ok (.ireturn, 1) := by decide +kernel
theorem dL_size_6 : decode cL_size 6 = .ok (.astore_n 2, 1) := by decide +kernel
theorem dL_size_7 : decode cL_size 7 = .ok (.bipush (-101), 2) := by decide +kernel
theorem dL_size_9 : decode cL_size 9 = .ok (.ireturn, 1) := by decide +kernel
theorem dL_conflicts_0 : decode cL_conflicts 0 = .ok (.aload_n 0, 1) := by decide +kernel
theorem dL_conflicts_1 : decode cL_conflicts 1 = .ok (.iload_n 1, 1) := by decide +kernel
theorem dL_conflicts_2 : decode cL_conflicts 2 = .ok (.invokevirtual 74, 3) := by decide +kernel
theorem dL_conflicts_5 : decode cL_conflicts 5 = .ok (.ireturn, 1) := by decide +kernel
theorem dL_conflicts_6 : decode cL_conflicts 6 = .ok (.astore_n 2, 1) := by decide +kernel
theorem dL_conflicts_7 : decode cL_conflicts 7 = .ok (.bipush (-101), 2) := by decide +kernel
theorem dL_conflicts_9 : decode cL_conflicts 9 = .ok (.ireturn, 1) := by decide +kernel
theorem dL_settled_0 : decode cL_settled 0 = .ok (.aload_n 0, 1) := by decide +kernel
theorem dL_settled_1 : decode cL_settled 1 = .ok (.iload_n 1, 1) := by decide +kernel
theorem dL_settled_2 : decode cL_settled 2 = .ok (.invokevirtual 77, 3) := by decide +kernel
theorem dL_settled_5 : decode cL_settled 5 = .ok (.ireturn, 1) := by decide +kernel
theorem dL_settled_6 : decode cL_settled 6 = .ok (.astore_n 2, 1) := by decide +kernel
theorem dL_settled_7 : decode cL_settled 7 = .ok (.bipush (-101), 2) := by decide +kernel
theorem dL_settled_9 : decode cL_settled 9 = .ok (.ireturn, 1) := by decide +kernel
theorem dL_put_0 : decode cL_put 0 = .ok (.aload_n 0, 1) := by decide +kernel
theorem dL_put_1 : decode cL_put 1 = .ok (.iload_n 1, 1) := by decide +kernel
theorem dL_put_2 : decode cL_put 2 = .ok (.iload_n 2, 1) := by decide +kernel
theorem dL_put_3 : decode cL_put 3 = .ok (.invokevirtual 80, 3) := by decide +kernel
theorem dL_put_6 : decode cL_put 6 = .ok (.ireturn, 1) := by decide +kernel
theorem dL_put_7 : decode cL_put 7 = .ok (.astore_n 3, 1) := by decide +kernel
theorem dL_put_8 : decode cL_put 8 = .ok (.bipush (-101), 2) := by decide +kernel
theorem dL_put_10 : decode cL_put 10 = .ok (.ireturn, 1) := by decide +kernel
theorem dL_put_11 : decode cL_put 11 = .ok (.astore_n 3, 1) := by decide +kernel
theorem dL_put_12 : decode cL_put 12 = .ok (.bipush (-103), 2) := by decide +kernel
theorem dL_put_14 : decode cL_put 14 = .ok (.ireturn, 1) := by decide +kernel
theorem dL_cut_0 : decode cL_cut 0 = .ok (.aload_n 0, 1) := by decide +kernel
theorem dL_cut_1 : decode cL_cut 1 = .ok (.iload_n 1, 1) := by decide +kernel
theorem dL_cut_2 : decode cL_cut 2 = .ok (.invokevirtual 83, 3) := by decide +kernel
theorem dL_cut_5 : decode cL_cut 5 = .ok (.ireturn, 1) := by decide +kernel
theorem dL_cut_6 : decode cL_cut 6 = .ok (.astore_n 2, 1) := by decide +kernel
theorem dL_cut_7 : decode cL_cut 7 = .ok (.bipush (-101), 2) := by decide +kernel
theorem dL_cut_9 : decode cL_cut 9 = .ok (.ireturn, 1) := by decide +kernel
theorem dL_parse_0 : decode cL_parse 0 = .ok (.aload_n 0, 1) := by decide +kernel
theorem dL_parse_1 : decode cL_parse 1 = .ok (.iload_n 1, 1) := by decide +kernel
theorem dL_parse_2 : decode cL_parse 2 = .ok (.invokevirtual 86, 3) := by decide +kernel
theorem dL_parse_5 : decode cL_parse 5 = .ok (.ireturn, 1) := by decide +kernel
theorem dL_parse_6 : decode cL_parse 6 = .ok (.astore_n 2, 1) := by decide +kernel
theorem dL_parse_7 : decode cL_parse 7 = .ok (.bipush (-101), 2) := by decide +kernel
theorem dL_parse_9 : decode cL_parse 9 = .ok (.ireturn, 1) := by decide +kernel
theorem dL_value_0 : decode cL_value 0 = .ok (.aload_n 0, 1) := by decide +kernel
theorem dL_value_1 : decode cL_value 1 = .ok (.iload_n 1, 1) := by decide +kernel
theorem dL_value_2 : decode cL_value 2 = .ok (.invokevirtual 89, 3) := by decide +kernel
theorem dL_value_5 : decode cL_value 5 = .ok (.ireturn, 1) := by decide +kernel
theorem dL_value_6 : decode cL_value 6 = .ok (.astore_n 2, 1) := by decide +kernel
theorem dL_value_7 : decode cL_value 7 = .ok (.bipush (-101), 2) := by decide +kernel
theorem dL_value_9 : decode cL_value 9 = .ok (.ireturn, 1) := by decide +kernel
theorem dL_value_10 : decode cL_value 10 = .ok (.astore_n 2, 1) := by decide +kernel
theorem dL_value_11 : decode cL_value 11 = .ok (.bipush (-103), 2) := by decide +kernel
theorem dL_value_13 : decode cL_value 13 = .ok (.ireturn, 1) := by decide +kernel
theorem dL_letter_0 : decode cL_letter 0 = .ok (.iload_n 0, 1) := by decide +kernel
theorem dL_letter_1 : decode cL_letter 1 = .ok (.bipush 24, 2) := by decide +kernel
theorem dL_letter_3 : decode cL_letter 3 = .ok (.irem, 1) := by decide +kernel
theorem dL_letter_4 : decode cL_letter 4 = .ok (.istore_n 1, 1) := by decide +kernel
theorem dL_letter_5 : decode cL_letter 5 = .ok (.iload_n 1, 1) := by decide +kernel
theorem dL_letter_6 : decode cL_letter 6 = .ok (.ifCond .ne 8, 3) := by decide +kernel
theorem dL_letter_9 : decode cL_letter 9 = .ok (.bipush 124, 2) := by decide +kernel
theorem dL_letter_11 : decode cL_letter 11 = .ok (.goto 76, 3) := by decide +kernel
theorem dL_letter_14 : decode cL_letter 14 = .ok (.iload_n 1, 1) := by decide +kernel
theorem dL_letter_15 : decode cL_letter 15 = .ok (.iconst 1, 1) := by decide +kernel
theorem dL_letter_16 : decode cL_letter 16 = .ok (.if_icmp .ne 8, 3) := by decide +kernel
theorem dL_letter_19 : decode cL_letter 19 = .ok (.bipush 40, 2) := by decide +kernel
theorem dL_letter_21 : decode cL_letter 21 = .ok (.goto 66, 3) := by decide +kernel
theorem dL_letter_24 : decode cL_letter 24 = .ok (.iload_n 1, 1) := by decide +kernel
theorem dL_letter_25 : decode cL_letter 25 = .ok (.iconst 2, 1) := by decide +kernel
theorem dL_letter_26 : decode cL_letter 26 = .ok (.if_icmp .ne 8, 3) := by decide +kernel
theorem dL_letter_29 : decode cL_letter 29 = .ok (.bipush 41, 2) := by decide +kernel
theorem dL_letter_31 : decode cL_letter 31 = .ok (.goto 56, 3) := by decide +kernel
theorem dL_letter_34 : decode cL_letter 34 = .ok (.iload_n 1, 1) := by decide +kernel
theorem dL_letter_35 : decode cL_letter 35 = .ok (.iconst 3, 1) := by decide +kernel
theorem dL_letter_36 : decode cL_letter 36 = .ok (.if_icmp .ne 8, 3) := by decide +kernel
theorem dL_letter_39 : decode cL_letter 39 = .ok (.bipush 63, 2) := by decide +kernel
theorem dL_letter_41 : decode cL_letter 41 = .ok (.goto 46, 3) := by decide +kernel
theorem dL_letter_44 : decode cL_letter 44 = .ok (.iload_n 1, 1) := by decide +kernel
theorem dL_letter_45 : decode cL_letter 45 = .ok (.iconst 4, 1) := by decide +kernel
theorem dL_letter_46 : decode cL_letter 46 = .ok (.if_icmp .ne 8, 3) := by decide +kernel
theorem dL_letter_49 : decode cL_letter 49 = .ok (.bipush 42, 2) := by decide +kernel
theorem dL_letter_51 : decode cL_letter 51 = .ok (.goto 36, 3) := by decide +kernel
theorem dL_letter_54 : decode cL_letter 54 = .ok (.iload_n 1, 1) := by decide +kernel
theorem dL_letter_55 : decode cL_letter 55 = .ok (.iconst 5, 1) := by decide +kernel
theorem dL_letter_56 : decode cL_letter 56 = .ok (.if_icmp .ne 8, 3) := by decide +kernel
theorem dL_letter_59 : decode cL_letter 59 = .ok (.bipush 43, 2) := by decide +kernel
theorem dL_letter_61 : decode cL_letter 61 = .ok (.goto 26, 3) := by decide +kernel
theorem dL_letter_64 : decode cL_letter 64 = .ok (.iload_n 1, 1) := by decide +kernel
theorem dL_letter_65 : decode cL_letter 65 = .ok (.bipush 6, 2) := by decide +kernel
theorem dL_letter_67 : decode cL_letter 67 = .ok (.if_icmp .ne 8, 3) := by decide +kernel
theorem dL_letter_70 : decode cL_letter 70 = .ok (.bipush 37, 2) := by decide +kernel
theorem dL_letter_72 : decode cL_letter 72 = .ok (.goto 15, 3) := by decide +kernel
theorem dL_letter_75 : decode cL_letter 75 = .ok (.iload_n 1, 1) := by decide +kernel
theorem dL_letter_76 : decode cL_letter 76 = .ok (.bipush 7, 2) := by decide +kernel
theorem dL_letter_78 : decode cL_letter 78 = .ok (.if_icmp .ne 8, 3) := by decide +kernel
theorem dL_letter_81 : decode cL_letter 81 = .ok (.bipush 58, 2) := by decide +kernel
theorem dL_letter_83 : decode cL_letter 83 = .ok (.goto 4, 3) := by decide +kernel
theorem dL_letter_86 : decode cL_letter 86 = .ok (.iconst 0, 1) := by decide +kernel
theorem dL_letter_87 : decode cL_letter 87 = .ok (.istore_n 2, 1) := by decide +kernel
theorem dL_letter_88 : decode cL_letter 88 = .ok (.iload_n 2, 1) := by decide +kernel
theorem dL_letter_89 : decode cL_letter 89 = .ok (.ifCond .le 7, 3) := by decide +kernel
theorem dL_letter_92 : decode cL_letter 92 = .ok (.iload_n 2, 1) := by decide +kernel
theorem dL_letter_93 : decode cL_letter 93 = .ok (.goto 30, 3) := by decide +kernel
theorem dL_letter_96 : decode cL_letter 96 = .ok (.iload_n 1, 1) := by decide +kernel
theorem dL_letter_97 : decode cL_letter 97 = .ok (.bipush 16, 2) := by decide +kernel
theorem dL_letter_99 : decode cL_letter 99 = .ok (.if_icmp .ge 15, 3) := by decide +kernel
theorem dL_letter_102 : decode cL_letter 102 = .ok (.bipush 97, 2) := by decide +kernel
theorem dL_letter_104 : decode cL_letter 104 = .ok (.iload_n 0, 1) := by decide +kernel
theorem dL_letter_105 : decode cL_letter 105 = .ok (.bipush 24, 2) := by decide +kernel
theorem dL_letter_107 : decode cL_letter 107 = .ok (.idiv, 1) := by decide +kernel
theorem dL_letter_108 : decode cL_letter 108 = .ok (.iconst 3, 1) := by decide +kernel
theorem dL_letter_109 : decode cL_letter 109 = .ok (.irem, 1) := by decide +kernel
theorem dL_letter_110 : decode cL_letter 110 = .ok (.iadd, 1) := by decide +kernel
theorem dL_letter_111 : decode cL_letter 111 = .ok (.goto 12, 3) := by decide +kernel
theorem dL_letter_114 : decode cL_letter 114 = .ok (.bipush 65, 2) := by decide +kernel
theorem dL_letter_116 : decode cL_letter 116 = .ok (.iload_n 0, 1) := by decide +kernel
theorem dL_letter_117 : decode cL_letter 117 = .ok (.bipush 24, 2) := by decide +kernel
theorem dL_letter_119 : decode cL_letter 119 = .ok (.idiv, 1) := by decide +kernel
theorem dL_letter_120 : decode cL_letter 120 = .ok (.iconst 4, 1) := by decide +kernel
theorem dL_letter_121 : decode cL_letter 121 = .ok (.irem, 1) := by decide +kernel
theorem dL_letter_122 : decode cL_letter 122 = .ok (.iadd, 1) := by decide +kernel
theorem dL_letter_123 : decode cL_letter 123 = .ok (.ireturn, 1) := by decide +kernel
theorem dL_types_0 : decode cL_types 0 = .ok (.aload_n 0, 1) := by decide +kernel
theorem dL_types_1 : decode cL_types 1 = .ok (.invokevirtual 92, 3) := by decide +kernel
theorem dL_types_4 : decode cL_types 4 = .ok (.ifCond .lt 7, 3) := by decide +kernel
theorem dL_types_7 : decode cL_types 7 = .ok (.iconst 1, 1) := by decide +kernel
theorem dL_types_8 : decode cL_types 8 = .ok (.goto 4, 3) := by decide +kernel
theorem dL_types_11 : decode cL_types 11 = .ok (.iconst 0, 1) := by decide +kernel
theorem dL_types_12 : decode cL_types 12 = .ok (.istore_n 3, 1) := by decide +kernel
theorem dL_types_13 : decode cL_types 13 = .ok (.iconst 0, 1) := by decide +kernel
theorem dL_types_14 : decode cL_types 14 = .ok (.istore 4, 2) := by decide +kernel
theorem dL_types_16 : decode cL_types 16 = .ok (.iload 4, 2) := by decide +kernel
theorem dL_types_18 : decode cL_types 18 = .ok (.iload_n 2, 1) := by decide +kernel
theorem dL_types_19 : decode cL_types 19 = .ok (.if_icmp .ge 34, 3) := by decide +kernel
theorem dL_types_22 : decode cL_types 22 = .ok (.iload_n 3, 1) := by decide +kernel
theorem dL_types_23 : decode cL_types 23 = .ok (.ifCond .eq 30, 3) := by decide +kernel
theorem dL_types_26 : decode cL_types 26 = .ok (.aload_n 0, 1) := by decide +kernel
theorem dL_types_27 : decode cL_types 27 = .ok (.aload_n 1, 1) := by decide +kernel
theorem dL_types_28 : decode cL_types 28 = .ok (.iload 4, 2) := by decide +kernel
theorem dL_types_30 : decode cL_types 30 = .ok (.iaload, 1) := by decide +kernel
theorem dL_types_31 : decode cL_types 31 = .ok (.invokestatic 95, 3) := by decide +kernel
theorem dL_types_34 : decode cL_types 34 = .ok (.iload 4, 2) := by decide +kernel
theorem dL_types_36 : decode cL_types 36 = .ok (.iconst 1, 1) := by decide +kernel
theorem dL_types_37 : decode cL_types 37 = .ok (.iadd, 1) := by decide +kernel
theorem dL_types_38 : decode cL_types 38 = .ok (.if_icmp .ne 7, 3) := by decide +kernel
theorem dL_types_41 : decode cL_types 41 = .ok (.iconst 1, 1) := by decide +kernel
theorem dL_types_42 : decode cL_types 42 = .ok (.goto 4, 3) := by decide +kernel
theorem dL_types_45 : decode cL_types 45 = .ok (.iconst 0, 1) := by decide +kernel
theorem dL_types_46 : decode cL_types 46 = .ok (.istore_n 3, 1) := by decide +kernel
theorem dL_types_47 : decode cL_types 47 = .ok (.iinc 4 1, 3) := by decide +kernel
theorem dL_types_50 : decode cL_types 50 = .ok (.goto (-34), 3) := by decide +kernel
theorem dL_types_53 : decode cL_types 53 = .ok (.iload_n 3, 1) := by decide +kernel
theorem dL_types_54 : decode cL_types 54 = .ok (.ireturn, 1) := by decide +kernel
theorem dL_draws_0 : decode cL_draws 0 = .ok (.iconst 3, 1) := by decide +kernel
theorem dL_draws_1 : decode cL_draws 1 = .ok (.iload_n 3, 1) := by decide +kernel
theorem dL_draws_2 : decode cL_draws 2 = .ok (.bipush 10, 2) := by decide +kernel
theorem dL_draws_4 : decode cL_draws 4 = .ok (.irem, 1) := by decide +kernel
theorem dL_draws_5 : decode cL_draws 5 = .ok (.iadd, 1) := by decide +kernel
theorem dL_draws_6 : decode cL_draws 6 = .ok (.istore 4, 2) := by decide +kernel
theorem dL_draws_8 : decode cL_draws 8 = .ok (.aload_n 1, 1) := by decide +kernel
theorem dL_draws_9 : decode cL_draws 9 = .ok (.iconst 0, 1) := by decide +kernel
theorem dL_draws_10 : decode cL_draws 10 = .ok (.bipush 65, 2) := by decide +kernel
theorem dL_draws_12 : decode cL_draws 12 = .ok (.iload_n 3, 1) := by decide +kernel
theorem dL_draws_13 : decode cL_draws 13 = .ok (.bipush 10, 2) := by decide +kernel
theorem dL_draws_15 : decode cL_draws 15 = .ok (.idiv, 1) := by decide +kernel
theorem dL_draws_16 : decode cL_draws 16 = .ok (.iconst 4, 1) := by decide +kernel
theorem dL_draws_17 : decode cL_draws 17 = .ok (.irem, 1) := by decide +kernel
theorem dL_draws_18 : decode cL_draws 18 = .ok (.iadd, 1) := by decide +kernel
theorem dL_draws_19 : decode cL_draws 19 = .ok (.iastore, 1) := by decide +kernel
theorem dL_draws_20 : decode cL_draws 20 = .ok (.aload_n 1, 1) := by decide +kernel
theorem dL_draws_21 : decode cL_draws 21 = .ok (.iconst 1, 1) := by decide +kernel
theorem dL_draws_22 : decode cL_draws 22 = .ok (.bipush 58, 2) := by decide +kernel
theorem dL_draws_24 : decode cL_draws 24 = .ok (.iastore, 1) := by decide +kernel
theorem dL_draws_25 : decode cL_draws 25 = .ok (.iconst 2, 1) := by decide +kernel
theorem dL_draws_26 : decode cL_draws 26 = .ok (.istore 5, 2) := by decide +kernel
theorem dL_draws_28 : decode cL_draws 28 = .ok (.iload 5, 2) := by decide +kernel
theorem dL_draws_30 : decode cL_draws 30 = .ok (.iload 4, 2) := by decide +kernel
theorem dL_draws_32 : decode cL_draws 32 = .ok (.if_icmp .ge 37, 3) := by decide +kernel
theorem dL_draws_35 : decode cL_draws 35 = .ok (.aload_n 1, 1) := by decide +kernel
theorem dL_draws_36 : decode cL_draws 36 = .ok (.iload 5, 2) := by decide +kernel
theorem dL_draws_38 : decode cL_draws 38 = .ok (.aload_n 0, 1) := by decide +kernel
theorem dL_draws_39 : decode cL_draws 39 = .ok (.iload_n 2, 1) := by decide +kernel
theorem dL_draws_40 : decode cL_draws 40 = .ok (.bipush 7, 2) := by decide +kernel
theorem dL_draws_42 : decode cL_draws 42 = .ok (.iload 5, 2) := by decide +kernel
theorem dL_draws_44 : decode cL_draws 44 = .ok (.imul, 1) := by decide +kernel
theorem dL_draws_45 : decode cL_draws 45 = .ok (.iadd, 1) := by decide +kernel
theorem dL_draws_46 : decode cL_draws 46 = .ok (.bipush 67, 2) := by decide +kernel
theorem dL_draws_48 : decode cL_draws 48 = .ok (.irem, 1) := by decide +kernel
theorem dL_draws_49 : decode cL_draws 49 = .ok (.invokestatic 100, 3) := by decide +kernel
theorem dL_draws_52 : decode cL_draws 52 = .ok (.iconst 3, 1) := by decide +kernel
theorem dL_draws_53 : decode cL_draws 53 = .ok (.idiv, 1) := by decide +kernel
theorem dL_draws_54 : decode cL_draws 54 = .ok (.iconst 5, 1) := by decide +kernel
theorem dL_draws_55 : decode cL_draws 55 = .ok (.iload 5, 2) := by decide +kernel
theorem dL_draws_57 : decode cL_draws 57 = .ok (.imul, 1) := by decide +kernel
theorem dL_draws_58 : decode cL_draws 58 = .ok (.iadd, 1) := by decide +kernel
theorem dL_draws_59 : decode cL_draws 59 = .ok (.invokestatic 104, 3) := by decide +kernel
theorem dL_draws_62 : decode cL_draws 62 = .ok (.iastore, 1) := by decide +kernel
theorem dL_draws_63 : decode cL_draws 63 = .ok (.iinc 5 1, 3) := by decide +kernel
theorem dL_draws_66 : decode cL_draws 66 = .ok (.goto (-38), 3) := by decide +kernel
theorem dL_draws_69 : decode cL_draws 69 = .ok (.iload 4, 2) := by decide +kernel
theorem dL_draws_71 : decode cL_draws 71 = .ok (.ireturn, 1) := by decide +kernel
theorem dL_tables_0 : decode cL_tables 0 = .ok (.aload_n 0, 1) := by decide +kernel
theorem dL_tables_1 : decode cL_tables 1 = .ok (.iconst 1, 1) := by decide +kernel
theorem dL_tables_2 : decode cL_tables 2 = .ok (.invokestatic 107, 3) := by decide +kernel
theorem dL_tables_5 : decode cL_tables 5 = .ok (.istore_n 1, 1) := by decide +kernel
theorem dL_tables_6 : decode cL_tables 6 = .ok (.aload_n 0, 1) := by decide +kernel
theorem dL_tables_7 : decode cL_tables 7 = .ok (.iconst 2, 1) := by decide +kernel
theorem dL_tables_8 : decode cL_tables 8 = .ok (.invokestatic 107, 3) := by decide +kernel
theorem dL_tables_11 : decode cL_tables 11 = .ok (.istore_n 2, 1) := by decide +kernel
theorem dL_tables_12 : decode cL_tables 12 = .ok (.aload_n 0, 1) := by decide +kernel
theorem dL_tables_13 : decode cL_tables 13 = .ok (.iconst 3, 1) := by decide +kernel
theorem dL_tables_14 : decode cL_tables 14 = .ok (.invokestatic 107, 3) := by decide +kernel
theorem dL_tables_17 : decode cL_tables 17 = .ok (.istore_n 3, 1) := by decide +kernel
theorem dL_tables_18 : decode cL_tables 18 = .ok (.iload_n 1, 1) := by decide +kernel
theorem dL_tables_19 : decode cL_tables 19 = .ok (.iload_n 2, 1) := by decide +kernel
theorem dL_tables_20 : decode cL_tables 20 = .ok (.if_icmp .ne 36, 3) := by decide +kernel
theorem dL_tables_23 : decode cL_tables 23 = .ok (.iload_n 1, 1) := by decide +kernel
theorem dL_tables_24 : decode cL_tables 24 = .ok (.ifCond .eq 32, 3) := by decide +kernel
theorem dL_tables_27 : decode cL_tables 27 = .ok (.iload_n 1, 1) := by decide +kernel
theorem dL_tables_28 : decode cL_tables 28 = .ok (.bipush 80, 2) := by decide +kernel
theorem dL_tables_30 : decode cL_tables 30 = .ok (.if_icmp .gt 26, 3) := by decide +kernel
theorem dL_tables_33 : decode cL_tables 33 = .ok (.iload_n 3, 1) := by decide +kernel
theorem dL_tables_34 : decode cL_tables 34 = .ok (.bipush 80, 2) := by decide +kernel
theorem dL_tables_36 : decode cL_tables 36 = .ok (.if_icmp .gt 20, 3) := by decide +kernel
theorem dL_tables_39 : decode cL_tables 39 = .ok (.iload_n 3, 1) := by decide +kernel
theorem dL_tables_40 : decode cL_tables 40 = .ok (.ifCond .lt 12, 3) := by decide +kernel
theorem dL_tables_43 : decode cL_tables 43 = .ok (.iload_n 3, 1) := by decide +kernel
theorem dL_tables_44 : decode cL_tables 44 = .ok (.iload_n 2, 1) := by decide +kernel
theorem dL_tables_45 : decode cL_tables 45 = .ok (.if_icmp .lt 11, 3) := by decide +kernel
theorem dL_tables_48 : decode cL_tables 48 = .ok (.iload_n 2, 1) := by decide +kernel
theorem dL_tables_49 : decode cL_tables 49 = .ok (.ifCond .le 7, 3) := by decide +kernel
theorem dL_tables_52 : decode cL_tables 52 = .ok (.iconst 1, 1) := by decide +kernel
theorem dL_tables_53 : decode cL_tables 53 = .ok (.goto 4, 3) := by decide +kernel
theorem dL_tables_56 : decode cL_tables 56 = .ok (.iconst 0, 1) := by decide +kernel
theorem dL_tables_57 : decode cL_tables 57 = .ok (.istore 4, 2) := by decide +kernel
theorem dL_tables_59 : decode cL_tables 59 = .ok (.iconst (-1), 1) := by decide +kernel
theorem dL_tables_60 : decode cL_tables 60 = .ok (.istore 5, 2) := by decide +kernel
theorem dL_tables_62 : decode cL_tables 62 = .ok (.iconst 0, 1) := by decide +kernel
theorem dL_tables_63 : decode cL_tables 63 = .ok (.istore 6, 2) := by decide +kernel
theorem dL_tables_65 : decode cL_tables 65 = .ok (.iconst 3, 1) := by decide +kernel
theorem dL_tables_66 : decode cL_tables 66 = .ok (.istore 7, 2) := by decide +kernel
theorem dL_tables_68 : decode cL_tables 68 = .ok (.iload 7, 2) := by decide +kernel
theorem dL_tables_70 : decode cL_tables 70 = .ok (.ifCond .lt 143, 3) := by decide +kernel
theorem dL_tables_73 : decode cL_tables 73 = .ok (.iload 4, 2) := by decide +kernel
theorem dL_tables_75 : decode cL_tables 75 = .ok (.ifCond .eq 138, 3) := by decide +kernel
theorem dL_tables_78 : decode cL_tables 78 = .ok (.aload_n 0, 1) := by decide +kernel
theorem dL_tables_79 : decode cL_tables 79 = .ok (.iload 7, 2) := by decide +kernel
theorem dL_tables_81 : decode cL_tables 81 = .ok (.invokestatic 109, 3) := by decide +kernel
theorem dL_tables_84 : decode cL_tables 84 = .ok (.istore 8, 2) := by decide +kernel
theorem dL_tables_86 : decode cL_tables 86 = .ok (.aload_n 0, 1) := by decide +kernel
theorem dL_tables_87 : decode cL_tables 87 = .ok (.iload 7, 2) := by decide +kernel
theorem dL_tables_89 : decode cL_tables 89 = .ok (.invokestatic 111, 3) := by decide +kernel
theorem dL_tables_92 : decode cL_tables 92 = .ok (.istore 9, 2) := by decide +kernel
theorem dL_tables_94 : decode cL_tables 94 = .ok (.iload 8, 2) := by decide +kernel
theorem dL_tables_96 : decode cL_tables 96 = .ok (.bipush (-2), 2) := by decide +kernel
theorem dL_tables_98 : decode cL_tables 98 = .ok (.if_icmp .ne 7, 3) := by decide +kernel
theorem dL_tables_101 : decode cL_tables 101 = .ok (.iconst 1, 1) := by decide +kernel
theorem dL_tables_102 : decode cL_tables 102 = .ok (.goto 4, 3) := by decide +kernel
theorem dL_tables_105 : decode cL_tables 105 = .ok (.iconst 0, 1) := by decide +kernel
theorem dL_tables_106 : decode cL_tables 106 = .ok (.iload 9, 2) := by decide +kernel
theorem dL_tables_108 : decode cL_tables 108 = .ok (.bipush (-2), 2) := by decide +kernel
theorem dL_tables_110 : decode cL_tables 110 = .ok (.if_icmp .ne 7, 3) := by decide +kernel
theorem dL_tables_113 : decode cL_tables 113 = .ok (.iconst 1, 1) := by decide +kernel
theorem dL_tables_114 : decode cL_tables 114 = .ok (.goto 4, 3) := by decide +kernel
theorem dL_tables_117 : decode cL_tables 117 = .ok (.iconst 0, 1) := by decide +kernel
theorem dL_tables_118 : decode cL_tables 118 = .ok (.if_icmp .ne 45, 3) := by decide +kernel
theorem dL_tables_121 : decode cL_tables 121 = .ok (.iload 8, 2) := by decide +kernel
theorem dL_tables_123 : decode cL_tables 123 = .ok (.bipush (-2), 2) := by decide +kernel
theorem dL_tables_125 : decode cL_tables 125 = .ok (.if_icmp .ne 7, 3) := by decide +kernel
theorem dL_tables_128 : decode cL_tables 128 = .ok (.iconst 1, 1) := by decide +kernel
theorem dL_tables_129 : decode cL_tables 129 = .ok (.goto 4, 3) := by decide +kernel
theorem dL_tables_132 : decode cL_tables 132 = .ok (.iconst 0, 1) := by decide +kernel
theorem dL_tables_133 : decode cL_tables 133 = .ok (.aload_n 0, 1) := by decide +kernel
theorem dL_tables_134 : decode cL_tables 134 = .ok (.iload 7, 2) := by decide +kernel
theorem dL_tables_136 : decode cL_tables 136 = .ok (.invokestatic 107, 3) := by decide +kernel
theorem dL_tables_139 : decode cL_tables 139 = .ok (.bipush (-2), 2) := by decide +kernel
theorem dL_tables_141 : decode cL_tables 141 = .ok (.if_icmp .ne 7, 3) := by decide +kernel
theorem dL_tables_144 : decode cL_tables 144 = .ok (.iconst 1, 1) := by decide +kernel
theorem dL_tables_145 : decode cL_tables 145 = .ok (.goto 4, 3) := by decide +kernel
theorem dL_tables_148 : decode cL_tables 148 = .ok (.iconst 0, 1) := by decide +kernel
theorem dL_tables_149 : decode cL_tables 149 = .ok (.if_icmp .ne 14, 3) := by decide +kernel
theorem dL_tables_152 : decode cL_tables 152 = .ok (.iload 8, 2) := by decide +kernel
theorem dL_tables_154 : decode cL_tables 154 = .ok (.iload 9, 2) := by decide +kernel
theorem dL_tables_156 : decode cL_tables 156 = .ok (.if_icmp .lt 7, 3) := by decide +kernel
theorem dL_tables_159 : decode cL_tables 159 = .ok (.iconst 1, 1) := by decide +kernel
theorem dL_tables_160 : decode cL_tables 160 = .ok (.goto 4, 3) := by decide +kernel
theorem dL_tables_163 : decode cL_tables 163 = .ok (.iconst 0, 1) := by decide +kernel
theorem dL_tables_164 : decode cL_tables 164 = .ok (.istore 4, 2) := by decide +kernel
theorem dL_tables_166 : decode cL_tables 166 = .ok (.iload 8, 2) := by decide +kernel
theorem dL_tables_168 : decode cL_tables 168 = .ok (.bipush (-2), 2) := by decide +kernel
theorem dL_tables_170 : decode cL_tables 170 = .ok (.if_icmp .eq 15, 3) := by decide +kernel
theorem dL_tables_173 : decode cL_tables 173 = .ok (.iload 8, 2) := by decide +kernel
theorem dL_tables_175 : decode cL_tables 175 = .ok (.iload 9, 2) := by decide +kernel
theorem dL_tables_177 : decode cL_tables 177 = .ok (.if_icmp .ne 8, 3) := by decide +kernel
theorem dL_tables_180 : decode cL_tables 180 = .ok (.iload 7, 2) := by decide +kernel
theorem dL_tables_182 : decode cL_tables 182 = .ok (.goto 5, 3) := by decide +kernel
theorem dL_tables_185 : decode cL_tables 185 = .ok (.iload 5, 2) := by decide +kernel
theorem dL_tables_187 : decode cL_tables 187 = .ok (.istore 5, 2) := by decide +kernel
theorem dL_tables_189 : decode cL_tables 189 = .ok (.iload 6, 2) := by decide +kernel
theorem dL_tables_191 : decode cL_tables 191 = .ok (.iload 8, 2) := by decide +kernel
theorem dL_tables_193 : decode cL_tables 193 = .ok (.ifCond .ne 10, 3) := by decide +kernel
theorem dL_tables_196 : decode cL_tables 196 = .ok (.iconst 1, 1) := by decide +kernel
theorem dL_tables_197 : decode cL_tables 197 = .ok (.iload 7, 2) := by decide +kernel
theorem dL_tables_199 : decode cL_tables 199 = .ok (.ishl, 1) := by decide +kernel
theorem dL_tables_200 : decode cL_tables 200 = .ok (.goto 4, 3) := by decide +kernel
theorem dL_tables_203 : decode cL_tables 203 = .ok (.iconst 0, 1) := by decide +kernel
theorem dL_tables_204 : decode cL_tables 204 = .ok (.iadd, 1) := by decide +kernel
theorem dL_tables_205 : decode cL_tables 205 = .ok (.istore 6, 2) := by decide +kernel
theorem dL_tables_207 : decode cL_tables 207 = .ok (.iinc 7 (-1), 3) := by decide +kernel
theorem dL_tables_210 : decode cL_tables 210 = .ok (.goto (-142), 3) := by decide +kernel
theorem dL_tables_213 : decode cL_tables 213 = .ok (.iload 6, 2) := by decide +kernel
theorem dL_tables_215 : decode cL_tables 215 = .ok (.iconst 1, 1) := by decide +kernel
theorem dL_tables_216 : decode cL_tables 216 = .ok (.ishr, 1) := by decide +kernel
theorem dL_tables_217 : decode cL_tables 217 = .ok (.iconst 1, 1) := by decide +kernel
theorem dL_tables_218 : decode cL_tables 218 = .ok (.iand, 1) := by decide +kernel
theorem dL_tables_219 : decode cL_tables 219 = .ok (.iconst 1, 1) := by decide +kernel
theorem dL_tables_220 : decode cL_tables 220 = .ok (.if_icmp .ne 7, 3) := by decide +kernel
theorem dL_tables_223 : decode cL_tables 223 = .ok (.iconst 1, 1) := by decide +kernel
theorem dL_tables_224 : decode cL_tables 224 = .ok (.goto 4, 3) := by decide +kernel
theorem dL_tables_227 : decode cL_tables 227 = .ok (.iconst 0, 1) := by decide +kernel
theorem dL_tables_228 : decode cL_tables 228 = .ok (.istore 7, 2) := by decide +kernel
theorem dL_tables_230 : decode cL_tables 230 = .ok (.iload 6, 2) := by decide +kernel
theorem dL_tables_232 : decode cL_tables 232 = .ok (.iconst 2, 1) := by decide +kernel
theorem dL_tables_233 : decode cL_tables 233 = .ok (.ishr, 1) := by decide +kernel
theorem dL_tables_234 : decode cL_tables 234 = .ok (.iconst 1, 1) := by decide +kernel
theorem dL_tables_235 : decode cL_tables 235 = .ok (.iand, 1) := by decide +kernel
theorem dL_tables_236 : decode cL_tables 236 = .ok (.iconst 1, 1) := by decide +kernel
theorem dL_tables_237 : decode cL_tables 237 = .ok (.if_icmp .ne 7, 3) := by decide +kernel
theorem dL_tables_240 : decode cL_tables 240 = .ok (.iconst 1, 1) := by decide +kernel
theorem dL_tables_241 : decode cL_tables 241 = .ok (.goto 4, 3) := by decide +kernel
theorem dL_tables_244 : decode cL_tables 244 = .ok (.iconst 0, 1) := by decide +kernel
theorem dL_tables_245 : decode cL_tables 245 = .ok (.istore 8, 2) := by decide +kernel
theorem dL_tables_247 : decode cL_tables 247 = .ok (.iload 6, 2) := by decide +kernel
theorem dL_tables_249 : decode cL_tables 249 = .ok (.iconst 3, 1) := by decide +kernel
theorem dL_tables_250 : decode cL_tables 250 = .ok (.ishr, 1) := by decide +kernel
theorem dL_tables_251 : decode cL_tables 251 = .ok (.iconst 1, 1) := by decide +kernel
theorem dL_tables_252 : decode cL_tables 252 = .ok (.iand, 1) := by decide +kernel
theorem dL_tables_253 : decode cL_tables 253 = .ok (.iconst 1, 1) := by decide +kernel
theorem dL_tables_254 : decode cL_tables 254 = .ok (.if_icmp .ne 7, 3) := by decide +kernel
theorem dL_tables_257 : decode cL_tables 257 = .ok (.iconst 1, 1) := by decide +kernel
theorem dL_tables_258 : decode cL_tables 258 = .ok (.goto 4, 3) := by decide +kernel
theorem dL_tables_261 : decode cL_tables 261 = .ok (.iconst 0, 1) := by decide +kernel
theorem dL_tables_262 : decode cL_tables 262 = .ok (.istore 9, 2) := by decide +kernel
theorem dL_tables_264 : decode cL_tables 264 = .ok (.iload 4, 2) := by decide +kernel
theorem dL_tables_266 : decode cL_tables 266 = .ok (.ifCond .eq 40, 3) := by decide +kernel
theorem dL_tables_269 : decode cL_tables 269 = .ok (.aload_n 0, 1) := by decide +kernel
theorem dL_tables_270 : decode cL_tables 270 = .ok (.invokevirtual 113, 3) := by decide +kernel
theorem dL_tables_273 : decode cL_tables 273 = .ok (.iload 5, 2) := by decide +kernel
theorem dL_tables_275 : decode cL_tables 275 = .ok (.if_icmp .ne 31, 3) := by decide +kernel
theorem dL_tables_278 : decode cL_tables 278 = .ok (.iload 7, 2) := by decide +kernel
theorem dL_tables_280 : decode cL_tables 280 = .ok (.ifCond .eq 8, 3) := by decide +kernel
theorem dL_tables_283 : decode cL_tables 283 = .ok (.iload 8, 2) := by decide +kernel
theorem dL_tables_285 : decode cL_tables 285 = .ok (.ifCond .eq 21, 3) := by decide +kernel
theorem dL_tables_288 : decode cL_tables 288 = .ok (.iload 8, 2) := by decide +kernel
theorem dL_tables_290 : decode cL_tables 290 = .ok (.ifCond .eq 12, 3) := by decide +kernel
theorem dL_tables_293 : decode cL_tables 293 = .ok (.iload 9, 2) := by decide +kernel
theorem dL_tables_295 : decode cL_tables 295 = .ok (.ifCond .ne 7, 3) := by decide +kernel
theorem dL_tables_298 : decode cL_tables 298 = .ok (.iload_n 3, 1) := by decide +kernel
theorem dL_tables_299 : decode cL_tables 299 = .ok (.ifCond .ge 7, 3) := by decide +kernel
theorem dL_tables_302 : decode cL_tables 302 = .ok (.iconst 1, 1) := by decide +kernel
theorem dL_tables_303 : decode cL_tables 303 = .ok (.goto 4, 3) := by decide +kernel
theorem dL_tables_306 : decode cL_tables 306 = .ok (.iconst 0, 1) := by decide +kernel
theorem dL_tables_307 : decode cL_tables 307 = .ok (.ireturn, 1) := by decide +kernel
theorem dL_parses_0 : decode cL_parses 0 = .ok (.aload_n 0, 1) := by decide +kernel
theorem dL_parses_1 : decode cL_parses 1 = .ok (.invokevirtual 116, 3) := by decide +kernel
theorem dL_parses_4 : decode cL_parses 4 = .ok (.istore_n 2, 1) := by decide +kernel
theorem dL_parses_5 : decode cL_parses 5 = .ok (.aload_n 0, 1) := by decide +kernel
theorem dL_parses_6 : decode cL_parses 6 = .ok (.invokevirtual 119, 3) := by decide +kernel
theorem dL_parses_9 : decode cL_parses 9 = .ok (.istore_n 3, 1) := by decide +kernel
theorem dL_parses_10 : decode cL_parses 10 = .ok (.iload_n 2, 1) := by decide +kernel
theorem dL_parses_11 : decode cL_parses 11 = .ok (.ifCond .lt 45, 3) := by decide +kernel
theorem dL_parses_14 : decode cL_parses 14 = .ok (.iload_n 2, 1) := by decide +kernel
theorem dL_parses_15 : decode cL_parses 15 = .ok (.bipush 100, 2) := by decide +kernel
theorem dL_parses_17 : decode cL_parses 17 = .ok (.if_icmp .gt 39, 3) := by decide +kernel
theorem dL_parses_20 : decode cL_parses 20 = .ok (.iload_n 2, 1) := by decide +kernel
theorem dL_parses_21 : decode cL_parses 21 = .ok (.ifCond .le 7, 3) := by decide +kernel
theorem dL_parses_24 : decode cL_parses 24 = .ok (.iconst 1, 1) := by decide +kernel
theorem dL_parses_25 : decode cL_parses 25 = .ok (.goto 4, 3) := by decide +kernel
theorem dL_parses_28 : decode cL_parses 28 = .ok (.iconst 0, 1) := by decide +kernel
theorem dL_parses_29 : decode cL_parses 29 = .ok (.iload_n 3, 1) := by decide +kernel
theorem dL_parses_30 : decode cL_parses 30 = .ok (.ifCond .ne 7, 3) := by decide +kernel
theorem dL_parses_33 : decode cL_parses 33 = .ok (.iconst 1, 1) := by decide +kernel
theorem dL_parses_34 : decode cL_parses 34 = .ok (.goto 4, 3) := by decide +kernel
theorem dL_parses_37 : decode cL_parses 37 = .ok (.iconst 0, 1) := by decide +kernel
theorem dL_parses_38 : decode cL_parses 38 = .ok (.if_icmp .ne 18, 3) := by decide +kernel
theorem dL_parses_41 : decode cL_parses 41 = .ok (.iload_n 3, 1) := by decide +kernel
theorem dL_parses_42 : decode cL_parses 42 = .ok (.iconst (-1), 1) := by decide +kernel
theorem dL_parses_43 : decode cL_parses 43 = .ok (.if_icmp .lt 13, 3) := by decide +kernel
theorem dL_parses_46 : decode cL_parses 46 = .ok (.iload_n 3, 1) := by decide +kernel
theorem dL_parses_47 : decode cL_parses 47 = .ok (.bipush 99, 2) := by decide +kernel
theorem dL_parses_49 : decode cL_parses 49 = .ok (.if_icmp .gt 7, 3) := by decide +kernel
theorem dL_parses_52 : decode cL_parses 52 = .ok (.iconst 1, 1) := by decide +kernel
theorem dL_parses_53 : decode cL_parses 53 = .ok (.goto 4, 3) := by decide +kernel
theorem dL_parses_56 : decode cL_parses 56 = .ok (.iconst 0, 1) := by decide +kernel
theorem dL_parses_57 : decode cL_parses 57 = .ok (.istore 4, 2) := by decide +kernel
theorem dL_parses_59 : decode cL_parses 59 = .ok (.iconst (-1), 1) := by decide +kernel
theorem dL_parses_60 : decode cL_parses 60 = .ok (.istore 5, 2) := by decide +kernel
theorem dL_parses_62 : decode cL_parses 62 = .ok (.iconst 0, 1) := by decide +kernel
theorem dL_parses_63 : decode cL_parses 63 = .ok (.istore 6, 2) := by decide +kernel
theorem dL_parses_65 : decode cL_parses 65 = .ok (.iload 6, 2) := by decide +kernel
theorem dL_parses_67 : decode cL_parses 67 = .ok (.iconst 4, 1) := by decide +kernel
theorem dL_parses_68 : decode cL_parses 68 = .ok (.if_icmp .ge 147, 3) := by decide +kernel
theorem dL_parses_71 : decode cL_parses 71 = .ok (.iload 4, 2) := by decide +kernel
theorem dL_parses_73 : decode cL_parses 73 = .ok (.ifCond .eq 142, 3) := by decide +kernel
theorem dL_parses_76 : decode cL_parses 76 = .ok (.aload_n 0, 1) := by decide +kernel
theorem dL_parses_77 : decode cL_parses 77 = .ok (.iload 6, 2) := by decide +kernel
theorem dL_parses_79 : decode cL_parses 79 = .ok (.invokestatic 122, 3) := by decide +kernel
theorem dL_parses_82 : decode cL_parses 82 = .ok (.istore 7, 2) := by decide +kernel
theorem dL_parses_84 : decode cL_parses 84 = .ok (.aload_n 0, 1) := by decide +kernel
theorem dL_parses_85 : decode cL_parses 85 = .ok (.iload 6, 2) := by decide +kernel
theorem dL_parses_87 : decode cL_parses 87 = .ok (.invokestatic 124, 3) := by decide +kernel
theorem dL_parses_90 : decode cL_parses 90 = .ok (.istore 8, 2) := by decide +kernel
theorem dL_parses_92 : decode cL_parses 92 = .ok (.iload 7, 2) := by decide +kernel
theorem dL_parses_94 : decode cL_parses 94 = .ok (.bipush (-3), 2) := by decide +kernel
theorem dL_parses_96 : decode cL_parses 96 = .ok (.if_icmp .lt 55, 3) := by decide +kernel
theorem dL_parses_99 : decode cL_parses 99 = .ok (.iload 7, 2) := by decide +kernel
theorem dL_parses_101 : decode cL_parses 101 = .ok (.iload_n 1, 1) := by decide +kernel
theorem dL_parses_102 : decode cL_parses 102 = .ok (.if_icmp .gt 49, 3) := by decide +kernel
theorem dL_parses_105 : decode cL_parses 105 = .ok (.iload 7, 2) := by decide +kernel
theorem dL_parses_107 : decode cL_parses 107 = .ok (.iconst (-1), 1) := by decide +kernel
theorem dL_parses_108 : decode cL_parses 108 = .ok (.if_icmp .ne 7, 3) := by decide +kernel
theorem dL_parses_111 : decode cL_parses 111 = .ok (.iconst 1, 1) := by decide +kernel
theorem dL_parses_112 : decode cL_parses 112 = .ok (.goto 4, 3) := by decide +kernel
theorem dL_parses_115 : decode cL_parses 115 = .ok (.iconst 0, 1) := by decide +kernel
theorem dL_parses_116 : decode cL_parses 116 = .ok (.iload 8, 2) := by decide +kernel
theorem dL_parses_118 : decode cL_parses 118 = .ok (.ifCond .lt 7, 3) := by decide +kernel
theorem dL_parses_121 : decode cL_parses 121 = .ok (.iconst 1, 1) := by decide +kernel
