theorem dX12_opensAll_1 : decode cX12_opensAll 1 = .ok (.istore_n 3, 1) := by decide +kernel
theorem dX12_opensAll_2 : decode cX12_opensAll 2 = .ok (.iconst 0, 1) := by decide +kernel
theorem dX12_opensAll_3 : decode cX12_opensAll 3 = .ok (.istore 4, 2) := by decide +kernel
theorem dX12_opensAll_5 : decode cX12_opensAll 5 = .ok (.iload 4, 2) := by decide +kernel
theorem dX12_opensAll_7 : decode cX12_opensAll 7 = .ok (.aload_n 0, 1) := by decide +kernel
theorem dX12_opensAll_8 : decode cX12_opensAll 8 = .ok (.getfield 19, 3) := by decide +kernel
theorem dX12_opensAll_11 : decode cX12_opensAll 11 = .ok (.aload_n 0, 1) := by decide +kernel
theorem dX12_opensAll_12 : decode cX12_opensAll 12 = .ok (.getfield 139, 3) := by decide +kernel
theorem dX12_opensAll_15 : decode cX12_opensAll 15 = .ok (.iaload, 1) := by decide +kernel
theorem dX12_opensAll_16 : decode cX12_opensAll 16 = .ok (.if_icmp .ge 52, 3) := by decide +kernel
theorem dX12_opensAll_19 : decode cX12_opensAll 19 = .ok (.iconst 0, 1) := by decide +kernel
theorem dX12_opensAll_20 : decode cX12_opensAll 20 = .ok (.istore 5, 2) := by decide +kernel
theorem dX12_opensAll_22 : decode cX12_opensAll 22 = .ok (.iload 5, 2) := by decide +kernel
theorem dX12_opensAll_24 : decode cX12_opensAll 24 = .ok (.aload_n 0, 1) := by decide +kernel
theorem dX12_opensAll_25 : decode cX12_opensAll 25 = .ok (.iload 4, 2) := by decide +kernel
theorem dX12_opensAll_27 : decode cX12_opensAll 27 = .ok (.invokevirtual 186, 3) := by decide +kernel
theorem dX12_opensAll_30 : decode cX12_opensAll 30 = .ok (.if_icmp .ge 32, 3) := by decide +kernel
theorem dX12_opensAll_33 : decode cX12_opensAll 33 = .ok (.aload_n 0, 1) := by decide +kernel
theorem dX12_opensAll_34 : decode cX12_opensAll 34 = .ok (.aload_n 1, 1) := by decide +kernel
theorem dX12_opensAll_35 : decode cX12_opensAll 35 = .ok (.iload_n 2, 1) := by decide +kernel
theorem dX12_opensAll_36 : decode cX12_opensAll 36 = .ok (.iload 4, 2) := by decide +kernel
theorem dX12_opensAll_38 : decode cX12_opensAll 38 = .ok (.iload 5, 2) := by decide +kernel
theorem dX12_opensAll_40 : decode cX12_opensAll 40 = .ok (.invokevirtual 224, 3) := by decide +kernel
theorem dX12_opensAll_43 : decode cX12_opensAll 43 = .ok (.ifCond .ne 7, 3) := by decide +kernel
theorem dX12_opensAll_46 : decode cX12_opensAll 46 = .ok (.iload_n 3, 1) := by decide +kernel
theorem dX12_opensAll_47 : decode cX12_opensAll 47 = .ok (.ifCond .eq 7, 3) := by decide +kernel
theorem dX12_opensAll_50 : decode cX12_opensAll 50 = .ok (.iconst 1, 1) := by decide +kernel
theorem dX12_opensAll_51 : decode cX12_opensAll 51 = .ok (.goto 4, 3) := by decide +kernel
theorem dX12_opensAll_54 : decode cX12_opensAll 54 = .ok (.iconst 0, 1) := by decide +kernel
theorem dX12_opensAll_55 : decode cX12_opensAll 55 = .ok (.istore_n 3, 1) := by decide +kernel
theorem dX12_opensAll_56 : decode cX12_opensAll 56 = .ok (.iinc 5 1, 3) := by decide +kernel
theorem dX12_opensAll_59 : decode cX12_opensAll 59 = .ok (.goto (-37), 3) := by decide +kernel
theorem dX12_opensAll_62 : decode cX12_opensAll 62 = .ok (.iinc 4 1, 3) := by decide +kernel
theorem dX12_opensAll_65 : decode cX12_opensAll 65 = .ok (.goto (-60), 3) := by decide +kernel
theorem dX12_opensAll_68 : decode cX12_opensAll 68 = .ok (.aload_n 0, 1) := by decide +kernel
theorem dX12_opensAll_69 : decode cX12_opensAll 69 = .ok (.aload_n 1, 1) := by decide +kernel
theorem dX12_opensAll_70 : decode cX12_opensAll 70 = .ok (.iload_n 2, 1) := by decide +kernel
theorem dX12_opensAll_71 : decode cX12_opensAll 71 = .ok (.bipush 24, 2) := by decide +kernel
theorem dX12_opensAll_73 : decode cX12_opensAll 73 = .ok (.iconst 0, 1) := by decide +kernel
theorem dX12_opensAll_74 : decode cX12_opensAll 74 = .ok (.invokevirtual 224, 3) := by decide +kernel
theorem dX12_opensAll_77 : decode cX12_opensAll 77 = .ok (.ifCond .ne 7, 3) := by decide +kernel
theorem dX12_opensAll_80 : decode cX12_opensAll 80 = .ok (.iload_n 3, 1) := by decide +kernel
theorem dX12_opensAll_81 : decode cX12_opensAll 81 = .ok (.ifCond .eq 7, 3) := by decide +kernel
theorem dX12_opensAll_84 : decode cX12_opensAll 84 = .ok (.iconst 1, 1) := by decide +kernel
theorem dX12_opensAll_85 : decode cX12_opensAll 85 = .ok (.goto 4, 3) := by decide +kernel
theorem dX12_opensAll_88 : decode cX12_opensAll 88 = .ok (.iconst 0, 1) := by decide +kernel
theorem dX12_opensAll_89 : decode cX12_opensAll 89 = .ok (.ireturn, 1) := by decide +kernel
theorem dX12_closure_0 : decode cX12_closure 0 = .ok (.iconst 1, 1) := by decide +kernel
theorem dX12_closure_1 : decode cX12_closure 1 = .ok (.istore_n 3, 1) := by decide +kernel
theorem dX12_closure_2 : decode cX12_closure 2 = .ok (.iload_n 3, 1) := by decide +kernel
theorem dX12_closure_3 : decode cX12_closure 3 = .ok (.ifCond .eq 13, 3) := by decide +kernel
theorem dX12_closure_6 : decode cX12_closure 6 = .ok (.aload_n 0, 1) := by decide +kernel
theorem dX12_closure_7 : decode cX12_closure 7 = .ok (.aload_n 1, 1) := by decide +kernel
theorem dX12_closure_8 : decode cX12_closure 8 = .ok (.iload_n 2, 1) := by decide +kernel
theorem dX12_closure_9 : decode cX12_closure 9 = .ok (.invokevirtual 228, 3) := by decide +kernel
theorem dX12_closure_12 : decode cX12_closure 12 = .ok (.istore_n 3, 1) := by decide +kernel
theorem dX12_closure_13 : decode cX12_closure 13 = .ok (.goto (-11), 3) := by decide +kernel
theorem dX12_closure_16 : decode cX12_closure 16 = .ok (.return_, 1) := by decide +kernel
theorem dX12_steps_0 : decode cX12_steps 0 = .ok (.iconst 0, 1) := by decide +kernel
theorem dX12_steps_1 : decode cX12_steps 1 = .ok (.istore 4, 2) := by decide +kernel
theorem dX12_steps_3 : decode cX12_steps 3 = .ok (.iconst 0, 1) := by decide +kernel
theorem dX12_steps_4 : decode cX12_steps 4 = .ok (.istore 5, 2) := by decide +kernel
theorem dX12_steps_6 : decode cX12_steps 6 = .ok (.iload 5, 2) := by decide +kernel
theorem dX12_steps_8 : decode cX12_steps 8 = .ok (.aload_n 0, 1) := by decide +kernel
theorem dX12_steps_9 : decode cX12_steps 9 = .ok (.getfield 221, 3) := by decide +kernel
theorem dX12_steps_12 : decode cX12_steps 12 = .ok (.if_icmp .ge 17, 3) := by decide +kernel
theorem dX12_steps_15 : decode cX12_steps 15 = .ok (.aload_n 0, 1) := by decide +kernel
theorem dX12_steps_16 : decode cX12_steps 16 = .ok (.getfield 71, 3) := by decide +kernel
theorem dX12_steps_19 : decode cX12_steps 19 = .ok (.iload 5, 2) := by decide +kernel
theorem dX12_steps_21 : decode cX12_steps 21 = .ok (.iconst 0, 1) := by decide +kernel
theorem dX12_steps_22 : decode cX12_steps 22 = .ok (.iastore, 1) := by decide +kernel
theorem dX12_steps_23 : decode cX12_steps 23 = .ok (.iinc 5 1, 3) := by decide +kernel
theorem dX12_steps_26 : decode cX12_steps 26 = .ok (.goto (-20), 3) := by decide +kernel
theorem dX12_steps_29 : decode cX12_steps 29 = .ok (.iconst 0, 1) := by decide +kernel
theorem dX12_steps_30 : decode cX12_steps 30 = .ok (.istore 5, 2) := by decide +kernel
theorem dX12_steps_32 : decode cX12_steps 32 = .ok (.iload 5, 2) := by decide +kernel
theorem dX12_steps_34 : decode cX12_steps 34 = .ok (.aload_n 0, 1) := by decide +kernel
theorem dX12_steps_35 : decode cX12_steps 35 = .ok (.getfield 19, 3) := by decide +kernel
theorem dX12_steps_38 : decode cX12_steps 38 = .ok (.aload_n 0, 1) := by decide +kernel
theorem dX12_steps_39 : decode cX12_steps 39 = .ok (.getfield 139, 3) := by decide +kernel
theorem dX12_steps_42 : decode cX12_steps 42 = .ok (.iaload, 1) := by decide +kernel
theorem dX12_steps_43 : decode cX12_steps 43 = .ok (.if_icmp .gt 114, 3) := by decide +kernel
theorem dX12_steps_46 : decode cX12_steps 46 = .ok (.iload 5, 2) := by decide +kernel
theorem dX12_steps_48 : decode cX12_steps 48 = .ok (.aload_n 0, 1) := by decide +kernel
theorem dX12_steps_49 : decode cX12_steps 49 = .ok (.getfield 19, 3) := by decide +kernel
theorem dX12_steps_52 : decode cX12_steps 52 = .ok (.aload_n 0, 1) := by decide +kernel
theorem dX12_steps_53 : decode cX12_steps 53 = .ok (.getfield 139, 3) := by decide +kernel
theorem dX12_steps_56 : decode cX12_steps 56 = .ok (.iaload, 1) := by decide +kernel
theorem dX12_steps_57 : decode cX12_steps 57 = .ok (.if_icmp .ne 8, 3) := by decide +kernel
theorem dX12_steps_60 : decode cX12_steps 60 = .ok (.bipush 24, 2) := by decide +kernel
theorem dX12_steps_62 : decode cX12_steps 62 = .ok (.goto 5, 3) := by decide +kernel
theorem dX12_steps_65 : decode cX12_steps 65 = .ok (.iload 5, 2) := by decide +kernel
theorem dX12_steps_67 : decode cX12_steps 67 = .ok (.istore 6, 2) := by decide +kernel
theorem dX12_steps_69 : decode cX12_steps 69 = .ok (.iconst 0, 1) := by decide +kernel
theorem dX12_steps_70 : decode cX12_steps 70 = .ok (.istore 7, 2) := by decide +kernel
theorem dX12_steps_72 : decode cX12_steps 72 = .ok (.iload 7, 2) := by decide +kernel
theorem dX12_steps_74 : decode cX12_steps 74 = .ok (.aload_n 0, 1) := by decide +kernel
theorem dX12_steps_75 : decode cX12_steps 75 = .ok (.iload 6, 2) := by decide +kernel
theorem dX12_steps_77 : decode cX12_steps 77 = .ok (.invokevirtual 186, 3) := by decide +kernel
theorem dX12_steps_80 : decode cX12_steps 80 = .ok (.if_icmp .ge 71, 3) := by decide +kernel
theorem dX12_steps_83 : decode cX12_steps 83 = .ok (.aload_n 1, 1) := by decide +kernel
theorem dX12_steps_84 : decode cX12_steps 84 = .ok (.iload_n 2, 1) := by decide +kernel
theorem dX12_steps_85 : decode cX12_steps 85 = .ok (.aload_n 0, 1) := by decide +kernel
theorem dX12_steps_86 : decode cX12_steps 86 = .ok (.getfield 68, 3) := by decide +kernel
theorem dX12_steps_89 : decode cX12_steps 89 = .ok (.iload 6, 2) := by decide +kernel
theorem dX12_steps_91 : decode cX12_steps 91 = .ok (.iaload, 1) := by decide +kernel
theorem dX12_steps_92 : decode cX12_steps 92 = .ok (.iadd, 1) := by decide +kernel
theorem dX12_steps_93 : decode cX12_steps 93 = .ok (.iload 7, 2) := by decide +kernel
theorem dX12_steps_95 : decode cX12_steps 95 = .ok (.iadd, 1) := by decide +kernel
theorem dX12_steps_96 : decode cX12_steps 96 = .ok (.iaload, 1) := by decide +kernel
theorem dX12_steps_97 : decode cX12_steps 97 = .ok (.istore 8, 2) := by decide +kernel
theorem dX12_steps_99 : decode cX12_steps 99 = .ok (.iload 8, 2) := by decide +kernel
theorem dX12_steps_101 : decode cX12_steps 101 = .ok (.sipush 512, 3) := by decide +kernel
theorem dX12_steps_104 : decode cX12_steps 104 = .ok (.iand, 1) := by decide +kernel
theorem dX12_steps_105 : decode cX12_steps 105 = .ok (.ifCond .eq 40, 3) := by decide +kernel
theorem dX12_steps_108 : decode cX12_steps 108 = .ok (.aload_n 0, 1) := by decide +kernel
theorem dX12_steps_109 : decode cX12_steps 109 = .ok (.iload 6, 2) := by decide +kernel
theorem dX12_steps_111 : decode cX12_steps 111 = .ok (.iload 7, 2) := by decide +kernel
theorem dX12_steps_113 : decode cX12_steps 113 = .ok (.invokevirtual 182, 3) := by decide +kernel
theorem dX12_steps_116 : decode cX12_steps 116 = .ok (.invokestatic 232, 3) := by decide +kernel
theorem dX12_steps_119 : decode cX12_steps 119 = .ok (.iload_n 3, 1) := by decide +kernel
theorem dX12_steps_120 : decode cX12_steps 120 = .ok (.if_icmp .ne 25, 3) := by decide +kernel
theorem dX12_steps_123 : decode cX12_steps 123 = .ok (.aload_n 0, 1) := by decide +kernel
theorem dX12_steps_124 : decode cX12_steps 124 = .ok (.getfield 71, 3) := by decide +kernel
theorem dX12_steps_127 : decode cX12_steps 127 = .ok (.aload_n 0, 1) := by decide +kernel
theorem dX12_steps_128 : decode cX12_steps 128 = .ok (.getfield 68, 3) := by decide +kernel
theorem dX12_steps_131 : decode cX12_steps 131 = .ok (.iload 6, 2) := by decide +kernel
theorem dX12_steps_133 : decode cX12_steps 133 = .ok (.iaload, 1) := by decide +kernel
theorem dX12_steps_134 : decode cX12_steps 134 = .ok (.iload 7, 2) := by decide +kernel
theorem dX12_steps_136 : decode cX12_steps 136 = .ok (.iadd, 1) := by decide +kernel
theorem dX12_steps_137 : decode cX12_steps 137 = .ok (.iconst 1, 1) := by decide +kernel
theorem dX12_steps_138 : decode cX12_steps 138 = .ok (.iadd, 1) := by decide +kernel
theorem dX12_steps_139 : decode cX12_steps 139 = .ok (.iload 8, 2) := by decide +kernel
theorem dX12_steps_141 : decode cX12_steps 141 = .ok (.iastore, 1) := by decide +kernel
theorem dX12_steps_142 : decode cX12_steps 142 = .ok (.iconst 1, 1) := by decide +kernel
theorem dX12_steps_143 : decode cX12_steps 143 = .ok (.istore 4, 2) := by decide +kernel
theorem dX12_steps_145 : decode cX12_steps 145 = .ok (.iinc 7 1, 3) := by decide +kernel
theorem dX12_steps_148 : decode cX12_steps 148 = .ok (.goto (-76), 3) := by decide +kernel
theorem dX12_steps_151 : decode cX12_steps 151 = .ok (.iinc 5 1, 3) := by decide +kernel
theorem dX12_steps_154 : decode cX12_steps 154 = .ok (.goto (-122), 3) := by decide +kernel
theorem dX12_steps_157 : decode cX12_steps 157 = .ok (.iload 4, 2) := by decide +kernel
theorem dX12_steps_159 : decode cX12_steps 159 = .ok (.ireturn, 1) := by decide +kernel
theorem dX12_findState_0 : decode cX12_findState 0 = .ok (.iload_n 3, 1) := by decide +kernel
theorem dX12_findState_1 : decode cX12_findState 1 = .ok (.ifCond .eq 9, 3) := by decide +kernel
theorem dX12_findState_4 : decode cX12_findState 4 = .ok (.sipush 512, 3) := by decide +kernel
theorem dX12_findState_7 : decode cX12_findState 7 = .ok (.goto 6, 3) := by decide +kernel
theorem dX12_findState_10 : decode cX12_findState 10 = .ok (.sipush 1023, 3) := by decide +kernel
theorem dX12_findState_13 : decode cX12_findState 13 = .ok (.istore 4, 2) := by decide +kernel
theorem dX12_findState_15 : decode cX12_findState 15 = .ok (.iconst 0, 1) := by decide +kernel
theorem dX12_findState_16 : decode cX12_findState 16 = .ok (.istore 5, 2) := by decide +kernel
theorem dX12_findState_18 : decode cX12_findState 18 = .ok (.iload 5, 2) := by decide +kernel
theorem dX12_findState_20 : decode cX12_findState 20 = .ok (.iload_n 2, 1) := by decide +kernel
theorem dX12_findState_21 : decode cX12_findState 21 = .ok (.if_icmp .ge 77, 3) := by decide +kernel
theorem dX12_findState_24 : decode cX12_findState 24 = .ok (.iconst 1, 1) := by decide +kernel
theorem dX12_findState_25 : decode cX12_findState 25 = .ok (.istore 6, 2) := by decide +kernel
theorem dX12_findState_27 : decode cX12_findState 27 = .ok (.iconst 0, 1) := by decide +kernel
theorem dX12_findState_28 : decode cX12_findState 28 = .ok (.istore 7, 2) := by decide +kernel
theorem dX12_findState_30 : decode cX12_findState 30 = .ok (.iload 7, 2) := by decide +kernel
theorem dX12_findState_32 : decode cX12_findState 32 = .ok (.aload_n 0, 1) := by decide +kernel
theorem dX12_findState_33 : decode cX12_findState 33 = .ok (.getfield 221, 3) := by decide +kernel
theorem dX12_findState_36 : decode cX12_findState 36 = .ok (.if_icmp .ge 48, 3) := by decide +kernel
theorem dX12_findState_39 : decode cX12_findState 39 = .ok (.iload 6, 2) := by decide +kernel
theorem dX12_findState_41 : decode cX12_findState 41 = .ok (.ifCond .eq 43, 3) := by decide +kernel
theorem dX12_findState_44 : decode cX12_findState 44 = .ok (.aload_n 1, 1) := by decide +kernel
theorem dX12_findState_45 : decode cX12_findState 45 = .ok (.sipush 146, 3) := by decide +kernel
theorem dX12_findState_48 : decode cX12_findState 48 = .ok (.iload 5, 2) := by decide +kernel
theorem dX12_findState_50 : decode cX12_findState 50 = .ok (.imul, 1) := by decide +kernel
theorem dX12_findState_51 : decode cX12_findState 51 = .ok (.iload 7, 2) := by decide +kernel
theorem dX12_findState_53 : decode cX12_findState 53 = .ok (.iadd, 1) := by decide +kernel
theorem dX12_findState_54 : decode cX12_findState 54 = .ok (.iaload, 1) := by decide +kernel
theorem dX12_findState_55 : decode cX12_findState 55 = .ok (.iload 4, 2) := by decide +kernel
theorem dX12_findState_57 : decode cX12_findState 57 = .ok (.iand, 1) := by decide +kernel
theorem dX12_findState_58 : decode cX12_findState 58 = .ok (.aload_n 0, 1) := by decide +kernel
theorem dX12_findState_59 : decode cX12_findState 59 = .ok (.getfield 71, 3) := by decide +kernel
theorem dX12_findState_62 : decode cX12_findState 62 = .ok (.iload 7, 2) := by decide +kernel
theorem dX12_findState_64 : decode cX12_findState 64 = .ok (.iaload, 1) := by decide +kernel
theorem dX12_findState_65 : decode cX12_findState 65 = .ok (.iload 4, 2) := by decide +kernel
theorem dX12_findState_67 : decode cX12_findState 67 = .ok (.iand, 1) := by decide +kernel
theorem dX12_findState_68 : decode cX12_findState 68 = .ok (.if_icmp .ne 7, 3) := by decide +kernel
theorem dX12_findState_71 : decode cX12_findState 71 = .ok (.iconst 1, 1) := by decide +kernel
theorem dX12_findState_72 : decode cX12_findState 72 = .ok (.goto 4, 3) := by decide +kernel
theorem dX12_findState_75 : decode cX12_findState 75 = .ok (.iconst 0, 1) := by decide +kernel
theorem dX12_findState_76 : decode cX12_findState 76 = .ok (.istore 6, 2) := by decide +kernel
theorem dX12_findState_78 : decode cX12_findState 78 = .ok (.iinc 7 1, 3) := by decide +kernel
theorem dX12_findState_81 : decode cX12_findState 81 = .ok (.goto (-51), 3) := by decide +kernel
theorem dX12_findState_84 : decode cX12_findState 84 = .ok (.iload 6, 2) := by decide +kernel
theorem dX12_findState_86 : decode cX12_findState 86 = .ok (.ifCond .eq 6, 3) := by decide +kernel
theorem dX12_findState_89 : decode cX12_findState 89 = .ok (.iload 5, 2) := by decide +kernel
theorem dX12_findState_91 : decode cX12_findState 91 = .ok (.ireturn, 1) := by decide +kernel
theorem dX12_findState_92 : decode cX12_findState 92 = .ok (.iinc 5 1, 3) := by decide +kernel
theorem dX12_findState_95 : decode cX12_findState 95 = .ok (.goto (-77), 3) := by decide +kernel
theorem dX12_findState_98 : decode cX12_findState 98 = .ok (.iconst (-1), 1) := by decide +kernel
theorem dX12_findState_99 : decode cX12_findState 99 = .ok (.ireturn, 1) := by decide +kernel
theorem dX12_makes_0 : decode cX12_makes 0 = .ok (.aload_n 0, 1) := by decide +kernel
theorem dX12_makes_1 : decode cX12_makes 1 = .ok (.invokevirtual 216, 3) := by decide +kernel
theorem dX12_makes_4 : decode cX12_makes 4 = .ok (.aload_n 0, 1) := by decide +kernel
theorem dX12_makes_5 : decode cX12_makes 5 = .ok (.invokevirtual 235, 3) := by decide +kernel
theorem dX12_makes_8 : decode cX12_makes 8 = .ok (.iconst 0, 1) := by decide +kernel
theorem dX12_makes_9 : decode cX12_makes 9 = .ok (.istore 4, 2) := by decide +kernel
theorem dX12_makes_11 : decode cX12_makes 11 = .ok (.iload 4, 2) := by decide +kernel
theorem dX12_makes_13 : decode cX12_makes 13 = .ok (.aload_n 0, 1) := by decide +kernel
theorem dX12_makes_14 : decode cX12_makes 14 = .ok (.getfield 221, 3) := by decide +kernel
theorem dX12_makes_17 : decode cX12_makes 17 = .ok (.if_icmp .ge 14, 3) := by decide +kernel
theorem dX12_makes_20 : decode cX12_makes 20 = .ok (.aload_n 1, 1) := by decide +kernel
theorem dX12_makes_21 : decode cX12_makes 21 = .ok (.iload 4, 2) := by decide +kernel
theorem dX12_makes_23 : decode cX12_makes 23 = .ok (.iconst 0, 1) := by decide +kernel
theorem dX12_makes_24 : decode cX12_makes 24 = .ok (.iastore, 1) := by decide +kernel
theorem dX12_makes_25 : decode cX12_makes 25 = .ok (.iinc 4 1, 3) := by decide +kernel
theorem dX12_makes_28 : decode cX12_makes 28 = .ok (.goto (-17), 3) := by decide +kernel
theorem dX12_makes_31 : decode cX12_makes 31 = .ok (.aload_n 1, 1) := by decide +kernel
theorem dX12_makes_32 : decode cX12_makes 32 = .ok (.aload_n 0, 1) := by decide +kernel
theorem dX12_makes_33 : decode cX12_makes 33 = .ok (.getfield 68, 3) := by decide +kernel
theorem dX12_makes_36 : decode cX12_makes 36 = .ok (.bipush 24, 2) := by decide +kernel
theorem dX12_makes_38 : decode cX12_makes 38 = .ok (.iaload, 1) := by decide +kernel
theorem dX12_makes_39 : decode cX12_makes 39 = .ok (.sipush 768, 3) := by decide +kernel
theorem dX12_makes_42 : decode cX12_makes 42 = .ok (.iastore, 1) := by decide +kernel
theorem dX12_makes_43 : decode cX12_makes 43 = .ok (.aload_n 0, 1) := by decide +kernel
theorem dX12_makes_44 : decode cX12_makes 44 = .ok (.aload_n 1, 1) := by decide +kernel
theorem dX12_makes_45 : decode cX12_makes 45 = .ok (.iconst 0, 1) := by decide +kernel
theorem dX12_makes_46 : decode cX12_makes 46 = .ok (.invokevirtual 238, 3) := by decide +kernel
theorem dX12_makes_49 : decode cX12_makes 49 = .ok (.iconst 1, 1) := by decide +kernel
theorem dX12_makes_50 : decode cX12_makes 50 = .ok (.istore 4, 2) := by decide +kernel
theorem dX12_makes_52 : decode cX12_makes 52 = .ok (.iconst 0, 1) := by decide +kernel
theorem dX12_makes_53 : decode cX12_makes 53 = .ok (.istore 5, 2) := by decide +kernel
theorem dX12_makes_55 : decode cX12_makes 55 = .ok (.iload 5, 2) := by decide +kernel
theorem dX12_makes_57 : decode cX12_makes 57 = .ok (.iload 4, 2) := by decide +kernel
theorem dX12_makes_59 : decode cX12_makes 59 = .ok (.if_icmp .ge 168, 3) := by decide +kernel
theorem dX12_makes_62 : decode cX12_makes 62 = .ok (.iconst 0, 1) := by decide +kernel
theorem dX12_makes_63 : decode cX12_makes 63 = .ok (.istore 6, 2) := by decide +kernel
theorem dX12_makes_65 : decode cX12_makes 65 = .ok (.iload 6, 2) := by decide +kernel
theorem dX12_makes_67 : decode cX12_makes 67 = .ok (.bipush 24, 2) := by decide +kernel
theorem dX12_makes_69 : decode cX12_makes 69 = .ok (.if_icmp .ge 152, 3) := by decide +kernel
theorem dX12_makes_72 : decode cX12_makes 72 = .ok (.aload_n 2, 1) := by decide +kernel
theorem dX12_makes_73 : decode cX12_makes 73 = .ok (.bipush 24, 2) := by decide +kernel
theorem dX12_makes_75 : decode cX12_makes 75 = .ok (.iload 5, 2) := by decide +kernel
theorem dX12_makes_77 : decode cX12_makes 77 = .ok (.imul, 1) := by decide +kernel
theorem dX12_makes_78 : decode cX12_makes 78 = .ok (.iload 6, 2) := by decide +kernel
theorem dX12_makes_80 : decode cX12_makes 80 = .ok (.iadd, 1) := by decide +kernel
theorem dX12_makes_81 : decode cX12_makes 81 = .ok (.iconst (-1), 1) := by decide +kernel
theorem dX12_makes_82 : decode cX12_makes 82 = .ok (.iastore, 1) := by decide +kernel
theorem dX12_makes_83 : decode cX12_makes 83 = .ok (.aload_n 0, 1) := by decide +kernel
theorem dX12_makes_84 : decode cX12_makes 84 = .ok (.aload_n 1, 1) := by decide +kernel
theorem dX12_makes_85 : decode cX12_makes 85 = .ok (.sipush 146, 3) := by decide +kernel
theorem dX12_makes_88 : decode cX12_makes 88 = .ok (.iload 5, 2) := by decide +kernel
theorem dX12_makes_90 : decode cX12_makes 90 = .ok (.imul, 1) := by decide +kernel
theorem dX12_makes_91 : decode cX12_makes 91 = .ok (.iload 6, 2) := by decide +kernel
theorem dX12_makes_93 : decode cX12_makes 93 = .ok (.invokevirtual 242, 3) := by decide +kernel
theorem dX12_makes_96 : decode cX12_makes 96 = .ok (.ifCond .eq 119, 3) := by decide +kernel
theorem dX12_makes_99 : decode cX12_makes 99 = .ok (.aload_n 0, 1) := by decide +kernel
theorem dX12_makes_100 : decode cX12_makes 100 = .ok (.aload_n 0, 1) := by decide +kernel
theorem dX12_makes_101 : decode cX12_makes 101 = .ok (.getfield 71, 3) := by decide +kernel
theorem dX12_makes_104 : decode cX12_makes 104 = .ok (.iconst 0, 1) := by decide +kernel
theorem dX12_makes_105 : decode cX12_makes 105 = .ok (.invokevirtual 238, 3) := by decide +kernel
theorem dX12_makes_108 : decode cX12_makes 108 = .ok (.aload_n 0, 1) := by decide +kernel
theorem dX12_makes_109 : decode cX12_makes 109 = .ok (.aload_n 1, 1) := by decide +kernel
theorem dX12_makes_110 : decode cX12_makes 110 = .ok (.iload 4, 2) := by decide +kernel
theorem dX12_makes_112 : decode cX12_makes 112 = .ok (.iload_n 3, 1) := by decide +kernel
theorem dX12_makes_113 : decode cX12_makes 113 = .ok (.invokevirtual 246, 3) := by decide +kernel
theorem dX12_makes_116 : decode cX12_makes 116 = .ok (.istore 7, 2) := by decide +kernel
theorem dX12_makes_118 : decode cX12_makes 118 = .ok (.iload 7, 2) := by decide +kernel
theorem dX12_makes_120 : decode cX12_makes 120 = .ok (.iconst (-1), 1) := by decide +kernel
theorem dX12_makes_121 : decode cX12_makes 121 = .ok (.if_icmp .ne 13, 3) := by decide +kernel
theorem dX12_makes_124 : decode cX12_makes 124 = .ok (.iload 4, 2) := by decide +kernel
theorem dX12_makes_126 : decode cX12_makes 126 = .ok (.bipush 80, 2) := by decide +kernel
theorem dX12_makes_128 : decode cX12_makes 128 = .ok (.if_icmp .ne 6, 3) := by decide +kernel
theorem dX12_makes_131 : decode cX12_makes 131 = .ok (.bipush (-2), 2) := by decide +kernel
theorem dX12_makes_133 : decode cX12_makes 133 = .ok (.ireturn, 1) := by decide +kernel
theorem dX12_makes_134 : decode cX12_makes 134 = .ok (.iconst 0, 1) := by decide +kernel
theorem dX12_makes_135 : decode cX12_makes 135 = .ok (.istore 8, 2) := by decide +kernel
theorem dX12_makes_137 : decode cX12_makes 137 = .ok (.iload 8, 2) := by decide +kernel
theorem dX12_makes_139 : decode cX12_makes 139 = .ok (.aload_n 0, 1) := by decide +kernel
theorem dX12_makes_140 : decode cX12_makes 140 = .ok (.getfield 221, 3) := by decide +kernel
theorem dX12_makes_143 : decode cX12_makes 143 = .ok (.if_icmp .ge 33, 3) := by decide +kernel
theorem dX12_makes_146 : decode cX12_makes 146 = .ok (.iload 7, 2) := by decide +kernel
theorem dX12_makes_148 : decode cX12_makes 148 = .ok (.iconst (-1), 1) := by decide +kernel
theorem dX12_makes_149 : decode cX12_makes 149 = .ok (.if_icmp .ne 27, 3) := by decide +kernel
theorem dX12_makes_152 : decode cX12_makes 152 = .ok (.aload_n 1, 1) := by decide +kernel
theorem dX12_makes_153 : decode cX12_makes 153 = .ok (.sipush 146, 3) := by decide +kernel
theorem dX12_makes_156 : decode cX12_makes 156 = .ok (.iload 4, 2) := by decide +kernel
theorem dX12_makes_158 : decode cX12_makes 158 = .ok (.imul, 1) := by decide +kernel
theorem dX12_makes_159 : decode cX12_makes 159 = .ok (.iload 8, 2) := by decide +kernel
theorem dX12_makes_161 : decode cX12_makes 161 = .ok (.iadd, 1) := by decide +kernel
theorem dX12_makes_162 : decode cX12_makes 162 = .ok (.aload_n 0, 1) := by decide +kernel
theorem dX12_makes_163 : decode cX12_makes 163 = .ok (.getfield 71, 3) := by decide +kernel
theorem dX12_makes_166 : decode cX12_makes 166 = .ok (.iload 8, 2) := by decide +kernel
theorem dX12_makes_168 : decode cX12_makes 168 = .ok (.iaload, 1) := by decide +kernel
theorem dX12_makes_169 : decode cX12_makes 169 = .ok (.iastore, 1) := by decide +kernel
theorem dX12_makes_170 : decode cX12_makes 170 = .ok (.iinc 8 1, 3) := by decide +kernel
theorem dX12_makes_173 : decode cX12_makes 173 = .ok (.goto (-36), 3) := by decide +kernel
theorem dX12_makes_176 : decode cX12_makes 176 = .ok (.aload_n 2, 1) := by decide +kernel
theorem dX12_makes_177 : decode cX12_makes 177 = .ok (.bipush 24, 2) := by decide +kernel
theorem dX12_makes_179 : decode cX12_makes 179 = .ok (.iload 5, 2) := by decide +kernel
theorem dX12_makes_181 : decode cX12_makes 181 = .ok (.imul, 1) := by decide +kernel
theorem dX12_makes_182 : decode cX12_makes 182 = .ok (.iload 6, 2) := by decide +kernel
theorem dX12_makes_184 : decode cX12_makes 184 = .ok (.iadd, 1) := by decide +kernel
theorem dX12_makes_185 : decode cX12_makes 185 = .ok (.iload 7, 2) := by decide +kernel
theorem dX12_makes_187 : decode cX12_makes 187 = .ok (.iconst (-1), 1) := by decide +kernel
theorem dX12_makes_188 : decode cX12_makes 188 = .ok (.if_icmp .ne 8, 3) := by decide +kernel
theorem dX12_makes_191 : decode cX12_makes 191 = .ok (.iload 4, 2) := by decide +kernel
theorem dX12_makes_193 : decode cX12_makes 193 = .ok (.goto 5, 3) := by decide +kernel
theorem dX12_makes_196 : decode cX12_makes 196 = .ok (.iload 7, 2) := by decide +kernel
theorem dX12_makes_198 : decode cX12_makes 198 = .ok (.iastore, 1) := by decide +kernel
theorem dX12_makes_199 : decode cX12_makes 199 = .ok (.iload 4, 2) := by decide +kernel
theorem dX12_makes_201 : decode cX12_makes 201 = .ok (.iload 7, 2) := by decide +kernel
theorem dX12_makes_203 : decode cX12_makes 203 = .ok (.iconst (-1), 1) := by decide +kernel
theorem dX12_makes_204 : decode cX12_makes 204 = .ok (.if_icmp .ne 7, 3) := by decide +kernel
theorem dX12_makes_207 : decode cX12_makes 207 = .ok (.iconst 1, 1) := by decide +kernel
theorem dX12_makes_208 : decode cX12_makes 208 = .ok (.goto 4, 3) := by decide +kernel
theorem dX12_makes_211 : decode cX12_makes 211 = .ok (.iconst 0, 1) := by decide +kernel
theorem dX12_makes_212 : decode cX12_makes 212 = .ok (.iadd, 1) := by decide +kernel
theorem dX12_makes_213 : decode cX12_makes 213 = .ok (.istore 4, 2) := by decide +kernel
theorem dX12_makes_215 : decode cX12_makes 215 = .ok (.iinc 6 1, 3) := by decide +kernel
theorem dX12_makes_218 : decode cX12_makes 218 = .ok (.goto (-153), 3) := by decide +kernel
theorem dX12_makes_221 : decode cX12_makes 221 = .ok (.iinc 5 1, 3) := by decide +kernel
theorem dX12_makes_224 : decode cX12_makes 224 = .ok (.goto (-169), 3) := by decide +kernel
theorem dX12_makes_227 : decode cX12_makes 227 = .ok (.iload 4, 2) := by decide +kernel
theorem dX12_makes_229 : decode cX12_makes 229 = .ok (.ireturn, 1) := by decide +kernel
theorem dX12_spreads_0 : decode cX12_spreads 0 = .ok (.iconst 0, 1) := by decide +kernel
theorem dX12_spreads_1 : decode cX12_spreads 1 = .ok (.istore_n 2, 1) := by decide +kernel
theorem dX12_spreads_2 : decode cX12_spreads 2 = .ok (.iconst 0, 1) := by decide +kernel
theorem dX12_spreads_3 : decode cX12_spreads 3 = .ok (.istore_n 3, 1) := by decide +kernel
theorem dX12_spreads_4 : decode cX12_spreads 4 = .ok (.iload_n 3, 1) := by decide +kernel
theorem dX12_spreads_5 : decode cX12_spreads 5 = .ok (.aload_n 0, 1) := by decide +kernel
theorem dX12_spreads_6 : decode cX12_spreads 6 = .ok (.getfield 19, 3) := by decide +kernel
theorem dX12_spreads_9 : decode cX12_spreads 9 = .ok (.aload_n 0, 1) := by decide +kernel
theorem dX12_spreads_10 : decode cX12_spreads 10 = .ok (.getfield 139, 3) := by decide +kernel
theorem dX12_spreads_13 : decode cX12_spreads 13 = .ok (.iaload, 1) := by decide +kernel
theorem dX12_spreads_14 : decode cX12_spreads 14 = .ok (.if_icmp .gt 160, 3) := by decide +kernel
theorem dX12_spreads_17 : decode cX12_spreads 17 = .ok (.iload_n 3, 1) := by decide +kernel
theorem dX12_spreads_18 : decode cX12_spreads 18 = .ok (.aload_n 0, 1) := by decide +kernel
theorem dX12_spreads_19 : decode cX12_spreads 19 = .ok (.getfield 19, 3) := by decide +kernel
theorem dX12_spreads_22 : decode cX12_spreads 22 = .ok (.aload_n 0, 1) := by decide +kernel
theorem dX12_spreads_23 : decode cX12_spreads 23 = .ok (.getfield 139, 3) := by decide +kernel
theorem dX12_spreads_26 : decode cX12_spreads 26 = .ok (.iaload, 1) := by decide +kernel
theorem dX12_spreads_27 : decode cX12_spreads 27 = .ok (.if_icmp .ne 8, 3) := by decide +kernel
theorem dX12_spreads_30 : decode cX12_spreads 30 = .ok (.bipush 24, 2) := by decide +kernel
theorem dX12_spreads_32 : decode cX12_spreads 32 = .ok (.goto 4, 3) := by decide +kernel
theorem dX12_spreads_35 : decode cX12_spreads 35 = .ok (.iload_n 3, 1) := by decide +kernel
theorem dX12_spreads_36 : decode cX12_spreads 36 = .ok (.istore 4, 2) := by decide +kernel
theorem dX12_spreads_38 : decode cX12_spreads 38 = .ok (.iconst 0, 1) := by decide +kernel
theorem dX12_spreads_39 : decode cX12_spreads 39 = .ok (.istore 5, 2) := by decide +kernel
theorem dX12_spreads_41 : decode cX12_spreads 41 = .ok (.iload 5, 2) := by decide +kernel
theorem dX12_spreads_43 : decode cX12_spreads 43 = .ok (.aload_n 0, 1) := by decide +kernel
theorem dX12_spreads_44 : decode cX12_spreads 44 = .ok (.iload 4, 2) := by decide +kernel
theorem dX12_spreads_46 : decode cX12_spreads 46 = .ok (.invokevirtual 186, 3) := by decide +kernel
theorem dX12_spreads_49 : decode cX12_spreads 49 = .ok (.if_icmp .ge 119, 3) := by decide +kernel
theorem dX12_spreads_52 : decode cX12_spreads 52 = .ok (.aload_n 0, 1) := by decide +kernel
theorem dX12_spreads_53 : decode cX12_spreads 53 = .ok (.getfield 74, 3) := by decide +kernel
theorem dX12_spreads_56 : decode cX12_spreads 56 = .ok (.sipush 146, 3) := by decide +kernel
theorem dX12_spreads_59 : decode cX12_spreads 59 = .ok (.iload_n 1, 1) := by decide +kernel
theorem dX12_spreads_60 : decode cX12_spreads 60 = .ok (.imul, 1) := by decide +kernel
theorem dX12_spreads_61 : decode cX12_spreads 61 = .ok (.aload_n 0, 1) := by decide +kernel
theorem dX12_spreads_62 : decode cX12_spreads 62 = .ok (.getfield 68, 3) := by decide +kernel
theorem dX12_spreads_65 : decode cX12_spreads 65 = .ok (.iload 4, 2) := by decide +kernel
theorem dX12_spreads_67 : decode cX12_spreads 67 = .ok (.iaload, 1) := by decide +kernel
theorem dX12_spreads_68 : decode cX12_spreads 68 = .ok (.iadd, 1) := by decide +kernel
theorem dX12_spreads_69 : decode cX12_spreads 69 = .ok (.iload 5, 2) := by decide +kernel
theorem dX12_spreads_71 : decode cX12_spreads 71 = .ok (.iadd, 1) := by decide +kernel
theorem dX12_spreads_72 : decode cX12_spreads 72 = .ok (.iaload, 1) := by decide +kernel
theorem dX12_spreads_73 : decode cX12_spreads 73 = .ok (.istore 6, 2) := by decide +kernel
theorem dX12_spreads_75 : decode cX12_spreads 75 = .ok (.aload_n 0, 1) := by decide +kernel
theorem dX12_spreads_76 : decode cX12_spreads 76 = .ok (.getfield 77, 3) := by decide +kernel
theorem dX12_spreads_79 : decode cX12_spreads 79 = .ok (.bipush 24, 2) := by decide +kernel
theorem dX12_spreads_81 : decode cX12_spreads 81 = .ok (.iload_n 1, 1) := by decide +kernel
theorem dX12_spreads_82 : decode cX12_spreads 82 = .ok (.imul, 1) := by decide +kernel
theorem dX12_spreads_83 : decode cX12_spreads 83 = .ok (.aload_n 0, 1) := by decide +kernel
theorem dX12_spreads_84 : decode cX12_spreads 84 = .ok (.iload 4, 2) := by decide +kernel
theorem dX12_spreads_86 : decode cX12_spreads 86 = .ok (.iload 5, 2) := by decide +kernel
theorem dX12_spreads_88 : decode cX12_spreads 88 = .ok (.invokevirtual 182, 3) := by decide +kernel
theorem dX12_spreads_91 : decode cX12_spreads 91 = .ok (.invokestatic 232, 3) := by decide +kernel
theorem dX12_spreads_94 : decode cX12_spreads 94 = .ok (.iadd, 1) := by decide +kernel
theorem dX12_spreads_95 : decode cX12_spreads 95 = .ok (.iaload, 1) := by decide +kernel
theorem dX12_spreads_96 : decode cX12_spreads 96 = .ok (.istore 7, 2) := by decide +kernel
theorem dX12_spreads_98 : decode cX12_spreads 98 = .ok (.sipush 146, 3) := by decide +kernel
theorem dX12_spreads_101 : decode cX12_spreads 101 = .ok (.iload 7, 2) := by decide +kernel
theorem dX12_spreads_103 : decode cX12_spreads 103 = .ok (.imul, 1) := by decide +kernel
theorem dX12_spreads_104 : decode cX12_spreads 104 = .ok (.aload_n 0, 1) := by decide +kernel
theorem dX12_spreads_105 : decode cX12_spreads 105 = .ok (.getfield 68, 3) := by decide +kernel
theorem dX12_spreads_108 : decode cX12_spreads 108 = .ok (.iload 4, 2) := by decide +kernel
theorem dX12_spreads_110 : decode cX12_spreads 110 = .ok (.iaload, 1) := by decide +kernel
theorem dX12_spreads_111 : decode cX12_spreads 111 = .ok (.iadd, 1) := by decide +kernel
theorem dX12_spreads_112 : decode cX12_spreads 112 = .ok (.iload 5, 2) := by decide +kernel
theorem dX12_spreads_114 : decode cX12_spreads 114 = .ok (.iadd, 1) := by decide +kernel
theorem dX12_spreads_115 : decode cX12_spreads 115 = .ok (.iconst 1, 1) := by decide +kernel
theorem dX12_spreads_116 : decode cX12_spreads 116 = .ok (.iadd, 1) := by decide +kernel
theorem dX12_spreads_117 : decode cX12_spreads 117 = .ok (.istore 8, 2) := by decide +kernel
theorem dX12_spreads_119 : decode cX12_spreads 119 = .ok (.iload 6, 2) := by decide +kernel
theorem dX12_spreads_121 : decode cX12_spreads 121 = .ok (.sipush 512, 3) := by decide +kernel
theorem dX12_spreads_124 : decode cX12_spreads 124 = .ok (.iand, 1) := by decide +kernel
theorem dX12_spreads_125 : decode cX12_spreads 125 = .ok (.ifCond .eq 37, 3) := by decide +kernel
theorem dX12_spreads_128 : decode cX12_spreads 128 = .ok (.aload_n 0, 1) := by decide +kernel
theorem dX12_spreads_129 : decode cX12_spreads 129 = .ok (.getfield 74, 3) := by decide +kernel
theorem dX12_spreads_132 : decode cX12_spreads 132 = .ok (.iload 8, 2) := by decide +kernel
theorem dX12_spreads_134 : decode cX12_spreads 134 = .ok (.iaload, 1) := by decide +kernel
theorem dX12_spreads_135 : decode cX12_spreads 135 = .ok (.iload 6, 2) := by decide +kernel
theorem dX12_spreads_137 : decode cX12_spreads 137 = .ok (.ior, 1) := by decide +kernel
theorem dX12_spreads_138 : decode cX12_spreads 138 = .ok (.aload_n 0, 1) := by decide +kernel
theorem dX12_spreads_139 : decode cX12_spreads 139 = .ok (.getfield 74, 3) := by decide +kernel
theorem dX12_spreads_142 : decode cX12_spreads 142 = .ok (.iload 8, 2) := by decide +kernel
theorem dX12_spreads_144 : decode cX12_spreads 144 = .ok (.iaload, 1) := by decide +kernel
theorem dX12_spreads_145 : decode cX12_spreads 145 = .ok (.if_icmp .eq 17, 3) := by decide +kernel
theorem dX12_spreads_148 : decode cX12_spreads 148 = .ok (.aload_n 0, 1) := by decide +kernel
theorem dX12_spreads_149 : decode cX12_spreads 149 = .ok (.getfield 74, 3) := by decide +kernel
theorem dX12_spreads_152 : decode cX12_spreads 152 = .ok (.iload 8, 2) := by decide +kernel
theorem dX12_spreads_154 : decode cX12_spreads 154 = .ok (.dup2, 1) := by decide +kernel
theorem dX12_spreads_155 : decode cX12_spreads 155 = .ok (.iaload, 1) := by decide +kernel
theorem dX12_spreads_156 : decode cX12_spreads 156 = .ok (.iload 6, 2) := by decide +kernel
theorem dX12_spreads_158 : decode cX12_spreads 158 = .ok (.ior, 1) := by decide +kernel
theorem dX12_spreads_159 : decode cX12_spreads 159 = .ok (.iastore, 1) := by decide +kernel
theorem dX12_spreads_160 : decode cX12_spreads 160 = .ok (.iconst 1, 1) := by decide +kernel
theorem dX12_spreads_161 : decode cX12_spreads 161 = .ok (.istore_n 2, 1) := by decide +kernel
theorem dX12_spreads_162 : decode cX12_spreads 162 = .ok (.iinc 5 1, 3) := by decide +kernel
theorem dX12_spreads_165 : decode cX12_spreads 165 = .ok (.goto (-124), 3) := by decide +kernel
theorem dX12_spreads_168 : decode cX12_spreads 168 = .ok (.iinc 3 1, 3) := by decide +kernel
theorem dX12_spreads_171 : decode cX12_spreads 171 = .ok (.goto (-167), 3) := by decide +kernel
theorem dX12_spreads_174 : decode cX12_spreads 174 = .ok (.iload_n 2, 1) := by decide +kernel
theorem dX12_spreads_175 : decode cX12_spreads 175 = .ok (.ireturn, 1) := by decide +kernel
theorem dX12_merges_0 : decode cX12_merges 0 = .ok (.aload_n 0, 1) := by decide +kernel
theorem dX12_merges_1 : decode cX12_merges 1 = .ok (.getfield 112, 3) := by decide +kernel
theorem dX12_merges_4 : decode cX12_merges 4 = .ok (.ifCond .eq 4, 3) := by decide +kernel
theorem dX12_merges_7 : decode cX12_merges 7 = .ok (.return_, 1) := by decide +kernel
theorem dX12_merges_8 : decode cX12_merges 8 = .ok (.aload_n 0, 1) := by decide +kernel
theorem dX12_merges_9 : decode cX12_merges 9 = .ok (.iconst 1, 1) := by decide +kernel
theorem dX12_merges_10 : decode cX12_merges 10 = .ok (.putfield 112, 3) := by decide +kernel
theorem dX12_merges_13 : decode cX12_merges 13 = .ok (.aload_n 0, 1) := by decide +kernel
theorem dX12_merges_14 : decode cX12_merges 14 = .ok (.aload_n 0, 1) := by decide +kernel
theorem dX12_merges_15 : decode cX12_merges 15 = .ok (.aload_n 0, 1) := by decide +kernel
theorem dX12_merges_16 : decode cX12_merges 16 = .ok (.getfield 74, 3) := by decide +kernel
theorem dX12_merges_19 : decode cX12_merges 19 = .ok (.aload_n 0, 1) := by decide +kernel
theorem dX12_merges_20 : decode cX12_merges 20 = .ok (.getfield 77, 3) := by decide +kernel
theorem dX12_merges_23 : decode cX12_merges 23 = .ok (.iconst 1, 1) := by decide +kernel
theorem dX12_merges_24 : decode cX12_merges 24 = .ok (.invokevirtual 250, 3) := by decide +kernel
theorem dX12_merges_27 : decode cX12_merges 27 = .ok (.putfield 254, 3) := by decide +kernel
theorem dX12_merges_30 : decode cX12_merges 30 = .ok (.iconst 1, 1) := by decide +kernel
theorem dX12_merges_31 : decode cX12_merges 31 = .ok (.istore_n 1, 1) := by decide +kernel
theorem dX12_merges_32 : decode cX12_merges 32 = .ok (.iload_n 1, 1) := by decide +kernel
theorem dX12_merges_33 : decode cX12_merges 33 = .ok (.ifCond .eq 55, 3) := by decide +kernel
theorem dX12_merges_36 : decode cX12_merges 36 = .ok (.iconst 0, 1) := by decide +kernel
theorem dX12_merges_37 : decode cX12_merges 37 = .ok (.istore_n 1, 1) := by decide +kernel
theorem dX12_merges_38 : decode cX12_merges 38 = .ok (.iconst 0, 1) := by decide +kernel
theorem dX12_merges_39 : decode cX12_merges 39 = .ok (.istore_n 2, 1) := by decide +kernel
theorem dX12_merges_40 : decode cX12_merges 40 = .ok (.iload_n 2, 1) := by decide +kernel
theorem dX12_merges_41 : decode cX12_merges 41 = .ok (.aload_n 0, 1) := by decide +kernel
theorem dX12_merges_42 : decode cX12_merges 42 = .ok (.getfield 254, 3) := by decide +kernel
theorem dX12_merges_45 : decode cX12_merges 45 = .ok (.if_icmp .ge 40, 3) := by decide +kernel
theorem dX12_merges_48 : decode cX12_merges 48 = .ok (.aload_n 0, 1) := by decide +kernel
theorem dX12_merges_49 : decode cX12_merges 49 = .ok (.aload_n 0, 1) := by decide +kernel
theorem dX12_merges_50 : decode cX12_merges 50 = .ok (.getfield 74, 3) := by decide +kernel
theorem dX12_merges_53 : decode cX12_merges 53 = .ok (.sipush 146, 3) := by decide +kernel
theorem dX12_merges_56 : decode cX12_merges 56 = .ok (.iload_n 2, 1) := by decide +kernel
theorem dX12_merges_57 : decode cX12_merges 57 = .ok (.imul, 1) := by decide +kernel
theorem dX12_merges_58 : decode cX12_merges 58 = .ok (.invokevirtual 238, 3) := by decide +kernel
theorem dX12_merges_61 : decode cX12_merges 61 = .ok (.aload_n 0, 1) := by decide +kernel
theorem dX12_merges_62 : decode cX12_merges 62 = .ok (.iload_n 2, 1) := by decide +kernel
theorem dX12_merges_63 : decode cX12_merges 63 = .ok (.invokevirtual 257, 3) := by decide +kernel
theorem dX12_merges_66 : decode cX12_merges 66 = .ok (.ifCond .ne 7, 3) := by decide +kernel
theorem dX12_merges_69 : decode cX12_merges 69 = .ok (.iload_n 1, 1) := by decide +kernel
theorem dX12_merges_70 : decode cX12_merges 70 = .ok (.ifCond .eq 7, 3) := by decide +kernel
theorem dX12_merges_73 : decode cX12_merges 73 = .ok (.iconst 1, 1) := by decide +kernel
theorem dX12_merges_74 : decode cX12_merges 74 = .ok (.goto 4, 3) := by decide +kernel
theorem dX12_merges_77 : decode cX12_merges 77 = .ok (.iconst 0, 1) := by decide +kernel
theorem dX12_merges_78 : decode cX12_merges 78 = .ok (.istore_n 1, 1) := by decide +kernel
theorem dX12_merges_79 : decode cX12_merges 79 = .ok (.iinc 2 1, 3) := by decide +kernel
theorem dX12_merges_82 : decode cX12_merges 82 = .ok (.goto (-42), 3) := by decide +kernel
theorem dX12_merges_85 : decode cX12_merges 85 = .ok (.goto (-53), 3) := by decide +kernel
theorem dX12_merges_88 : decode cX12_merges 88 = .ok (.return_, 1) := by decide +kernel
theorem dX12_wholes_0 : decode cX12_wholes 0 = .ok (.aload_n 0, 1) := by decide +kernel
theorem dX12_wholes_1 : decode cX12_wholes 1 = .ok (.getfield 115, 3) := by decide +kernel
theorem dX12_wholes_4 : decode cX12_wholes 4 = .ok (.ifCond .ne 25, 3) := by decide +kernel
theorem dX12_wholes_7 : decode cX12_wholes 7 = .ok (.aload_n 0, 1) := by decide +kernel
theorem dX12_wholes_8 : decode cX12_wholes 8 = .ok (.iconst 1, 1) := by decide +kernel
theorem dX12_wholes_9 : decode cX12_wholes 9 = .ok (.putfield 115, 3) := by decide +kernel
theorem dX12_wholes_12 : decode cX12_wholes 12 = .ok (.aload_n 0, 1) := by decide +kernel
theorem dX12_wholes_13 : decode cX12_wholes 13 = .ok (.aload_n 0, 1) := by decide +kernel
theorem dX12_wholes_14 : decode cX12_wholes 14 = .ok (.aload_n 0, 1) := by decide +kernel
theorem dX12_wholes_15 : decode cX12_wholes 15 = .ok (.getfield 80, 3) := by decide +kernel
theorem dX12_wholes_18 : decode cX12_wholes 18 = .ok (.aload_n 0, 1) := by decide +kernel
theorem dX12_wholes_19 : decode cX12_wholes 19 = .ok (.getfield 83, 3) := by decide +kernel
theorem dX12_wholes_22 : decode cX12_wholes 22 = .ok (.iconst 0, 1) := by decide +kernel
theorem dX12_wholes_23 : decode cX12_wholes 23 = .ok (.invokevirtual 250, 3) := by decide +kernel
theorem dX12_wholes_26 : decode cX12_wholes 26 = .ok (.putfield 260, 3) := by decide +kernel
theorem dX12_wholes_29 : decode cX12_wholes 29 = .ok (.return_, 1) := by decide +kernel
theorem dX12_states_0 : decode cX12_states 0 = .ok (.iload_n 1, 1) := by decide +kernel
theorem dX12_states_1 : decode cX12_states 1 = .ok (.iconst 3, 1) := by decide +kernel
theorem dX12_states_2 : decode cX12_states 2 = .ok (.if_icmp .ne 12, 3) := by decide +kernel
theorem dX12_states_5 : decode cX12_states 5 = .ok (.aload_n 0, 1) := by decide +kernel
theorem dX12_states_6 : decode cX12_states 6 = .ok (.invokevirtual 263, 3) := by decide +kernel
theorem dX12_states_9 : decode cX12_states 9 = .ok (.aload_n 0, 1) := by decide +kernel
theorem dX12_states_10 : decode cX12_states 10 = .ok (.getfield 260, 3) := by decide +kernel
theorem dX12_states_13 : decode cX12_states 13 = .ok (.ireturn, 1) := by decide +kernel
theorem dX12_states_14 : decode cX12_states 14 = .ok (.aload_n 0, 1) := by decide +kernel
theorem dX12_states_15 : decode cX12_states 15 = .ok (.invokevirtual 266, 3) := by decide +kernel
theorem dX12_states_18 : decode cX12_states 18 = .ok (.aload_n 0, 1) := by decide +kernel
theorem dX12_states_19 : decode cX12_states 19 = .ok (.invokevirtual 216, 3) := by decide +kernel
theorem dX12_states_22 : decode cX12_states 22 = .ok (.aload_n 0, 1) := by decide +kernel
theorem dX12_states_23 : decode cX12_states 23 = .ok (.invokevirtual 235, 3) := by decide +kernel
theorem dX12_states_26 : decode cX12_states 26 = .ok (.aload_n 0, 1) := by decide +kernel
theorem dX12_states_27 : decode cX12_states 27 = .ok (.getfield 254, 3) := by decide +kernel
theorem dX12_states_30 : decode cX12_states 30 = .ok (.ireturn, 1) := by decide +kernel
theorem dX12_goTo_0 : decode cX12_goTo 0 = .ok (.iload_n 1, 1) := by decide +kernel
theorem dX12_goTo_1 : decode cX12_goTo 1 = .ok (.iconst 3, 1) := by decide +kernel
theorem dX12_goTo_2 : decode cX12_goTo 2 = .ok (.if_icmp .ne 17, 3) := by decide +kernel
theorem dX12_goTo_5 : decode cX12_goTo 5 = .ok (.aload_n 0, 1) := by decide +kernel
theorem dX12_goTo_6 : decode cX12_goTo 6 = .ok (.getfield 83, 3) := by decide +kernel
theorem dX12_goTo_9 : decode cX12_goTo 9 = .ok (.bipush 24, 2) := by decide +kernel
theorem dX12_goTo_11 : decode cX12_goTo 11 = .ok (.iload_n 2, 1) := by decide +kernel
theorem dX12_goTo_12 : decode cX12_goTo 12 = .ok (.imul, 1) := by decide +kernel
theorem dX12_goTo_13 : decode cX12_goTo 13 = .ok (.iload_n 3, 1) := by decide +kernel
theorem dX12_goTo_14 : decode cX12_goTo 14 = .ok (.iadd, 1) := by decide +kernel
theorem dX12_goTo_15 : decode cX12_goTo 15 = .ok (.iaload, 1) := by decide +kernel
theorem dX12_goTo_16 : decode cX12_goTo 16 = .ok (.goto 14, 3) := by decide +kernel
theorem dX12_goTo_19 : decode cX12_goTo 19 = .ok (.aload_n 0, 1) := by decide +kernel
theorem dX12_goTo_20 : decode cX12_goTo 20 = .ok (.getfield 77, 3) := by decide +kernel
theorem dX12_goTo_23 : decode cX12_goTo 23 = .ok (.bipush 24, 2) := by decide +kernel
theorem dX12_goTo_25 : decode cX12_goTo 25 = .ok (.iload_n 2, 1) := by decide +kernel
theorem dX12_goTo_26 : decode cX12_goTo 26 = .ok (.imul, 1) := by decide +kernel
theorem dX12_goTo_27 : decode cX12_goTo 27 = .ok (.iload_n 3, 1) := by decide +kernel
theorem dX12_goTo_28 : decode cX12_goTo 28 = .ok (.iadd, 1) := by decide +kernel
theorem dX12_goTo_29 : decode cX12_goTo 29 = .ok (.iaload, 1) := by decide +kernel
theorem dX12_goTo_30 : decode cX12_goTo 30 = .ok (.ireturn, 1) := by decide +kernel
theorem dX12_reduces_0 : decode cX12_reduces 0 = .ok (.sipush 146, 3) := by decide +kernel
theorem dX12_reduces_3 : decode cX12_reduces 3 = .ok (.iload_n 2, 1) := by decide +kernel
theorem dX12_reduces_4 : decode cX12_reduces 4 = .ok (.imul, 1) := by decide +kernel
theorem dX12_reduces_5 : decode cX12_reduces 5 = .ok (.aload_n 0, 1) := by decide +kernel
theorem dX12_reduces_6 : decode cX12_reduces 6 = .ok (.getfield 68, 3) := by decide +kernel
theorem dX12_reduces_9 : decode cX12_reduces 9 = .ok (.iload_n 3, 1) := by decide +kernel
theorem dX12_reduces_10 : decode cX12_reduces 10 = .ok (.iaload, 1) := by decide +kernel
theorem dX12_reduces_11 : decode cX12_reduces 11 = .ok (.iadd, 1) := by decide +kernel
theorem dX12_reduces_12 : decode cX12_reduces 12 = .ok (.aload_n 0, 1) := by decide +kernel
theorem dX12_reduces_13 : decode cX12_reduces 13 = .ok (.iload_n 3, 1) := by decide +kernel
theorem dX12_reduces_14 : decode cX12_reduces 14 = .ok (.invokevirtual 186, 3) := by decide +kernel
theorem dX12_reduces_17 : decode cX12_reduces 17 = .ok (.iadd, 1) := by decide +kernel
theorem dX12_reduces_18 : decode cX12_reduces 18 = .ok (.istore 5, 2) := by decide +kernel
theorem dX12_reduces_20 : decode cX12_reduces 20 = .ok (.iload_n 1, 1) := by decide +kernel
theorem dX12_reduces_21 : decode cX12_reduces 21 = .ok (.iconst 3, 1) := by decide +kernel
theorem dX12_reduces_22 : decode cX12_reduces 22 = .ok (.if_icmp .ne 13, 3) := by decide +kernel
theorem dX12_reduces_25 : decode cX12_reduces 25 = .ok (.aload_n 0, 1) := by decide +kernel
theorem dX12_reduces_26 : decode cX12_reduces 26 = .ok (.getfield 80, 3) := by decide +kernel
theorem dX12_reduces_29 : decode cX12_reduces 29 = .ok (.iload 5, 2) := by decide +kernel
theorem dX12_reduces_31 : decode cX12_reduces 31 = .ok (.iaload, 1) := by decide +kernel
theorem dX12_reduces_32 : decode cX12_reduces 32 = .ok (.goto 10, 3) := by decide +kernel
theorem dX12_reduces_35 : decode cX12_reduces 35 = .ok (.aload_n 0, 1) := by decide +kernel
theorem dX12_reduces_36 : decode cX12_reduces 36 = .ok (.getfield 74, 3) := by decide +kernel
theorem dX12_reduces_39 : decode cX12_reduces 39 = .ok (.iload 5, 2) := by decide +kernel
theorem dX12_reduces_41 : decode cX12_reduces 41 = .ok (.iaload, 1) := by decide +kernel
theorem dX12_reduces_42 : decode cX12_reduces 42 = .ok (.istore 6, 2) := by decide +kernel
theorem dX12_reduces_44 : decode cX12_reduces 44 = .ok (.iload_n 1, 1) := by decide +kernel
theorem dX12_reduces_45 : decode cX12_reduces 45 = .ok (.iconst 1, 1) := by decide +kernel
theorem dX12_reduces_46 : decode cX12_reduces 46 = .ok (.if_icmp .eq 8, 3) := by decide +kernel
theorem dX12_reduces_49 : decode cX12_reduces 49 = .ok (.iload 6, 2) := by decide +kernel
theorem dX12_reduces_51 : decode cX12_reduces 51 = .ok (.goto 25, 3) := by decide +kernel
theorem dX12_reduces_54 : decode cX12_reduces 54 = .ok (.iload_n 3, 1) := by decide +kernel
theorem dX12_reduces_55 : decode cX12_reduces 55 = .ok (.bipush 24, 2) := by decide +kernel
theorem dX12_reduces_57 : decode cX12_reduces 57 = .ok (.if_icmp .ne 9, 3) := by decide +kernel
theorem dX12_reduces_60 : decode cX12_reduces 60 = .ok (.sipush 256, 3) := by decide +kernel
theorem dX12_reduces_63 : decode cX12_reduces 63 = .ok (.goto 13, 3) := by decide +kernel
theorem dX12_reduces_66 : decode cX12_reduces 66 = .ok (.aload_n 0, 1) := by decide +kernel
theorem dX12_reduces_67 : decode cX12_reduces 67 = .ok (.getfield 55, 3) := by decide +kernel
theorem dX12_reduces_70 : decode cX12_reduces 70 = .ok (.aload_n 0, 1) := by decide +kernel
theorem dX12_reduces_71 : decode cX12_reduces 71 = .ok (.iload_n 3, 1) := by decide +kernel
theorem dX12_reduces_72 : decode cX12_reduces 72 = .ok (.invokevirtual 193, 3) := by decide +kernel
theorem dX12_reduces_75 : decode cX12_reduces 75 = .ok (.iaload, 1) := by decide +kernel
theorem dX12_reduces_76 : decode cX12_reduces 76 = .ok (.istore 7, 2) := by decide +kernel
theorem dX12_reduces_78 : decode cX12_reduces 78 = .ok (.iload 6, 2) := by decide +kernel
theorem dX12_reduces_80 : decode cX12_reduces 80 = .ok (.sipush 512, 3) := by decide +kernel
theorem dX12_reduces_83 : decode cX12_reduces 83 = .ok (.iand, 1) := by decide +kernel
theorem dX12_reduces_84 : decode cX12_reduces 84 = .ok (.ifCond .eq 18, 3) := by decide +kernel
theorem dX12_reduces_87 : decode cX12_reduces 87 = .ok (.iload 7, 2) := by decide +kernel
theorem dX12_reduces_89 : decode cX12_reduces 89 = .ok (.iload 4, 2) := by decide +kernel
theorem dX12_reduces_91 : decode cX12_reduces 91 = .ok (.ishr, 1) := by decide +kernel
theorem dX12_reduces_92 : decode cX12_reduces 92 = .ok (.iconst 1, 1) := by decide +kernel
theorem dX12_reduces_93 : decode cX12_reduces 93 = .ok (.iand, 1) := by decide +kernel
theorem dX12_reduces_94 : decode cX12_reduces 94 = .ok (.iconst 1, 1) := by decide +kernel
theorem dX12_reduces_95 : decode cX12_reduces 95 = .ok (.if_icmp .ne 7, 3) := by decide +kernel
theorem dX12_reduces_98 : decode cX12_reduces 98 = .ok (.iconst 1, 1) := by decide +kernel
theorem dX12_reduces_99 : decode cX12_reduces 99 = .ok (.goto 4, 3) := by decide +kernel
theorem dX12_reduces_102 : decode cX12_reduces 102 = .ok (.iconst 0, 1) := by decide +kernel
theorem dX12_reduces_103 : decode cX12_reduces 103 = .ok (.ireturn, 1) := by decide +kernel
theorem dX12_levelOf_0 : decode cX12_levelOf 0 = .ok (.iconst 0, 1) := by decide +kernel
theorem dX12_levelOf_1 : decode cX12_levelOf 1 = .ok (.istore_n 2, 1) := by decide +kernel
theorem dX12_levelOf_2 : decode cX12_levelOf 2 = .ok (.iconst 0, 1) := by decide +kernel
theorem dX12_levelOf_3 : decode cX12_levelOf 3 = .ok (.istore_n 3, 1) := by decide +kernel
theorem dX12_levelOf_4 : decode cX12_levelOf 4 = .ok (.iload_n 3, 1) := by decide +kernel
theorem dX12_levelOf_5 : decode cX12_levelOf 5 = .ok (.aload_n 0, 1) := by decide +kernel
theorem dX12_levelOf_6 : decode cX12_levelOf 6 = .ok (.iload_n 1, 1) := by decide +kernel
theorem dX12_levelOf_7 : decode cX12_levelOf 7 = .ok (.invokevirtual 186, 3) := by decide +kernel
theorem dX12_levelOf_10 : decode cX12_levelOf 10 = .ok (.if_icmp .ge 36, 3) := by decide +kernel
theorem dX12_levelOf_13 : decode cX12_levelOf 13 = .ok (.aload_n 0, 1) := by decide +kernel
theorem dX12_levelOf_14 : decode cX12_levelOf 14 = .ok (.iload_n 1, 1) := by decide +kernel
theorem dX12_levelOf_15 : decode cX12_levelOf 15 = .ok (.iload_n 3, 1) := by decide +kernel
theorem dX12_levelOf_16 : decode cX12_levelOf 16 = .ok (.invokevirtual 182, 3) := by decide +kernel
theorem dX12_levelOf_19 : decode cX12_levelOf 19 = .ok (.bipush 16, 2) := by decide +kernel
theorem dX12_levelOf_21 : decode cX12_levelOf 21 = .ok (.if_icmp .ge 17, 3) := by decide +kernel
theorem dX12_levelOf_24 : decode cX12_levelOf 24 = .ok (.aload_n 0, 1) := by decide +kernel
theorem dX12_levelOf_25 : decode cX12_levelOf 25 = .ok (.getfield 37, 3) := by decide +kernel
theorem dX12_levelOf_28 : decode cX12_levelOf 28 = .ok (.aload_n 0, 1) := by decide +kernel
theorem dX12_levelOf_29 : decode cX12_levelOf 29 = .ok (.iload_n 1, 1) := by decide +kernel
theorem dX12_levelOf_30 : decode cX12_levelOf 30 = .ok (.iload_n 3, 1) := by decide +kernel
theorem dX12_levelOf_31 : decode cX12_levelOf 31 = .ok (.invokevirtual 182, 3) := by decide +kernel
theorem dX12_levelOf_34 : decode cX12_levelOf 34 = .ok (.iaload, 1) := by decide +kernel
theorem dX12_levelOf_35 : decode cX12_levelOf 35 = .ok (.goto 4, 3) := by decide +kernel
theorem dX12_levelOf_38 : decode cX12_levelOf 38 = .ok (.iload_n 2, 1) := by decide +kernel
theorem dX12_levelOf_39 : decode cX12_levelOf 39 = .ok (.istore_n 2, 1) := by decide +kernel
theorem dX12_levelOf_40 : decode cX12_levelOf 40 = .ok (.iinc 3 1, 3) := by decide +kernel
theorem dX12_levelOf_43 : decode cX12_levelOf 43 = .ok (.goto (-39), 3) := by decide +kernel
theorem dX12_levelOf_46 : decode cX12_levelOf 46 = .ok (.iload_n 2, 1) := by decide +kernel
theorem dX12_levelOf_47 : decode cX12_levelOf 47 = .ok (.ireturn, 1) := by decide +kernel
theorem dX12_lastTerminal_0 : decode cX12_lastTerminal 0 = .ok (.iconst (-1), 1) := by decide +kernel
theorem dX12_lastTerminal_1 : decode cX12_lastTerminal 1 = .ok (.istore_n 2, 1) := by decide +kernel
theorem dX12_lastTerminal_2 : decode cX12_lastTerminal 2 = .ok (.iconst 0, 1) := by decide +kernel
theorem dX12_lastTerminal_3 : decode cX12_lastTerminal 3 = .ok (.istore_n 3, 1) := by decide +kernel
theorem dX12_lastTerminal_4 : decode cX12_lastTerminal 4 = .ok (.iload_n 3, 1) := by decide +kernel
theorem dX12_lastTerminal_5 : decode cX12_lastTerminal 5 = .ok (.aload_n 0, 1) := by decide +kernel
theorem dX12_lastTerminal_6 : decode cX12_lastTerminal 6 = .ok (.iload_n 1, 1) := by decide +kernel
theorem dX12_lastTerminal_7 : decode cX12_lastTerminal 7 = .ok (.invokevirtual 186, 3) := by decide +kernel
theorem dX12_lastTerminal_10 : decode cX12_lastTerminal 10 = .ok (.if_icmp .ge 31, 3) := by decide +kernel
theorem dX12_lastTerminal_13 : decode cX12_lastTerminal 13 = .ok (.aload_n 0, 1) := by decide +kernel
theorem dX12_lastTerminal_14 : decode cX12_lastTerminal 14 = .ok (.iload_n 1, 1) := by decide +kernel
theorem dX12_lastTerminal_15 : decode cX12_lastTerminal 15 = .ok (.iload_n 3, 1) := by decide +kernel
theorem dX12_lastTerminal_16 : decode cX12_lastTerminal 16 = .ok (.invokevirtual 182, 3) := by decide +kernel
theorem dX12_lastTerminal_19 : decode cX12_lastTerminal 19 = .ok (.bipush 16, 2) := by decide +kernel
theorem dX12_lastTerminal_21 : decode cX12_lastTerminal 21 = .ok (.if_icmp .ge 12, 3) := by decide +kernel
theorem dX12_lastTerminal_24 : decode cX12_lastTerminal 24 = .ok (.aload_n 0, 1) := by decide +kernel
theorem dX12_lastTerminal_25 : decode cX12_lastTerminal 25 = .ok (.iload_n 1, 1) := by decide +kernel
theorem dX12_lastTerminal_26 : decode cX12_lastTerminal 26 = .ok (.iload_n 3, 1) := by decide +kernel
theorem dX12_lastTerminal_27 : decode cX12_lastTerminal 27 = .ok (.invokevirtual 182, 3) := by decide +kernel
theorem dX12_lastTerminal_30 : decode cX12_lastTerminal 30 = .ok (.goto 4, 3) := by decide +kernel
theorem dX12_lastTerminal_33 : decode cX12_lastTerminal 33 = .ok (.iload_n 2, 1) := by decide +kernel
theorem dX12_lastTerminal_34 : decode cX12_lastTerminal 34 = .ok (.istore_n 2, 1) := by decide +kernel
theorem dX12_lastTerminal_35 : decode cX12_lastTerminal 35 = .ok (.iinc 3 1, 3) := by decide +kernel
theorem dX12_lastTerminal_38 : decode cX12_lastTerminal 38 = .ok (.goto (-34), 3) := by decide +kernel
theorem dX12_lastTerminal_41 : decode cX12_lastTerminal 41 = .ok (.iload_n 2, 1) := by decide +kernel
theorem dX12_lastTerminal_42 : decode cX12_lastTerminal 42 = .ok (.ireturn, 1) := by decide +kernel
theorem dX12_cell_0 : decode cX12_cell 0 = .ok (.iconst 0, 1) := by decide +kernel
theorem dX12_cell_1 : decode cX12_cell 1 = .ok (.istore 4, 2) := by decide +kernel
theorem dX12_cell_3 : decode cX12_cell 3 = .ok (.iconst (-1), 1) := by decide +kernel
theorem dX12_cell_4 : decode cX12_cell 4 = .ok (.istore 5, 2) := by decide +kernel
theorem dX12_cell_6 : decode cX12_cell 6 = .ok (.aload_n 0, 1) := by decide +kernel
theorem dX12_cell_7 : decode cX12_cell 7 = .ok (.getfield 19, 3) := by decide +kernel
theorem dX12_cell_10 : decode cX12_cell 10 = .ok (.aload_n 0, 1) := by decide +kernel
theorem dX12_cell_11 : decode cX12_cell 11 = .ok (.getfield 139, 3) := by decide +kernel
theorem dX12_cell_14 : decode cX12_cell 14 = .ok (.iaload, 1) := by decide +kernel
theorem dX12_cell_15 : decode cX12_cell 15 = .ok (.iconst 1, 1) := by decide +kernel
theorem dX12_cell_16 : decode cX12_cell 16 = .ok (.isub, 1) := by decide +kernel
theorem dX12_cell_17 : decode cX12_cell 17 = .ok (.istore 6, 2) := by decide +kernel
theorem dX12_cell_19 : decode cX12_cell 19 = .ok (.iload 6, 2) := by decide +kernel
theorem dX12_cell_21 : decode cX12_cell 21 = .ok (.ifCond .lt 49, 3) := by decide +kernel
theorem dX12_cell_24 : decode cX12_cell 24 = .ok (.aload_n 0, 1) := by decide +kernel
theorem dX12_cell_25 : decode cX12_cell 25 = .ok (.iload_n 1, 1) := by decide +kernel
theorem dX12_cell_26 : decode cX12_cell 26 = .ok (.iload_n 2, 1) := by decide +kernel
theorem dX12_cell_27 : decode cX12_cell 27 = .ok (.iload 6, 2) := by decide +kernel
theorem dX12_cell_29 : decode cX12_cell 29 = .ok (.iload_n 3, 1) := by decide +kernel
theorem dX12_cell_30 : decode cX12_cell 30 = .ok (.invokevirtual 269, 3) := by decide +kernel
theorem dX12_cell_33 : decode cX12_cell 33 = .ok (.istore 7, 2) := by decide +kernel
theorem dX12_cell_35 : decode cX12_cell 35 = .ok (.iload 4, 2) := by decide +kernel
theorem dX12_cell_37 : decode cX12_cell 37 = .ok (.iload 7, 2) := by decide +kernel
theorem dX12_cell_39 : decode cX12_cell 39 = .ok (.ifCond .eq 7, 3) := by decide +kernel
theorem dX12_cell_42 : decode cX12_cell 42 = .ok (.iconst 1, 1) := by decide +kernel
theorem dX12_cell_43 : decode cX12_cell 43 = .ok (.goto 4, 3) := by decide +kernel
theorem dX12_cell_46 : decode cX12_cell 46 = .ok (.iconst 0, 1) := by decide +kernel
theorem dX12_cell_47 : decode cX12_cell 47 = .ok (.iadd, 1) := by decide +kernel
theorem dX12_cell_48 : decode cX12_cell 48 = .ok (.istore 4, 2) := by decide +kernel
theorem dX12_cell_50 : decode cX12_cell 50 = .ok (.iload 7, 2) := by decide +kernel
theorem dX12_cell_52 : decode cX12_cell 52 = .ok (.ifCond .eq 8, 3) := by decide +kernel
theorem dX12_cell_55 : decode cX12_cell 55 = .ok (.iload 6, 2) := by decide +kernel
theorem dX12_cell_57 : decode cX12_cell 57 = .ok (.goto 5, 3) := by decide +kernel
theorem dX12_cell_60 : decode cX12_cell 60 = .ok (.iload 5, 2) := by decide +kernel
theorem dX12_cell_62 : decode cX12_cell 62 = .ok (.istore 5, 2) := by decide +kernel
theorem dX12_cell_64 : decode cX12_cell 64 = .ok (.iinc 6 (-1), 3) := by decide +kernel
theorem dX12_cell_67 : decode cX12_cell 67 = .ok (.goto (-48), 3) := by decide +kernel
theorem dX12_cell_70 : decode cX12_cell 70 = .ok (.iload_n 3, 1) := by decide +kernel
theorem dX12_cell_71 : decode cX12_cell 71 = .ok (.bipush 8, 2) := by decide +kernel
theorem dX12_cell_73 : decode cX12_cell 73 = .ok (.if_icmp .ge 18, 3) := by decide +kernel
theorem dX12_cell_76 : decode cX12_cell 76 = .ok (.aload_n 0, 1) := by decide +kernel
theorem dX12_cell_77 : decode cX12_cell 77 = .ok (.iload_n 1, 1) := by decide +kernel
theorem dX12_cell_78 : decode cX12_cell 78 = .ok (.iload_n 2, 1) := by decide +kernel
theorem dX12_cell_79 : decode cX12_cell 79 = .ok (.iload_n 3, 1) := by decide +kernel
theorem dX12_cell_80 : decode cX12_cell 80 = .ok (.invokevirtual 273, 3) := by decide +kernel
theorem dX12_cell_83 : decode cX12_cell 83 = .ok (.iconst (-1), 1) := by decide +kernel
theorem dX12_cell_84 : decode cX12_cell 84 = .ok (.if_icmp .eq 7, 3) := by decide +kernel
theorem dX12_cell_87 : decode cX12_cell 87 = .ok (.iconst 1, 1) := by decide +kernel
theorem dX12_cell_88 : decode cX12_cell 88 = .ok (.goto 4, 3) := by decide +kernel
theorem dX12_cell_91 : decode cX12_cell 91 = .ok (.iconst 0, 1) := by decide +kernel
theorem dX12_cell_92 : decode cX12_cell 92 = .ok (.istore 6, 2) := by decide +kernel
theorem dX12_cell_94 : decode cX12_cell 94 = .ok (.aload_n 0, 1) := by decide +kernel
theorem dX12_cell_95 : decode cX12_cell 95 = .ok (.iload_n 1, 1) := by decide +kernel
theorem dX12_cell_96 : decode cX12_cell 96 = .ok (.iload_n 2, 1) := by decide +kernel
theorem dX12_cell_97 : decode cX12_cell 97 = .ok (.bipush 24, 2) := by decide +kernel
theorem dX12_cell_99 : decode cX12_cell 99 = .ok (.iload_n 3, 1) := by decide +kernel
theorem dX12_cell_100 : decode cX12_cell 100 = .ok (.invokevirtual 269, 3) := by decide +kernel
theorem dX12_cell_103 : decode cX12_cell 103 = .ok (.istore 7, 2) := by decide +kernel
theorem dX12_cell_105 : decode cX12_cell 105 = .ok (.iload 4, 2) := by decide +kernel
theorem dX12_cell_107 : decode cX12_cell 107 = .ok (.iload 6, 2) := by decide +kernel
theorem dX12_cell_109 : decode cX12_cell 109 = .ok (.ifCond .eq 7, 3) := by decide +kernel
theorem dX12_cell_112 : decode cX12_cell 112 = .ok (.iconst 1, 1) := by decide +kernel
theorem dX12_cell_113 : decode cX12_cell 113 = .ok (.goto 4, 3) := by decide +kernel
theorem dX12_cell_116 : decode cX12_cell 116 = .ok (.iconst 0, 1) := by decide +kernel
theorem dX12_cell_117 : decode cX12_cell 117 = .ok (.iadd, 1) := by decide +kernel
theorem dX12_cell_118 : decode cX12_cell 118 = .ok (.iload 7, 2) := by decide +kernel
theorem dX12_cell_120 : decode cX12_cell 120 = .ok (.ifCond .eq 7, 3) := by decide +kernel
theorem dX12_cell_123 : decode cX12_cell 123 = .ok (.iconst 1, 1) := by decide +kernel
theorem dX12_cell_124 : decode cX12_cell 124 = .ok (.goto 4, 3) := by decide +kernel
theorem dX12_cell_127 : decode cX12_cell 127 = .ok (.iconst 0, 1) := by decide +kernel
theorem dX12_cell_128 : decode cX12_cell 128 = .ok (.iadd, 1) := by decide +kernel
theorem dX12_cell_129 : decode cX12_cell 129 = .ok (.istore 8, 2) := by decide +kernel
theorem dX12_cell_131 : decode cX12_cell 131 = .ok (.iload 7, 2) := by decide +kernel
theorem dX12_cell_133 : decode cX12_cell 133 = .ok (.ifCond .eq 9, 3) := by decide +kernel
theorem dX12_cell_136 : decode cX12_cell 136 = .ok (.sipush 1000, 3) := by decide +kernel
theorem dX12_cell_139 : decode cX12_cell 139 = .ok (.goto 16, 3) := by decide +kernel
theorem dX12_cell_142 : decode cX12_cell 142 = .ok (.iload 6, 2) := by decide +kernel
theorem dX12_cell_144 : decode cX12_cell 144 = .ok (.ifCond .eq 9, 3) := by decide +kernel
theorem dX12_cell_147 : decode cX12_cell 147 = .ok (.sipush 2000, 3) := by decide +kernel
theorem dX12_cell_150 : decode cX12_cell 150 = .ok (.goto 5, 3) := by decide +kernel
theorem dX12_cell_153 : decode cX12_cell 153 = .ok (.iload 5, 2) := by decide +kernel
theorem dX12_cell_155 : decode cX12_cell 155 = .ok (.istore 9, 2) := by decide +kernel
theorem dX12_cell_157 : decode cX12_cell 157 = .ok (.iload 8, 2) := by decide +kernel
theorem dX12_cell_159 : decode cX12_cell 159 = .ok (.iconst 2, 1) := by decide +kernel
theorem dX12_cell_160 : decode cX12_cell 160 = .ok (.if_icmp .ne 46, 3) := by decide +kernel
theorem dX12_cell_163 : decode cX12_cell 163 = .ok (.iload 6, 2) := by decide +kernel
theorem dX12_cell_165 : decode cX12_cell 165 = .ok (.ifCond .eq 41, 3) := by decide +kernel
theorem dX12_cell_168 : decode cX12_cell 168 = .ok (.iload 4, 2) := by decide +kernel
theorem dX12_cell_170 : decode cX12_cell 170 = .ok (.iconst 1, 1) := by decide +kernel
theorem dX12_cell_171 : decode cX12_cell 171 = .ok (.if_icmp .ne 35, 3) := by decide +kernel
theorem dX12_cell_174 : decode cX12_cell 174 = .ok (.aload_n 0, 1) := by decide +kernel
theorem dX12_cell_175 : decode cX12_cell 175 = .ok (.getfield 37, 3) := by decide +kernel
theorem dX12_cell_178 : decode cX12_cell 178 = .ok (.iload_n 3, 1) := by decide +kernel
theorem dX12_cell_179 : decode cX12_cell 179 = .ok (.iaload, 1) := by decide +kernel
theorem dX12_cell_180 : decode cX12_cell 180 = .ok (.ifCond .le 26, 3) := by decide +kernel
theorem dX12_cell_183 : decode cX12_cell 183 = .ok (.aload_n 0, 1) := by decide +kernel
theorem dX12_cell_184 : decode cX12_cell 184 = .ok (.iload 5, 2) := by decide +kernel
theorem dX12_cell_186 : decode cX12_cell 186 = .ok (.invokevirtual 277, 3) := by decide +kernel
theorem dX12_cell_189 : decode cX12_cell 189 = .ok (.iconst (-1), 1) := by decide +kernel
theorem dX12_cell_190 : decode cX12_cell 190 = .ok (.if_icmp .eq 16, 3) := by decide +kernel
theorem dX12_cell_193 : decode cX12_cell 193 = .ok (.aload_n 0, 1) := by decide +kernel
theorem dX12_cell_194 : decode cX12_cell 194 = .ok (.iload 5, 2) := by decide +kernel
theorem dX12_cell_196 : decode cX12_cell 196 = .ok (.invokevirtual 280, 3) := by decide +kernel
theorem dX12_cell_199 : decode cX12_cell 199 = .ok (.ifCond .le 7, 3) := by decide +kernel
theorem dX12_cell_202 : decode cX12_cell 202 = .ok (.iconst 1, 1) := by decide +kernel
theorem dX12_cell_203 : decode cX12_cell 203 = .ok (.goto 4, 3) := by decide +kernel
theorem dX12_cell_206 : decode cX12_cell 206 = .ok (.iconst 0, 1) := by decide +kernel
theorem dX12_cell_207 : decode cX12_cell 207 = .ok (.istore 10, 2) := by decide +kernel
theorem dX12_cell_209 : decode cX12_cell 209 = .ok (.iload 10, 2) := by decide +kernel
theorem dX12_cell_211 : decode cX12_cell 211 = .ok (.ifCond .ne 22, 3) := by decide +kernel
theorem dX12_cell_214 : decode cX12_cell 214 = .ok (.iload 8, 2) := by decide +kernel
theorem dX12_cell_216 : decode cX12_cell 216 = .ok (.iconst 1, 1) := by decide +kernel
theorem dX12_cell_217 : decode cX12_cell 217 = .ok (.if_icmp .le 9, 3) := by decide +kernel
theorem dX12_cell_220 : decode cX12_cell 220 = .ok (.sipush 10000, 3) := by decide +kernel
theorem dX12_cell_223 : decode cX12_cell 223 = .ok (.goto 4, 3) := by decide +kernel
theorem dX12_cell_226 : decode cX12_cell 226 = .ok (.iconst 0, 1) := by decide +kernel
theorem dX12_cell_227 : decode cX12_cell 227 = .ok (.iload 9, 2) := by decide +kernel
theorem dX12_cell_229 : decode cX12_cell 229 = .ok (.iadd, 1) := by decide +kernel
theorem dX12_cell_230 : decode cX12_cell 230 = .ok (.iconst 1, 1) := by decide +kernel
theorem dX12_cell_231 : decode cX12_cell 231 = .ok (.iadd, 1) := by decide +kernel
theorem dX12_cell_232 : decode cX12_cell 232 = .ok (.ireturn, 1) := by decide +kernel
theorem dX12_cell_233 : decode cX12_cell 233 = .ok (.aload_n 0, 1) := by decide +kernel
theorem dX12_cell_234 : decode cX12_cell 234 = .ok (.iload 5, 2) := by decide +kernel
theorem dX12_cell_236 : decode cX12_cell 236 = .ok (.invokevirtual 280, 3) := by decide +kernel
theorem dX12_cell_239 : decode cX12_cell 239 = .ok (.aload_n 0, 1) := by decide +kernel
theorem dX12_cell_240 : decode cX12_cell 240 = .ok (.getfield 37, 3) := by decide +kernel
theorem dX12_cell_243 : decode cX12_cell 243 = .ok (.iload_n 3, 1) := by decide +kernel
theorem dX12_cell_244 : decode cX12_cell 244 = .ok (.iaload, 1) := by decide +kernel
theorem dX12_cell_245 : decode cX12_cell 245 = .ok (.isub, 1) := by decide +kernel
theorem dX12_cell_246 : decode cX12_cell 246 = .ok (.istore 11, 2) := by decide +kernel
theorem dX12_cell_248 : decode cX12_cell 248 = .ok (.iload 11, 2) := by decide +kernel
theorem dX12_cell_250 : decode cX12_cell 250 = .ok (.ifCond .gt 17, 3) := by decide +kernel
theorem dX12_cell_253 : decode cX12_cell 253 = .ok (.iload 11, 2) := by decide +kernel
theorem dX12_cell_255 : decode cX12_cell 255 = .ok (.ifCond .ne 17, 3) := by decide +kernel
theorem dX12_cell_258 : decode cX12_cell 258 = .ok (.aload_n 0, 1) := by decide +kernel
theorem dX12_cell_259 : decode cX12_cell 259 = .ok (.getfield 40, 3) := by decide +kernel
theorem dX12_cell_262 : decode cX12_cell 262 = .ok (.iload_n 3, 1) := by decide +kernel
theorem dX12_cell_263 : decode cX12_cell 263 = .ok (.iaload, 1) := by decide +kernel
theorem dX12_cell_264 : decode cX12_cell 264 = .ok (.ifCond .ne 8, 3) := by decide +kernel
theorem dX12_cell_267 : decode cX12_cell 267 = .ok (.iload 5, 2) := by decide +kernel
theorem dX12_cell_269 : decode cX12_cell 269 = .ok (.goto 25, 3) := by decide +kernel
theorem dX12_cell_272 : decode cX12_cell 272 = .ok (.iload 11, 2) := by decide +kernel
theorem dX12_cell_274 : decode cX12_cell 274 = .ok (.ifCond .lt 13, 3) := by decide +kernel
theorem dX12_cell_277 : decode cX12_cell 277 = .ok (.aload_n 0, 1) := by decide +kernel
theorem dX12_cell_278 : decode cX12_cell 278 = .ok (.getfield 40, 3) := by decide +kernel
theorem dX12_cell_281 : decode cX12_cell 281 = .ok (.iload_n 3, 1) := by decide +kernel
theorem dX12_cell_282 : decode cX12_cell 282 = .ok (.iaload, 1) := by decide +kernel
theorem dX12_cell_283 : decode cX12_cell 283 = .ok (.iconst 1, 1) := by decide +kernel
theorem dX12_cell_284 : decode cX12_cell 284 = .ok (.if_icmp .ne 9, 3) := by decide +kernel
theorem dX12_cell_287 : decode cX12_cell 287 = .ok (.sipush 2000, 3) := by decide +kernel
theorem dX12_cell_290 : decode cX12_cell 290 = .ok (.goto 4, 3) := by decide +kernel
theorem dX12_cell_293 : decode cX12_cell 293 = .ok (.iconst (-1), 1) := by decide +kernel
theorem dX12_cell_294 : decode cX12_cell 294 = .ok (.istore 12, 2) := by decide +kernel
theorem dX12_cell_296 : decode cX12_cell 296 = .ok (.sipush 20000, 3) := by decide +kernel
theorem dX12_cell_299 : decode cX12_cell 299 = .ok (.iload 12, 2) := by decide +kernel
theorem dX12_cell_301 : decode cX12_cell 301 = .ok (.iadd, 1) := by decide +kernel
theorem dX12_cell_302 : decode cX12_cell 302 = .ok (.iconst 1, 1) := by decide +kernel
theorem dX12_cell_303 : decode cX12_cell 303 = .ok (.iadd, 1) := by decide +kernel
theorem dX12_cell_304 : decode cX12_cell 304 = .ok (.ireturn, 1) := by decide +kernel
theorem dX12_predicted_0 : decode cX12_predicted 0 = .ok (.iconst 0, 1) := by decide +kernel
theorem dX12_predicted_1 : decode cX12_predicted 1 = .ok (.istore_n 3, 1) := by decide +kernel
theorem dX12_predicted_2 : decode cX12_predicted 2 = .ok (.iconst (-1), 1) := by decide +kernel
theorem dX12_predicted_3 : decode cX12_predicted 3 = .ok (.istore 4, 2) := by decide +kernel
theorem dX12_predicted_5 : decode cX12_predicted 5 = .ok (.aload_n 0, 1) := by decide +kernel
theorem dX12_predicted_6 : decode cX12_predicted 6 = .ok (.getfield 19, 3) := by decide +kernel
theorem dX12_predicted_9 : decode cX12_predicted 9 = .ok (.aload_n 0, 1) := by decide +kernel
theorem dX12_predicted_10 : decode cX12_predicted 10 = .ok (.getfield 139, 3) := by decide +kernel
theorem dX12_predicted_13 : decode cX12_predicted 13 = .ok (.iaload, 1) := by decide +kernel
theorem dX12_predicted_14 : decode cX12_predicted 14 = .ok (.iconst 1, 1) := by decide +kernel
theorem dX12_predicted_15 : decode cX12_predicted 15 = .ok (.isub, 1) := by decide +kernel
theorem dX12_predicted_16 : decode cX12_predicted 16 = .ok (.istore 5, 2) := by decide +kernel
theorem dX12_predicted_18 : decode cX12_predicted 18 = .ok (.iload 5, 2) := by decide +kernel
theorem dX12_predicted_20 : decode cX12_predicted 20 = .ok (.ifCond .lt 93, 3) := by decide +kernel
theorem dX12_predicted_23 : decode cX12_predicted 23 = .ok (.aload_n 0, 1) := by decide +kernel
theorem dX12_predicted_24 : decode cX12_predicted 24 = .ok (.iload 5, 2) := by decide +kernel
theorem dX12_predicted_26 : decode cX12_predicted 26 = .ok (.iconst 0, 1) := by decide +kernel
theorem dX12_predicted_27 : decode cX12_predicted 27 = .ok (.invokevirtual 196, 3) := by decide +kernel
theorem dX12_predicted_30 : decode cX12_predicted 30 = .ok (.aload_n 0, 1) := by decide +kernel
theorem dX12_predicted_31 : decode cX12_predicted 31 = .ok (.iload 5, 2) := by decide +kernel
theorem dX12_predicted_33 : decode cX12_predicted 33 = .ok (.iconst 0, 1) := by decide +kernel
theorem dX12_predicted_34 : decode cX12_predicted 34 = .ok (.invokevirtual 199, 3) := by decide +kernel
theorem dX12_predicted_37 : decode cX12_predicted 37 = .ok (.ifCond .eq 12, 3) := by decide +kernel
theorem dX12_predicted_40 : decode cX12_predicted 40 = .ok (.aload_n 0, 1) := by decide +kernel
theorem dX12_predicted_41 : decode cX12_predicted 41 = .ok (.getfield 55, 3) := by decide +kernel
theorem dX12_predicted_44 : decode cX12_predicted 44 = .ok (.iload_n 1, 1) := by decide +kernel
theorem dX12_predicted_45 : decode cX12_predicted 45 = .ok (.iaload, 1) := by decide +kernel
theorem dX12_predicted_46 : decode cX12_predicted 46 = .ok (.goto 4, 3) := by decide +kernel
theorem dX12_predicted_49 : decode cX12_predicted 49 = .ok (.iconst 0, 1) := by decide +kernel
theorem dX12_predicted_50 : decode cX12_predicted 50 = .ok (.ior, 1) := by decide +kernel
theorem dX12_predicted_51 : decode cX12_predicted 51 = .ok (.istore 6, 2) := by decide +kernel
theorem dX12_predicted_53 : decode cX12_predicted 53 = .ok (.aload_n 0, 1) := by decide +kernel
theorem dX12_predicted_54 : decode cX12_predicted 54 = .ok (.iload 5, 2) := by decide +kernel
theorem dX12_predicted_56 : decode cX12_predicted 56 = .ok (.invokevirtual 193, 3) := by decide +kernel
theorem dX12_predicted_59 : decode cX12_predicted 59 = .ok (.iload_n 1, 1) := by decide +kernel
theorem dX12_predicted_60 : decode cX12_predicted 60 = .ok (.if_icmp .ne 17, 3) := by decide +kernel
theorem dX12_predicted_63 : decode cX12_predicted 63 = .ok (.iload 6, 2) := by decide +kernel
theorem dX12_predicted_65 : decode cX12_predicted 65 = .ok (.iload_n 2, 1) := by decide +kernel
theorem dX12_predicted_66 : decode cX12_predicted 66 = .ok (.ishr, 1) := by decide +kernel
theorem dX12_predicted_67 : decode cX12_predicted 67 = .ok (.iconst 1, 1) := by decide +kernel
theorem dX12_predicted_68 : decode cX12_predicted 68 = .ok (.iand, 1) := by decide +kernel
theorem dX12_predicted_69 : decode cX12_predicted 69 = .ok (.iconst 1, 1) := by decide +kernel
theorem dX12_predicted_70 : decode cX12_predicted 70 = .ok (.if_icmp .ne 7, 3) := by decide +kernel
theorem dX12_predicted_73 : decode cX12_predicted 73 = .ok (.iconst 1, 1) := by decide +kernel
theorem dX12_predicted_74 : decode cX12_predicted 74 = .ok (.goto 4, 3) := by decide +kernel
theorem dX12_predicted_77 : decode cX12_predicted 77 = .ok (.iconst 0, 1) := by decide +kernel
theorem dX12_predicted_78 : decode cX12_predicted 78 = .ok (.istore 7, 2) := by decide +kernel
theorem dX12_predicted_80 : decode cX12_predicted 80 = .ok (.iload_n 3, 1) := by decide +kernel
theorem dX12_predicted_81 : decode cX12_predicted 81 = .ok (.iload 7, 2) := by decide +kernel
theorem dX12_predicted_83 : decode cX12_predicted 83 = .ok (.ifCond .eq 7, 3) := by decide +kernel
theorem dX12_predicted_86 : decode cX12_predicted 86 = .ok (.iconst 1, 1) := by decide +kernel
theorem dX12_predicted_87 : decode cX12_predicted 87 = .ok (.goto 4, 3) := by decide +kernel
theorem dX12_predicted_90 : decode cX12_predicted 90 = .ok (.iconst 0, 1) := by decide +kernel
theorem dX12_predicted_91 : decode cX12_predicted 91 = .ok (.iadd, 1) := by decide +kernel
theorem dX12_predicted_92 : decode cX12_predicted 92 = .ok (.istore_n 3, 1) := by decide +kernel
theorem dX12_predicted_93 : decode cX12_predicted 93 = .ok (.iload 7, 2) := by decide +kernel
theorem dX12_predicted_95 : decode cX12_predicted 95 = .ok (.ifCond .eq 8, 3) := by decide +kernel
theorem dX12_predicted_98 : decode cX12_predicted 98 = .ok (.iload 5, 2) := by decide +kernel
theorem dX12_predicted_100 : decode cX12_predicted 100 = .ok (.goto 5, 3) := by decide +kernel
theorem dX12_predicted_103 : decode cX12_predicted 103 = .ok (.iload 4, 2) := by decide +kernel
theorem dX12_predicted_105 : decode cX12_predicted 105 = .ok (.istore 4, 2) := by decide +kernel
theorem dX12_predicted_107 : decode cX12_predicted 107 = .ok (.iinc 5 (-1), 3) := by decide +kernel
theorem dX12_predicted_110 : decode cX12_predicted 110 = .ok (.goto (-92), 3) := by decide +kernel
theorem dX12_predicted_113 : decode cX12_predicted 113 = .ok (.bipush 100, 2) := by decide +kernel
theorem dX12_predicted_115 : decode cX12_predicted 115 = .ok (.iload_n 3, 1) := by decide +kernel
theorem dX12_predicted_116 : decode cX12_predicted 116 = .ok (.imul, 1) := by decide +kernel
theorem dX12_predicted_117 : decode cX12_predicted 117 = .ok (.iload 4, 2) := by decide +kernel
theorem dX12_predicted_119 : decode cX12_predicted 119 = .ok (.iadd, 1) := by decide +kernel
theorem dX12_predicted_120 : decode cX12_predicted 120 = .ok (.iconst 1, 1) := by decide +kernel
theorem dX12_predicted_121 : decode cX12_predicted 121 = .ok (.iadd, 1) := by decide +kernel
theorem dX12_predicted_122 : decode cX12_predicted 122 = .ok (.ireturn, 1) := by decide +kernel
theorem dX12_isKind_0 : decode cX12_isKind 0 = .ok (.iload_n 0, 1) := by decide +kernel
theorem dX12_isKind_1 : decode cX12_isKind 1 = .ok (.ifCond .lt 12, 3) := by decide +kernel
theorem dX12_isKind_4 : decode cX12_isKind 4 = .ok (.iload_n 0, 1) := by decide +kernel
theorem dX12_isKind_5 : decode cX12_isKind 5 = .ok (.iconst 3, 1) := by decide +kernel
theorem dX12_isKind_6 : decode cX12_isKind 6 = .ok (.if_icmp .gt 7, 3) := by decide +kernel
theorem dX12_isKind_9 : decode cX12_isKind 9 = .ok (.iconst 1, 1) := by decide +kernel
theorem dX12_isKind_10 : decode cX12_isKind 10 = .ok (.goto 4, 3) := by decide +kernel
theorem dX12_isKind_13 : decode cX12_isKind 13 = .ok (.iconst 0, 1) := by decide +kernel
theorem dX12_isKind_14 : decode cX12_isKind 14 = .ok (.ireturn, 1) := by decide +kernel
theorem dX12_size_0 : decode cX12_size 0 = .ok (.aload_n 0, 1) := by decide +kernel
theorem dX12_size_1 : decode cX12_size 1 = .ok (.iload_n 1, 1) := by decide +kernel
theorem dX12_size_2 : decode cX12_size 2 = .ok (.invokestatic 283, 3) := by decide +kernel
theorem dX12_size_5 : decode cX12_size 5 = .ok (.iconst 1, 1) := by decide +kernel
theorem dX12_size_6 : decode cX12_size 6 = .ok (.iconst 1, 1) := by decide +kernel
theorem dX12_size_7 : decode cX12_size 7 = .ok (.invokevirtual 131, 3) := by decide +kernel
theorem dX12_size_10 : decode cX12_size 10 = .ok (.ifCond .ne 5, 3) := by decide +kernel
theorem dX12_size_13 : decode cX12_size 13 = .ok (.iconst 0, 1) := by decide +kernel
theorem dX12_size_14 : decode cX12_size 14 = .ok (.ireturn, 1) := by decide +kernel
theorem dX12_size_15 : decode cX12_size 15 = .ok (.iload_n 1, 1) := by decide +kernel
theorem dX12_size_16 : decode cX12_size 16 = .ok (.ifCond .eq 9, 3) := by decide +kernel
theorem dX12_size_19 : decode cX12_size 19 = .ok (.aload_n 0, 1) := by decide +kernel
theorem dX12_size_20 : decode cX12_size 20 = .ok (.iload_n 1, 1) := by decide +kernel
theorem dX12_size_21 : decode cX12_size 21 = .ok (.invokevirtual 286, 3) := by decide +kernel
theorem dX12_size_24 : decode cX12_size 24 = .ok (.ireturn, 1) := by decide +kernel
theorem dX12_size_25 : decode cX12_size 25 = .ok (.aload_n 0, 1) := by decide +kernel
theorem dX12_size_26 : decode cX12_size 26 = .ok (.invokevirtual 216, 3) := by decide +kernel
theorem dX12_size_29 : decode cX12_size 29 = .ok (.iconst 0, 1) := by decide +kernel
theorem dX12_size_30 : decode cX12_size 30 = .ok (.istore_n 2, 1) := by decide +kernel
theorem dX12_size_31 : decode cX12_size 31 = .ok (.iconst 0, 1) := by decide +kernel
theorem dX12_size_32 : decode cX12_size 32 = .ok (.istore_n 3, 1) := by decide +kernel
theorem dX12_size_33 : decode cX12_size 33 = .ok (.iload_n 3, 1) := by decide +kernel
theorem dX12_size_34 : decode cX12_size 34 = .ok (.sipush 144, 3) := by decide +kernel
theorem dX12_size_37 : decode cX12_size 37 = .ok (.if_icmp .ge 34, 3) := by decide +kernel
theorem dX12_size_40 : decode cX12_size 40 = .ok (.iload_n 2, 1) := by decide +kernel
theorem dX12_size_41 : decode cX12_size 41 = .ok (.aload_n 0, 1) := by decide +kernel
theorem dX12_size_42 : decode cX12_size 42 = .ok (.iload_n 3, 1) := by decide +kernel
theorem dX12_size_43 : decode cX12_size 43 = .ok (.bipush 9, 2) := by decide +kernel
theorem dX12_size_45 : decode cX12_size 45 = .ok (.idiv, 1) := by decide +kernel
theorem dX12_size_46 : decode cX12_size 46 = .ok (.iload_n 3, 1) := by decide +kernel
theorem dX12_size_47 : decode cX12_size 47 = .ok (.bipush 9, 2) := by decide +kernel
theorem dX12_size_49 : decode cX12_size 49 = .ok (.irem, 1) := by decide +kernel
theorem dX12_size_50 : decode cX12_size 50 = .ok (.invokevirtual 289, 3) := by decide +kernel
theorem dX12_size_53 : decode cX12_size 53 = .ok (.bipush 100, 2) := by decide +kernel
theorem dX12_size_55 : decode cX12_size 55 = .ok (.if_icmp .lt 7, 3) := by decide +kernel
theorem dX12_size_58 : decode cX12_size 58 = .ok (.iconst 1, 1) := by decide +kernel
theorem dX12_size_59 : decode cX12_size 59 = .ok (.goto 4, 3) := by decide +kernel
theorem dX12_size_62 : decode cX12_size 62 = .ok (.iconst 0, 1) := by decide +kernel
theorem dX12_size_63 : decode cX12_size 63 = .ok (.iadd, 1) := by decide +kernel
theorem dX12_size_64 : decode cX12_size 64 = .ok (.istore_n 2, 1) := by decide +kernel
theorem dX12_size_65 : decode cX12_size 65 = .ok (.iinc 3 1, 3) := by decide +kernel
theorem dX12_size_68 : decode cX12_size 68 = .ok (.goto (-35), 3) := by decide +kernel
theorem dX12_size_71 : decode cX12_size 71 = .ok (.iload_n 2, 1) := by decide +kernel
theorem dX12_size_72 : decode cX12_size 72 = .ok (.ireturn, 1) := by decide +kernel
theorem dX12_counts_0 : decode cX12_counts 0 = .ok (.iconst 0, 1) := by decide +kernel
theorem dX12_counts_1 : decode cX12_counts 1 = .ok (.istore_n 3, 1) := by decide +kernel
theorem dX12_counts_2 : decode cX12_counts 2 = .ok (.iload_n 1, 1) := by decide +kernel
theorem dX12_counts_3 : decode cX12_counts 3 = .ok (.ifCond .ne 58, 3) := by decide +kernel
theorem dX12_counts_6 : decode cX12_counts 6 = .ok (.aload_n 0, 1) := by decide +kernel
theorem dX12_counts_7 : decode cX12_counts 7 = .ok (.invokevirtual 216, 3) := by decide +kernel
theorem dX12_counts_10 : decode cX12_counts 10 = .ok (.iconst 0, 1) := by decide +kernel
theorem dX12_counts_11 : decode cX12_counts 11 = .ok (.istore 4, 2) := by decide +kernel
theorem dX12_counts_13 : decode cX12_counts 13 = .ok (.iload 4, 2) := by decide +kernel
theorem dX12_counts_15 : decode cX12_counts 15 = .ok (.sipush 144, 3) := by decide +kernel
theorem dX12_counts_18 : decode cX12_counts 18 = .ok (.if_icmp .ge 41, 3) := by decide +kernel
theorem dX12_counts_21 : decode cX12_counts 21 = .ok (.iload_n 3, 1) := by decide +kernel
theorem dX12_counts_22 : decode cX12_counts 22 = .ok (.iload_n 2, 1) := by decide +kernel
theorem dX12_counts_23 : decode cX12_counts 23 = .ok (.ifCond .ne 27, 3) := by decide +kernel
theorem dX12_counts_26 : decode cX12_counts 26 = .ok (.aload_n 0, 1) := by decide +kernel
theorem dX12_counts_27 : decode cX12_counts 27 = .ok (.iload 4, 2) := by decide +kernel
theorem dX12_counts_29 : decode cX12_counts 29 = .ok (.bipush 9, 2) := by decide +kernel
theorem dX12_counts_31 : decode cX12_counts 31 = .ok (.idiv, 1) := by decide +kernel
theorem dX12_counts_32 : decode cX12_counts 32 = .ok (.iload 4, 2) := by decide +kernel
theorem dX12_counts_34 : decode cX12_counts 34 = .ok (.bipush 9, 2) := by decide +kernel
theorem dX12_counts_36 : decode cX12_counts 36 = .ok (.irem, 1) := by decide +kernel
theorem dX12_counts_37 : decode cX12_counts 37 = .ok (.invokevirtual 289, 3) := by decide +kernel
theorem dX12_counts_40 : decode cX12_counts 40 = .ok (.sipush 200, 3) := by decide +kernel
theorem dX12_counts_43 : decode cX12_counts 43 = .ok (.if_icmp .lt 7, 3) := by decide +kernel
theorem dX12_counts_46 : decode cX12_counts 46 = .ok (.iconst 1, 1) := by decide +kernel
theorem dX12_counts_47 : decode cX12_counts 47 = .ok (.goto 4, 3) := by decide +kernel
theorem dX12_counts_50 : decode cX12_counts 50 = .ok (.iconst 0, 1) := by decide +kernel
theorem dX12_counts_51 : decode cX12_counts 51 = .ok (.iadd, 1) := by decide +kernel
theorem dX12_counts_52 : decode cX12_counts 52 = .ok (.istore_n 3, 1) := by decide +kernel
theorem dX12_counts_53 : decode cX12_counts 53 = .ok (.iinc 4 1, 3) := by decide +kernel
theorem dX12_counts_56 : decode cX12_counts 56 = .ok (.goto (-43), 3) := by decide +kernel
theorem dX12_counts_59 : decode cX12_counts 59 = .ok (.iload_n 3, 1) := by decide +kernel
theorem dX12_counts_60 : decode cX12_counts 60 = .ok (.ireturn, 1) := by decide +kernel
theorem dX12_counts_61 : decode cX12_counts 61 = .ok (.aload_n 0, 1) := by decide +kernel
theorem dX12_counts_62 : decode cX12_counts 62 = .ok (.iload_n 1, 1) := by decide +kernel
theorem dX12_counts_63 : decode cX12_counts 63 = .ok (.invokevirtual 286, 3) := by decide +kernel
theorem dX12_counts_66 : decode cX12_counts 66 = .ok (.istore 4, 2) := by decide +kernel
theorem dX12_counts_68 : decode cX12_counts 68 = .ok (.iconst 0, 1) := by decide +kernel
theorem dX12_counts_69 : decode cX12_counts 69 = .ok (.istore 5, 2) := by decide +kernel
theorem dX12_counts_71 : decode cX12_counts 71 = .ok (.iload 5, 2) := by decide +kernel
theorem dX12_counts_73 : decode cX12_counts 73 = .ok (.bipush 9, 2) := by decide +kernel
theorem dX12_counts_75 : decode cX12_counts 75 = .ok (.iload 4, 2) := by decide +kernel
theorem dX12_counts_77 : decode cX12_counts 77 = .ok (.imul, 1) := by decide +kernel
theorem dX12_counts_78 : decode cX12_counts 78 = .ok (.if_icmp .ge 54, 3) := by decide +kernel
theorem dX12_counts_81 : decode cX12_counts 81 = .ok (.aload_n 0, 1) := by decide +kernel
theorem dX12_counts_82 : decode cX12_counts 82 = .ok (.iload_n 1, 1) := by decide +kernel
theorem dX12_counts_83 : decode cX12_counts 83 = .ok (.iload 5, 2) := by decide +kernel
theorem dX12_counts_85 : decode cX12_counts 85 = .ok (.bipush 9, 2) := by decide +kernel
theorem dX12_counts_87 : decode cX12_counts 87 = .ok (.idiv, 1) := by decide +kernel
theorem dX12_counts_88 : decode cX12_counts 88 = .ok (.iload 5, 2) := by decide +kernel
theorem dX12_counts_90 : decode cX12_counts 90 = .ok (.bipush 9, 2) := by decide +kernel
theorem dX12_counts_92 : decode cX12_counts 92 = .ok (.irem, 1) := by decide +kernel
theorem dX12_counts_93 : decode cX12_counts 93 = .ok (.invokevirtual 292, 3) := by decide +kernel
theorem dX12_counts_96 : decode cX12_counts 96 = .ok (.istore 6, 2) := by decide +kernel
theorem dX12_counts_98 : decode cX12_counts 98 = .ok (.iload_n 3, 1) := by decide +kernel
theorem dX12_counts_99 : decode cX12_counts 99 = .ok (.iload 6, 2) := by decide +kernel
theorem dX12_counts_101 : decode cX12_counts 101 = .ok (.sipush 20000, 3) := by decide +kernel
theorem dX12_counts_104 : decode cX12_counts 104 = .ok (.if_icmp .ge 15, 3) := by decide +kernel
theorem dX12_counts_107 : decode cX12_counts 107 = .ok (.iload_n 2, 1) := by decide +kernel
theorem dX12_counts_108 : decode cX12_counts 108 = .ok (.ifCond .ne 15, 3) := by decide +kernel
theorem dX12_counts_111 : decode cX12_counts 111 = .ok (.iload 6, 2) := by decide +kernel
theorem dX12_counts_113 : decode cX12_counts 113 = .ok (.sipush 10000, 3) := by decide +kernel
theorem dX12_counts_116 : decode cX12_counts 116 = .ok (.if_icmp .lt 7, 3) := by decide +kernel
theorem dX12_counts_119 : decode cX12_counts 119 = .ok (.iconst 1, 1) := by decide +kernel
theorem dX12_counts_120 : decode cX12_counts 120 = .ok (.goto 4, 3) := by decide +kernel
theorem dX12_counts_123 : decode cX12_counts 123 = .ok (.iconst 0, 1) := by decide +kernel
theorem dX12_counts_124 : decode cX12_counts 124 = .ok (.iadd, 1) := by decide +kernel
theorem dX12_counts_125 : decode cX12_counts 125 = .ok (.istore_n 3, 1) := by decide +kernel
theorem dX12_counts_126 : decode cX12_counts 126 = .ok (.iinc 5 1, 3) := by decide +kernel
theorem dX12_counts_129 : decode cX12_counts 129 = .ok (.goto (-58), 3) := by decide +kernel
theorem dX12_counts_132 : decode cX12_counts 132 = .ok (.iload 4, 2) := by decide +kernel
theorem dX12_counts_134 : decode cX12_counts 134 = .ok (.bipush (-2), 2) := by decide +kernel
theorem dX12_counts_136 : decode cX12_counts 136 = .ok (.if_icmp .ne 8, 3) := by decide +kernel
theorem dX12_counts_139 : decode cX12_counts 139 = .ok (.bipush (-2), 2) := by decide +kernel
theorem dX12_counts_141 : decode cX12_counts 141 = .ok (.goto 4, 3) := by decide +kernel
theorem dX12_counts_144 : decode cX12_counts 144 = .ok (.iload_n 3, 1) := by decide +kernel
theorem dX12_counts_145 : decode cX12_counts 145 = .ok (.ireturn, 1) := by decide +kernel
theorem dX12_conflicts_0 : decode cX12_conflicts 0 = .ok (.aload_n 0, 1) := by decide +kernel
theorem dX12_conflicts_1 : decode cX12_conflicts 1 = .ok (.iload_n 1, 1) := by decide +kernel
theorem dX12_conflicts_2 : decode cX12_conflicts 2 = .ok (.invokestatic 283, 3) := by decide +kernel
theorem dX12_conflicts_5 : decode cX12_conflicts 5 = .ok (.iconst 1, 1) := by decide +kernel
theorem dX12_conflicts_6 : decode cX12_conflicts 6 = .ok (.iconst 1, 1) := by decide +kernel
theorem dX12_conflicts_7 : decode cX12_conflicts 7 = .ok (.invokevirtual 131, 3) := by decide +kernel
theorem dX12_conflicts_10 : decode cX12_conflicts 10 = .ok (.ifCond .eq 12, 3) := by decide +kernel
theorem dX12_conflicts_13 : decode cX12_conflicts 13 = .ok (.aload_n 0, 1) := by decide +kernel
theorem dX12_conflicts_14 : decode cX12_conflicts 14 = .ok (.iload_n 1, 1) := by decide +kernel
theorem dX12_conflicts_15 : decode cX12_conflicts 15 = .ok (.iconst 0, 1) := by decide +kernel
theorem dX12_conflicts_16 : decode cX12_conflicts 16 = .ok (.invokevirtual 295, 3) := by decide +kernel
theorem dX12_conflicts_19 : decode cX12_conflicts 19 = .ok (.goto 4, 3) := by decide +kernel
theorem dX12_conflicts_22 : decode cX12_conflicts 22 = .ok (.iconst 0, 1) := by decide +kernel
theorem dX12_conflicts_23 : decode cX12_conflicts 23 = .ok (.ireturn, 1) := by decide +kernel
theorem dX12_settled_0 : decode cX12_settled 0 = .ok (.aload_n 0, 1) := by decide +kernel
theorem dX12_settled_1 : decode cX12_settled 1 = .ok (.iload_n 1, 1) := by decide +kernel
theorem dX12_settled_2 : decode cX12_settled 2 = .ok (.invokestatic 283, 3) := by decide +kernel
theorem dX12_settled_5 : decode cX12_settled 5 = .ok (.iconst 1, 1) := by decide +kernel
theorem dX12_settled_6 : decode cX12_settled 6 = .ok (.iconst 1, 1) := by decide +kernel
theorem dX12_settled_7 : decode cX12_settled 7 = .ok (.invokevirtual 131, 3) := by decide +kernel
theorem dX12_settled_10 : decode cX12_settled 10 = .ok (.ifCond .eq 12, 3) := by decide +kernel
theorem dX12_settled_13 : decode cX12_settled 13 = .ok (.aload_n 0, 1) := by decide +kernel
theorem dX12_settled_14 : decode cX12_settled 14 = .ok (.iload_n 1, 1) := by decide +kernel
theorem dX12_settled_15 : decode cX12_settled 15 = .ok (.iconst 1, 1) := by decide +kernel
theorem dX12_settled_16 : decode cX12_settled 16 = .ok (.invokevirtual 295, 3) := by decide +kernel
theorem dX12_settled_19 : decode cX12_settled 19 = .ok (.goto 4, 3) := by decide +kernel
theorem dX12_settled_22 : decode cX12_settled 22 = .ok (.iconst 0, 1) := by decide +kernel
theorem dX12_settled_23 : decode cX12_settled 23 = .ok (.ireturn, 1) := by decide +kernel
theorem dX12_chosen_0 : decode cX12_chosen 0 = .ok (.aload_n 0, 1) := by decide +kernel
theorem dX12_chosen_1 : decode cX12_chosen 1 = .ok (.iconst 0, 1) := by decide +kernel
theorem dX12_chosen_2 : decode cX12_chosen 2 = .ok (.putfield 104, 3) := by decide +kernel
theorem dX12_chosen_5 : decode cX12_chosen 5 = .ok (.iconst 0, 1) := by decide +kernel
theorem dX12_chosen_6 : decode cX12_chosen 6 = .ok (.istore_n 1, 1) := by decide +kernel
theorem dX12_chosen_7 : decode cX12_chosen 7 = .ok (.iload_n 1, 1) := by decide +kernel
theorem dX12_chosen_8 : decode cX12_chosen 8 = .ok (.iconst 3, 1) := by decide +kernel
theorem dX12_chosen_9 : decode cX12_chosen 9 = .ok (.if_icmp .gt 34, 3) := by decide +kernel
theorem dX12_chosen_12 : decode cX12_chosen 12 = .ok (.aload_n 0, 1) := by decide +kernel
theorem dX12_chosen_13 : decode cX12_chosen 13 = .ok (.iload_n 1, 1) := by decide +kernel
theorem dX12_chosen_14 : decode cX12_chosen 14 = .ok (.iconst 0, 1) := by decide +kernel
theorem dX12_chosen_15 : decode cX12_chosen 15 = .ok (.invokevirtual 295, 3) := by decide +kernel
theorem dX12_chosen_18 : decode cX12_chosen 18 = .ok (.istore_n 2, 1) := by decide +kernel
theorem dX12_chosen_19 : decode cX12_chosen 19 = .ok (.iload_n 2, 1) := by decide +kernel
theorem dX12_chosen_20 : decode cX12_chosen 20 = .ok (.bipush (-2), 2) := by decide +kernel
theorem dX12_chosen_22 : decode cX12_chosen 22 = .ok (.if_icmp .eq 15, 3) := by decide +kernel
theorem dX12_chosen_25 : decode cX12_chosen 25 = .ok (.iload_n 2, 1) := by decide +kernel
theorem dX12_chosen_26 : decode cX12_chosen 26 = .ok (.aload_n 0, 1) := by decide +kernel
theorem dX12_chosen_27 : decode cX12_chosen 27 = .ok (.iload_n 1, 1) := by decide +kernel
theorem dX12_chosen_28 : decode cX12_chosen 28 = .ok (.iconst 1, 1) := by decide +kernel
theorem dX12_chosen_29 : decode cX12_chosen 29 = .ok (.invokevirtual 295, 3) := by decide +kernel
theorem dX12_chosen_32 : decode cX12_chosen 32 = .ok (.if_icmp .ne 5, 3) := by decide +kernel
theorem dX12_chosen_35 : decode cX12_chosen 35 = .ok (.iload_n 1, 1) := by decide +kernel
theorem dX12_chosen_36 : decode cX12_chosen 36 = .ok (.ireturn, 1) := by decide +kernel
theorem dX12_chosen_37 : decode cX12_chosen 37 = .ok (.iinc 1 1, 3) := by decide +kernel
theorem dX12_chosen_40 : decode cX12_chosen 40 = .ok (.goto (-33), 3) := by decide +kernel
theorem dX12_chosen_43 : decode cX12_chosen 43 = .ok (.iconst (-1), 1) := by decide +kernel
theorem dX12_chosen_44 : decode cX12_chosen 44 = .ok (.ireturn, 1) := by decide +kernel
theorem dX12_put_0 : decode cX12_put 0 = .ok (.aload_n 0, 1) := by decide +kernel
theorem dX12_put_1 : decode cX12_put 1 = .ok (.iload_n 1, 1) := by decide +kernel
theorem dX12_put_2 : decode cX12_put 2 = .ok (.ifCond .lt 24, 3) := by decide +kernel
theorem dX12_put_5 : decode cX12_put 5 = .ok (.iload_n 1, 1) := by decide +kernel
theorem dX12_put_6 : decode cX12_put 6 = .ok (.aload_n 0, 1) := by decide +kernel
theorem dX12_put_7 : decode cX12_put 7 = .ok (.getfield 299, 3) := by decide +kernel
theorem dX12_put_10 : decode cX12_put 10 = .ok (.if_icmp .gt 16, 3) := by decide +kernel
theorem dX12_put_13 : decode cX12_put 13 = .ok (.iload_n 2, 1) := by decide +kernel
theorem dX12_put_14 : decode cX12_put 14 = .ok (.bipush 8, 2) := by decide +kernel
theorem dX12_put_16 : decode cX12_put 16 = .ok (.invokestatic 172, 3) := by decide +kernel
theorem dX12_put_19 : decode cX12_put 19 = .ok (.ifCond .eq 7, 3) := by decide +kernel
theorem dX12_put_22 : decode cX12_put 22 = .ok (.iconst 1, 1) := by decide +kernel
theorem dX12_put_23 : decode cX12_put 23 = .ok (.goto 4, 3) := by decide +kernel
theorem dX12_put_26 : decode cX12_put 26 = .ok (.iconst 0, 1) := by decide +kernel
theorem dX12_put_27 : decode cX12_put 27 = .ok (.aload_n 0, 1) := by decide +kernel
theorem dX12_put_28 : decode cX12_put 28 = .ok (.getfield 299, 3) := by decide +kernel
theorem dX12_put_31 : decode cX12_put 31 = .ok (.bipush 12, 2) := by decide +kernel
theorem dX12_put_33 : decode cX12_put 33 = .ok (.if_icmp .ge 7, 3) := by decide +kernel
theorem dX12_put_36 : decode cX12_put 36 = .ok (.iconst 1, 1) := by decide +kernel
theorem dX12_put_37 : decode cX12_put 37 = .ok (.goto 4, 3) := by decide +kernel
theorem dX12_put_40 : decode cX12_put 40 = .ok (.iconst 0, 1) := by decide +kernel
theorem dX12_put_41 : decode cX12_put 41 = .ok (.iconst 1, 1) := by decide +kernel
theorem dX12_put_42 : decode cX12_put 42 = .ok (.invokevirtual 131, 3) := by decide +kernel
theorem dX12_put_45 : decode cX12_put 45 = .ok (.ifCond .ne 5, 3) := by decide +kernel
theorem dX12_put_48 : decode cX12_put 48 = .ok (.iconst 0, 1) := by decide +kernel
theorem dX12_put_49 : decode cX12_put 49 = .ok (.ireturn, 1) := by decide +kernel
theorem dX12_put_50 : decode cX12_put 50 = .ok (.aload_n 0, 1) := by decide +kernel
theorem dX12_put_51 : decode cX12_put 51 = .ok (.getfield 299, 3) := by decide +kernel
theorem dX12_put_54 : decode cX12_put 54 = .ok (.istore_n 3, 1) := by decide +kernel
theorem dX12_put_55 : decode cX12_put 55 = .ok (.iload_n 3, 1) := by decide +kernel
theorem dX12_put_56 : decode cX12_put 56 = .ok (.iload_n 1, 1) := by decide +kernel
theorem dX12_put_57 : decode cX12_put 57 = .ok (.if_icmp .le 23, 3) := by decide +kernel
theorem dX12_put_60 : decode cX12_put 60 = .ok (.aload_n 0, 1) := by decide +kernel
theorem dX12_put_61 : decode cX12_put 61 = .ok (.getfield 49, 3) := by decide +kernel
theorem dX12_put_64 : decode cX12_put 64 = .ok (.iload_n 3, 1) := by decide +kernel
theorem dX12_put_65 : decode cX12_put 65 = .ok (.aload_n 0, 1) := by decide +kernel
theorem dX12_put_66 : decode cX12_put 66 = .ok (.getfield 49, 3) := by decide +kernel
theorem dX12_put_69 : decode cX12_put 69 = .ok (.iload_n 3, 1) := by decide +kernel
theorem dX12_put_70 : decode cX12_put 70 = .ok (.iconst 1, 1) := by decide +kernel
theorem dX12_put_71 : decode cX12_put 71 = .ok (.isub, 1) := by decide +kernel
theorem dX12_put_72 : decode cX12_put 72 = .ok (.iaload, 1) := by decide +kernel
theorem dX12_put_73 : decode cX12_put 73 = .ok (.iastore, 1) := by decide +kernel
theorem dX12_put_74 : decode cX12_put 74 = .ok (.iinc 3 (-1), 3) := by decide +kernel
theorem dX12_put_77 : decode cX12_put 77 = .ok (.goto (-22), 3) := by decide +kernel
theorem dX12_put_80 : decode cX12_put 80 = .ok (.aload_n 0, 1) := by decide +kernel
theorem dX12_put_81 : decode cX12_put 81 = .ok (.getfield 49, 3) := by decide +kernel
theorem dX12_put_84 : decode cX12_put 84 = .ok (.iload_n 1, 1) := by decide +kernel
theorem dX12_put_85 : decode cX12_put 85 = .ok (.iload_n 2, 1) := by decide +kernel
theorem dX12_put_86 : decode cX12_put 86 = .ok (.iastore, 1) := by decide +kernel
theorem dX12_put_87 : decode cX12_put 87 = .ok (.aload_n 0, 1) := by decide +kernel
theorem dX12_put_88 : decode cX12_put 88 = .ok (.dup, 1) := by decide +kernel
theorem dX12_put_89 : decode cX12_put 89 = .ok (.getfield 299, 3) := by decide +kernel
theorem dX12_put_92 : decode cX12_put 92 = .ok (.iconst 1, 1) := by decide +kernel
theorem dX12_put_93 : decode cX12_put 93 = .ok (.iadd, 1) := by decide +kernel
theorem dX12_put_94 : decode cX12_put 94 = .ok (.putfield 299, 3) := by decide +kernel
theorem dX12_put_97 : decode cX12_put 97 = .ok (.aload_n 0, 1) := by decide +kernel
theorem dX12_put_98 : decode cX12_put 98 = .ok (.getfield 299, 3) := by decide +kernel
theorem dX12_put_101 : decode cX12_put 101 = .ok (.ireturn, 1) := by decide +kernel
theorem dX12_cut_0 : decode cX12_cut 0 = .ok (.aload_n 0, 1) := by decide +kernel
theorem dX12_cut_1 : decode cX12_cut 1 = .ok (.iload_n 1, 1) := by decide +kernel
theorem dX12_cut_2 : decode cX12_cut 2 = .ok (.aload_n 0, 1) := by decide +kernel
theorem dX12_cut_3 : decode cX12_cut 3 = .ok (.getfield 299, 3) := by decide +kernel
theorem dX12_cut_6 : decode cX12_cut 6 = .ok (.invokestatic 172, 3) := by decide +kernel
theorem dX12_cut_9 : decode cX12_cut 9 = .ok (.iconst 1, 1) := by decide +kernel
theorem dX12_cut_10 : decode cX12_cut 10 = .ok (.iconst 1, 1) := by decide +kernel
theorem dX12_cut_11 : decode cX12_cut 11 = .ok (.invokevirtual 131, 3) := by decide +kernel
theorem dX12_cut_14 : decode cX12_cut 14 = .ok (.ifCond .ne 5, 3) := by decide +kernel
theorem dX12_cut_17 : decode cX12_cut 17 = .ok (.iconst 0, 1) := by decide +kernel
theorem dX12_cut_18 : decode cX12_cut 18 = .ok (.ireturn, 1) := by decide +kernel
theorem dX12_cut_19 : decode cX12_cut 19 = .ok (.aload_n 0, 1) := by decide +kernel
theorem dX12_cut_20 : decode cX12_cut 20 = .ok (.getfield 49, 3) := by decide +kernel
theorem dX12_cut_23 : decode cX12_cut 23 = .ok (.iload_n 1, 1) := by decide +kernel
theorem dX12_cut_24 : decode cX12_cut 24 = .ok (.iaload, 1) := by decide +kernel
theorem dX12_cut_25 : decode cX12_cut 25 = .ok (.istore_n 2, 1) := by decide +kernel
theorem dX12_cut_26 : decode cX12_cut 26 = .ok (.aload_n 0, 1) := by decide +kernel
theorem dX12_cut_27 : decode cX12_cut 27 = .ok (.dup, 1) := by decide +kernel
theorem dX12_cut_28 : decode cX12_cut 28 = .ok (.getfield 299, 3) := by decide +kernel
theorem dX12_cut_31 : decode cX12_cut 31 = .ok (.iconst 1, 1) := by decide +kernel
theorem dX12_cut_32 : decode cX12_cut 32 = .ok (.isub, 1) := by decide +kernel
theorem dX12_cut_33 : decode cX12_cut 33 = .ok (.putfield 299, 3) := by decide +kernel
theorem dX12_cut_36 : decode cX12_cut 36 = .ok (.iload_n 1, 1) := by decide +kernel
theorem dX12_cut_37 : decode cX12_cut 37 = .ok (.istore_n 3, 1) := by decide +kernel
theorem dX12_cut_38 : decode cX12_cut 38 = .ok (.iload_n 3, 1) := by decide +kernel
theorem dX12_cut_39 : decode cX12_cut 39 = .ok (.aload_n 0, 1) := by decide +kernel
theorem dX12_cut_40 : decode cX12_cut 40 = .ok (.getfield 299, 3) := by decide +kernel
theorem dX12_cut_43 : decode cX12_cut 43 = .ok (.if_icmp .ge 23, 3) := by decide +kernel
theorem dX12_cut_46 : decode cX12_cut 46 = .ok (.aload_n 0, 1) := by decide +kernel
theorem dX12_cut_47 : decode cX12_cut 47 = .ok (.getfield 49, 3) := by decide +kernel
theorem dX12_cut_50 : decode cX12_cut 50 = .ok (.iload_n 3, 1) := by decide +kernel
theorem dX12_cut_51 : decode cX12_cut 51 = .ok (.aload_n 0, 1) := by decide +kernel
theorem dX12_cut_52 : decode cX12_cut 52 = .ok (.getfield 49, 3) := by decide +kernel
theorem dX12_cut_55 : decode cX12_cut 55 = .ok (.iload_n 3, 1) := by decide +kernel
theorem dX12_cut_56 : decode cX12_cut 56 = .ok (.iconst 1, 1) := by decide +kernel
theorem dX12_cut_57 : decode cX12_cut 57 = .ok (.iadd, 1) := by decide +kernel
theorem dX12_cut_58 : decode cX12_cut 58 = .ok (.iaload, 1) := by decide +kernel
theorem dX12_cut_59 : decode cX12_cut 59 = .ok (.iastore, 1) := by decide +kernel
theorem dX12_cut_60 : decode cX12_cut 60 = .ok (.iinc 3 1, 3) := by decide +kernel
theorem dX12_cut_63 : decode cX12_cut 63 = .ok (.goto (-25), 3) := by decide +kernel
theorem dX12_cut_66 : decode cX12_cut 66 = .ok (.iload_n 2, 1) := by decide +kernel
theorem dX12_cut_67 : decode cX12_cut 67 = .ok (.ireturn, 1) := by decide +kernel
theorem dX12_reduced_0 : decode cX12_reduced 0 = .ok (.iload_n 2, 1) := by decide +kernel
theorem dX12_reduced_1 : decode cX12_reduced 1 = .ok (.iconst 1, 1) := by decide +kernel
theorem dX12_reduced_2 : decode cX12_reduced 2 = .ok (.iadd, 1) := by decide +kernel
theorem dX12_reduced_3 : decode cX12_reduced 3 = .ok (.istore_n 3, 1) := by decide +kernel
theorem dX12_reduced_4 : decode cX12_reduced 4 = .ok (.aload_n 0, 1) := by decide +kernel
theorem dX12_reduced_5 : decode cX12_reduced 5 = .ok (.iload_n 2, 1) := by decide +kernel
theorem dX12_reduced_6 : decode cX12_reduced 6 = .ok (.invokevirtual 186, 3) := by decide +kernel
theorem dX12_reduced_9 : decode cX12_reduced 9 = .ok (.istore 4, 2) := by decide +kernel
theorem dX12_reduced_11 : decode cX12_reduced 11 = .ok (.iconst 0, 1) := by decide +kernel
theorem dX12_reduced_12 : decode cX12_reduced 12 = .ok (.istore 5, 2) := by decide +kernel
theorem dX12_reduced_14 : decode cX12_reduced 14 = .ok (.iload 5, 2) := by decide +kernel
theorem dX12_reduced_16 : decode cX12_reduced 16 = .ok (.iload 4, 2) := by decide +kernel
theorem dX12_reduced_18 : decode cX12_reduced 18 = .ok (.if_icmp .ge 34, 3) := by decide +kernel
theorem dX12_reduced_21 : decode cX12_reduced 21 = .ok (.iload_n 3, 1) := by decide +kernel
theorem dX12_reduced_22 : decode cX12_reduced 22 = .ok (.iload 5, 2) := by decide +kernel
theorem dX12_reduced_24 : decode cX12_reduced 24 = .ok (.iconst 1, 1) := by decide +kernel
theorem dX12_reduced_25 : decode cX12_reduced 25 = .ok (.iadd, 1) := by decide +kernel
theorem dX12_reduced_26 : decode cX12_reduced 26 = .ok (.aload_n 0, 1) := by decide +kernel
theorem dX12_reduced_27 : decode cX12_reduced 27 = .ok (.getfield 89, 3) := by decide +kernel
theorem dX12_reduced_30 : decode cX12_reduced 30 = .ok (.aload_n 0, 1) := by decide +kernel
theorem dX12_reduced_31 : decode cX12_reduced 31 = .ok (.getfield 302, 3) := by decide +kernel
theorem dX12_reduced_34 : decode cX12_reduced 34 = .ok (.iload 4, 2) := by decide +kernel
theorem dX12_reduced_36 : decode cX12_reduced 36 = .ok (.isub, 1) := by decide +kernel
theorem dX12_reduced_37 : decode cX12_reduced 37 = .ok (.iconst 1, 1) := by decide +kernel
theorem dX12_reduced_38 : decode cX12_reduced 38 = .ok (.iadd, 1) := by decide +kernel
theorem dX12_reduced_39 : decode cX12_reduced 39 = .ok (.iload 5, 2) := by decide +kernel
theorem dX12_reduced_41 : decode cX12_reduced 41 = .ok (.iadd, 1) := by decide +kernel
theorem dX12_reduced_42 : decode cX12_reduced 42 = .ok (.iaload, 1) := by decide +kernel
theorem dX12_reduced_43 : decode cX12_reduced 43 = .ok (.imul, 1) := by decide +kernel
theorem dX12_reduced_44 : decode cX12_reduced 44 = .ok (.iadd, 1) := by decide +kernel
theorem dX12_reduced_45 : decode cX12_reduced 45 = .ok (.istore_n 3, 1) := by decide +kernel
theorem dX12_reduced_46 : decode cX12_reduced 46 = .ok (.iinc 5 1, 3) := by decide +kernel
theorem dX12_reduced_49 : decode cX12_reduced 49 = .ok (.goto (-35), 3) := by decide +kernel
theorem dX12_reduced_52 : decode cX12_reduced 52 = .ok (.aload_n 0, 1) := by decide +kernel
theorem dX12_reduced_53 : decode cX12_reduced 53 = .ok (.dup, 1) := by decide +kernel
theorem dX12_reduced_54 : decode cX12_reduced 54 = .ok (.getfield 302, 3) := by decide +kernel
theorem dX12_reduced_57 : decode cX12_reduced 57 = .ok (.iload 4, 2) := by decide +kernel
theorem dX12_reduced_59 : decode cX12_reduced 59 = .ok (.isub, 1) := by decide +kernel
theorem dX12_reduced_60 : decode cX12_reduced 60 = .ok (.putfield 302, 3) := by decide +kernel
theorem dX12_reduced_63 : decode cX12_reduced 63 = .ok (.aload_n 0, 1) := by decide +kernel
theorem dX12_reduced_64 : decode cX12_reduced 64 = .ok (.iload_n 1, 1) := by decide +kernel
theorem dX12_reduced_65 : decode cX12_reduced 65 = .ok (.aload_n 0, 1) := by decide +kernel
theorem dX12_reduced_66 : decode cX12_reduced 66 = .ok (.getfield 86, 3) := by decide +kernel
theorem dX12_reduced_69 : decode cX12_reduced 69 = .ok (.aload_n 0, 1) := by decide +kernel
theorem dX12_reduced_70 : decode cX12_reduced 70 = .ok (.getfield 302, 3) := by decide +kernel
theorem dX12_reduced_73 : decode cX12_reduced 73 = .ok (.iaload, 1) := by decide +kernel
theorem dX12_reduced_74 : decode cX12_reduced 74 = .ok (.bipush 8, 2) := by decide +kernel
theorem dX12_reduced_76 : decode cX12_reduced 76 = .ok (.aload_n 0, 1) := by decide +kernel
theorem dX12_reduced_77 : decode cX12_reduced 77 = .ok (.iload_n 2, 1) := by decide +kernel
theorem dX12_reduced_78 : decode cX12_reduced 78 = .ok (.invokevirtual 193, 3) := by decide +kernel
theorem dX12_reduced_81 : decode cX12_reduced 81 = .ok (.iadd, 1) := by decide +kernel
theorem dX12_reduced_82 : decode cX12_reduced 82 = .ok (.invokevirtual 273, 3) := by decide +kernel
theorem dX12_reduced_85 : decode cX12_reduced 85 = .ok (.istore 5, 2) := by decide +kernel
theorem dX12_reduced_87 : decode cX12_reduced 87 = .ok (.aload_n 0, 1) := by decide +kernel
theorem dX12_reduced_88 : decode cX12_reduced 88 = .ok (.dup, 1) := by decide +kernel
theorem dX12_reduced_89 : decode cX12_reduced 89 = .ok (.getfield 302, 3) := by decide +kernel
theorem dX12_reduced_92 : decode cX12_reduced 92 = .ok (.iconst 1, 1) := by decide +kernel
theorem dX12_reduced_93 : decode cX12_reduced 93 = .ok (.iadd, 1) := by decide +kernel
theorem dX12_reduced_94 : decode cX12_reduced 94 = .ok (.putfield 302, 3) := by decide +kernel
theorem dX12_reduced_97 : decode cX12_reduced 97 = .ok (.aload_n 0, 1) := by decide +kernel
theorem dX12_reduced_98 : decode cX12_reduced 98 = .ok (.getfield 86, 3) := by decide +kernel
theorem dX12_reduced_101 : decode cX12_reduced 101 = .ok (.aload_n 0, 1) := by decide +kernel
theorem dX12_reduced_102 : decode cX12_reduced 102 = .ok (.getfield 302, 3) := by decide +kernel
theorem dX12_reduced_105 : decode cX12_reduced 105 = .ok (.iload 5, 2) := by decide +kernel
theorem dX12_reduced_107 : decode cX12_reduced 107 = .ok (.iastore, 1) := by decide +kernel
theorem dX12_reduced_108 : decode cX12_reduced 108 = .ok (.aload_n 0, 1) := by decide +kernel
theorem dX12_reduced_109 : decode cX12_reduced 109 = .ok (.getfield 89, 3) := by decide +kernel
theorem dX12_reduced_112 : decode cX12_reduced 112 = .ok (.aload_n 0, 1) := by decide +kernel
theorem dX12_reduced_113 : decode cX12_reduced 113 = .ok (.getfield 302, 3) := by decide +kernel
theorem dX12_reduced_116 : decode cX12_reduced 116 = .ok (.iload_n 3, 1) := by decide +kernel
theorem dX12_reduced_117 : decode cX12_reduced 117 = .ok (.sipush 1009, 3) := by decide +kernel
theorem dX12_reduced_120 : decode cX12_reduced 120 = .ok (.irem, 1) := by decide +kernel
theorem dX12_reduced_121 : decode cX12_reduced 121 = .ok (.iastore, 1) := by decide +kernel
theorem dX12_reduced_122 : decode cX12_reduced 122 = .ok (.return_, 1) := by decide +kernel
theorem dX12_runs_0 : decode cX12_runs 0 = .ok (.aload_n 0, 1) := by decide +kernel
theorem dX12_runs_1 : decode cX12_runs 1 = .ok (.iload_n 1, 1) := by decide +kernel
theorem dX12_runs_2 : decode cX12_runs 2 = .ok (.invokevirtual 286, 3) := by decide +kernel
theorem dX12_runs_5 : decode cX12_runs 5 = .ok (.bipush (-2), 2) := by decide +kernel
theorem dX12_runs_7 : decode cX12_runs 7 = .ok (.if_icmp .ne 6, 3) := by decide +kernel
theorem dX12_runs_10 : decode cX12_runs 10 = .ok (.bipush (-2), 2) := by decide +kernel
theorem dX12_runs_12 : decode cX12_runs 12 = .ok (.ireturn, 1) := by decide +kernel
theorem dX12_runs_13 : decode cX12_runs 13 = .ok (.aload_n 0, 1) := by decide +kernel
theorem dX12_runs_14 : decode cX12_runs 14 = .ok (.iconst 0, 1) := by decide +kernel
theorem dX12_runs_15 : decode cX12_runs 15 = .ok (.putfield 302, 3) := by decide +kernel
theorem dX12_runs_18 : decode cX12_runs 18 = .ok (.aload_n 0, 1) := by decide +kernel
theorem dX12_runs_19 : decode cX12_runs 19 = .ok (.getfield 86, 3) := by decide +kernel
theorem dX12_runs_22 : decode cX12_runs 22 = .ok (.iconst 0, 1) := by decide +kernel
theorem dX12_runs_23 : decode cX12_runs 23 = .ok (.iconst 0, 1) := by decide +kernel
theorem dX12_runs_24 : decode cX12_runs 24 = .ok (.iastore, 1) := by decide +kernel
theorem dX12_runs_25 : decode cX12_runs 25 = .ok (.iconst 0, 1) := by decide +kernel
theorem dX12_runs_26 : decode cX12_runs 26 = .ok (.istore_n 2, 1) := by decide +kernel
theorem dX12_runs_27 : decode cX12_runs 27 = .ok (.iconst 0, 1) := by decide +kernel
theorem dX12_runs_28 : decode cX12_runs 28 = .ok (.istore_n 3, 1) := by decide +kernel
theorem dX12_runs_29 : decode cX12_runs 29 = .ok (.iload_n 3, 1) := by decide +kernel
theorem dX12_runs_30 : decode cX12_runs 30 = .ok (.sipush 300, 3) := by decide +kernel
theorem dX12_runs_33 : decode cX12_runs 33 = .ok (.if_icmp .gt 180, 3) := by decide +kernel
theorem dX12_runs_36 : decode cX12_runs 36 = .ok (.iload_n 2, 1) := by decide +kernel
theorem dX12_runs_37 : decode cX12_runs 37 = .ok (.aload_n 0, 1) := by decide +kernel
theorem dX12_runs_38 : decode cX12_runs 38 = .ok (.getfield 299, 3) := by decide +kernel
theorem dX12_runs_41 : decode cX12_runs 41 = .ok (.if_icmp .ge 12, 3) := by decide +kernel
theorem dX12_runs_44 : decode cX12_runs 44 = .ok (.aload_n 0, 1) := by decide +kernel
theorem dX12_runs_45 : decode cX12_runs 45 = .ok (.getfield 49, 3) := by decide +kernel
theorem dX12_runs_48 : decode cX12_runs 48 = .ok (.iload_n 2, 1) := by decide +kernel
theorem dX12_runs_49 : decode cX12_runs 49 = .ok (.iaload, 1) := by decide +kernel
theorem dX12_runs_50 : decode cX12_runs 50 = .ok (.goto 5, 3) := by decide +kernel
theorem dX12_runs_53 : decode cX12_runs 53 = .ok (.bipush 8, 2) := by decide +kernel
theorem dX12_runs_55 : decode cX12_runs 55 = .ok (.istore 4, 2) := by decide +kernel
theorem dX12_runs_57 : decode cX12_runs 57 = .ok (.aload_n 0, 1) := by decide +kernel
theorem dX12_runs_58 : decode cX12_runs 58 = .ok (.iload_n 1, 1) := by decide +kernel
theorem dX12_runs_59 : decode cX12_runs 59 = .ok (.aload_n 0, 1) := by decide +kernel
theorem dX12_runs_60 : decode cX12_runs 60 = .ok (.getfield 86, 3) := by decide +kernel
theorem dX12_runs_63 : decode cX12_runs 63 = .ok (.aload_n 0, 1) := by decide +kernel
theorem dX12_runs_64 : decode cX12_runs 64 = .ok (.getfield 302, 3) := by decide +kernel
theorem dX12_runs_67 : decode cX12_runs 67 = .ok (.iaload, 1) := by decide +kernel
theorem dX12_runs_68 : decode cX12_runs 68 = .ok (.iload 4, 2) := by decide +kernel
theorem dX12_runs_70 : decode cX12_runs 70 = .ok (.invokevirtual 292, 3) := by decide +kernel
theorem dX12_runs_73 : decode cX12_runs 73 = .ok (.sipush 10000, 3) := by decide +kernel
theorem dX12_runs_76 : decode cX12_runs 76 = .ok (.irem, 1) := by decide +kernel
theorem dX12_runs_77 : decode cX12_runs 77 = .ok (.iconst 1, 1) := by decide +kernel
theorem dX12_runs_78 : decode cX12_runs 78 = .ok (.isub, 1) := by decide +kernel
theorem dX12_runs_79 : decode cX12_runs 79 = .ok (.istore 5, 2) := by decide +kernel
theorem dX12_runs_81 : decode cX12_runs 81 = .ok (.iload 5, 2) := by decide +kernel
theorem dX12_runs_83 : decode cX12_runs 83 = .ok (.iconst (-1), 1) := by decide +kernel
theorem dX12_runs_84 : decode cX12_runs 84 = .ok (.if_icmp .eq 11, 3) := by decide +kernel
theorem dX12_runs_87 : decode cX12_runs 87 = .ok (.iload 5, 2) := by decide +kernel
theorem dX12_runs_89 : decode cX12_runs 89 = .ok (.sipush 1000, 3) := by decide +kernel
theorem dX12_runs_92 : decode cX12_runs 92 = .ok (.if_icmp .ne 28, 3) := by decide +kernel
theorem dX12_runs_95 : decode cX12_runs 95 = .ok (.aload_n 0, 1) := by decide +kernel
theorem dX12_runs_96 : decode cX12_runs 96 = .ok (.aload_n 0, 1) := by decide +kernel
theorem dX12_runs_97 : decode cX12_runs 97 = .ok (.getfield 89, 3) := by decide +kernel
theorem dX12_runs_100 : decode cX12_runs 100 = .ok (.aload_n 0, 1) := by decide +kernel
theorem dX12_runs_101 : decode cX12_runs 101 = .ok (.getfield 302, 3) := by decide +kernel
theorem dX12_runs_104 : decode cX12_runs 104 = .ok (.iaload, 1) := by decide +kernel
theorem dX12_runs_105 : decode cX12_runs 105 = .ok (.putfield 305, 3) := by decide +kernel
theorem dX12_runs_108 : decode cX12_runs 108 = .ok (.iload 5, 2) := by decide +kernel
theorem dX12_runs_110 : decode cX12_runs 110 = .ok (.iconst (-1), 1) := by decide +kernel
theorem dX12_runs_111 : decode cX12_runs 111 = .ok (.if_icmp .ne 7, 3) := by decide +kernel
theorem dX12_runs_114 : decode cX12_runs 114 = .ok (.iload_n 2, 1) := by decide +kernel
theorem dX12_runs_115 : decode cX12_runs 115 = .ok (.goto 4, 3) := by decide +kernel
theorem dX12_runs_118 : decode cX12_runs 118 = .ok (.iconst (-1), 1) := by decide +kernel
theorem dX12_runs_119 : decode cX12_runs 119 = .ok (.ireturn, 1) := by decide +kernel
theorem dX12_runs_120 : decode cX12_runs 120 = .ok (.iload_n 3, 1) := by decide +kernel
theorem dX12_runs_121 : decode cX12_runs 121 = .ok (.sipush 300, 3) := by decide +kernel
theorem dX12_runs_124 : decode cX12_runs 124 = .ok (.if_icmp .ge 69, 3) := by decide +kernel
theorem dX12_runs_127 : decode cX12_runs 127 = .ok (.iload 5, 2) := by decide +kernel
theorem dX12_runs_129 : decode cX12_runs 129 = .ok (.sipush 2000, 3) := by decide +kernel
theorem dX12_runs_132 : decode cX12_runs 132 = .ok (.if_icmp .ne 61, 3) := by decide +kernel
theorem dX12_runs_135 : decode cX12_runs 135 = .ok (.aload_n 0, 1) := by decide +kernel
theorem dX12_runs_136 : decode cX12_runs 136 = .ok (.iload_n 1, 1) := by decide +kernel
theorem dX12_runs_137 : decode cX12_runs 137 = .ok (.aload_n 0, 1) := by decide +kernel
theorem dX12_runs_138 : decode cX12_runs 138 = .ok (.getfield 86, 3) := by decide +kernel
theorem dX12_runs_141 : decode cX12_runs 141 = .ok (.aload_n 0, 1) := by decide +kernel
theorem dX12_runs_142 : decode cX12_runs 142 = .ok (.getfield 302, 3) := by decide +kernel
theorem dX12_runs_145 : decode cX12_runs 145 = .ok (.iaload, 1) := by decide +kernel
theorem dX12_runs_146 : decode cX12_runs 146 = .ok (.iload 4, 2) := by decide +kernel
theorem dX12_runs_148 : decode cX12_runs 148 = .ok (.invokevirtual 273, 3) := by decide +kernel
theorem dX12_runs_151 : decode cX12_runs 151 = .ok (.istore 6, 2) := by decide +kernel
theorem dX12_runs_153 : decode cX12_runs 153 = .ok (.aload_n 0, 1) := by decide +kernel
theorem dX12_runs_154 : decode cX12_runs 154 = .ok (.dup, 1) := by decide +kernel
theorem dX12_runs_155 : decode cX12_runs 155 = .ok (.getfield 302, 3) := by decide +kernel
theorem dX12_runs_158 : decode cX12_runs 158 = .ok (.iconst 1, 1) := by decide +kernel
theorem dX12_runs_159 : decode cX12_runs 159 = .ok (.iadd, 1) := by decide +kernel
theorem dX12_runs_160 : decode cX12_runs 160 = .ok (.putfield 302, 3) := by decide +kernel
theorem dX12_runs_163 : decode cX12_runs 163 = .ok (.aload_n 0, 1) := by decide +kernel
theorem dX12_runs_164 : decode cX12_runs 164 = .ok (.getfield 86, 3) := by decide +kernel
theorem dX12_runs_167 : decode cX12_runs 167 = .ok (.aload_n 0, 1) := by decide +kernel
theorem dX12_runs_168 : decode cX12_runs 168 = .ok (.getfield 302, 3) := by decide +kernel
theorem dX12_runs_171 : decode cX12_runs 171 = .ok (.iload 6, 2) := by decide +kernel
theorem dX12_runs_173 : decode cX12_runs 173 = .ok (.iastore, 1) := by decide +kernel
theorem dX12_runs_174 : decode cX12_runs 174 = .ok (.aload_n 0, 1) := by decide +kernel
theorem dX12_runs_175 : decode cX12_runs 175 = .ok (.getfield 89, 3) := by decide +kernel
theorem dX12_runs_178 : decode cX12_runs 178 = .ok (.aload_n 0, 1) := by decide +kernel
theorem dX12_runs_179 : decode cX12_runs 179 = .ok (.getfield 302, 3) := by decide +kernel
theorem dX12_runs_182 : decode cX12_runs 182 = .ok (.iload 4, 2) := by decide +kernel
theorem dX12_runs_184 : decode cX12_runs 184 = .ok (.iconst 1, 1) := by decide +kernel
theorem dX12_runs_185 : decode cX12_runs 185 = .ok (.iadd, 1) := by decide +kernel
theorem dX12_runs_186 : decode cX12_runs 186 = .ok (.iastore, 1) := by decide +kernel
theorem dX12_runs_187 : decode cX12_runs 187 = .ok (.iinc 2 1, 3) := by decide +kernel
theorem dX12_runs_190 : decode cX12_runs 190 = .ok (.goto 17, 3) := by decide +kernel
theorem dX12_runs_193 : decode cX12_runs 193 = .ok (.iload_n 3, 1) := by decide +kernel
theorem dX12_runs_194 : decode cX12_runs 194 = .ok (.sipush 300, 3) := by decide +kernel
theorem dX12_runs_197 : decode cX12_runs 197 = .ok (.if_icmp .ge 10, 3) := by decide +kernel
theorem dX12_runs_200 : decode cX12_runs 200 = .ok (.aload_n 0, 1) := by decide +kernel
theorem dX12_runs_201 : decode cX12_runs 201 = .ok (.iload_n 1, 1) := by decide +kernel
theorem dX12_runs_202 : decode cX12_runs 202 = .ok (.iload 5, 2) := by decide +kernel
theorem dX12_runs_204 : decode cX12_runs 204 = .ok (.invokevirtual 308, 3) := by decide +kernel
theorem dX12_runs_207 : decode cX12_runs 207 = .ok (.iinc 3 1, 3) := by decide +kernel
theorem dX12_runs_210 : decode cX12_runs 210 = .ok (.goto (-181), 3) := by decide +kernel
theorem dX12_runs_213 : decode cX12_runs 213 = .ok (.bipush (-3), 2) := by decide +kernel
theorem dX12_runs_215 : decode cX12_runs 215 = .ok (.ireturn, 1) := by decide +kernel
theorem dX12_gathers_0 : decode cX12_gathers 0 = .ok (.aload_n 0, 1) := by decide +kernel
theorem dX12_gathers_1 : decode cX12_gathers 1 = .ok (.iconst 0, 1) := by decide +kernel
theorem dX12_gathers_2 : decode cX12_gathers 2 = .ok (.putfield 302, 3) := by decide +kernel
theorem dX12_gathers_5 : decode cX12_gathers 5 = .ok (.iload_n 1, 1) := by decide +kernel
theorem dX12_gathers_6 : decode cX12_gathers 6 = .ok (.iconst 1, 1) := by decide +kernel
theorem dX12_gathers_7 : decode cX12_gathers 7 = .ok (.isub, 1) := by decide +kernel
theorem dX12_gathers_8 : decode cX12_gathers 8 = .ok (.istore_n 2, 1) := by decide +kernel
theorem dX12_gathers_9 : decode cX12_gathers 9 = .ok (.iload_n 2, 1) := by decide +kernel
theorem dX12_gathers_10 : decode cX12_gathers 10 = .ok (.ifCond .lt 113, 3) := by decide +kernel
theorem dX12_gathers_13 : decode cX12_gathers 13 = .ok (.aload_n 0, 1) := by decide +kernel
theorem dX12_gathers_14 : decode cX12_gathers 14 = .ok (.getfield 92, 3) := by decide +kernel
theorem dX12_gathers_17 : decode cX12_gathers 17 = .ok (.iload_n 2, 1) := by decide +kernel
theorem dX12_gathers_18 : decode cX12_gathers 18 = .ok (.iaload, 1) := by decide +kernel
theorem dX12_gathers_19 : decode cX12_gathers 19 = .ok (.iconst 1, 1) := by decide +kernel
theorem dX12_gathers_20 : decode cX12_gathers 20 = .ok (.iadd, 1) := by decide +kernel
theorem dX12_gathers_21 : decode cX12_gathers 21 = .ok (.istore_n 3, 1) := by decide +kernel
theorem dX12_gathers_22 : decode cX12_gathers 22 = .ok (.aload_n 0, 1) := by decide +kernel
theorem dX12_gathers_23 : decode cX12_gathers 23 = .ok (.getfield 92, 3) := by decide +kernel
theorem dX12_gathers_26 : decode cX12_gathers 26 = .ok (.iload_n 2, 1) := by decide +kernel
theorem dX12_gathers_27 : decode cX12_gathers 27 = .ok (.iaload, 1) := by decide +kernel
theorem dX12_gathers_28 : decode cX12_gathers 28 = .ok (.ifCond .ge 14, 3) := by decide +kernel
theorem dX12_gathers_31 : decode cX12_gathers 31 = .ok (.aload_n 0, 1) := by decide +kernel
theorem dX12_gathers_32 : decode cX12_gathers 32 = .ok (.getfield 92, 3) := by decide +kernel
theorem dX12_gathers_35 : decode cX12_gathers 35 = .ok (.iload_n 2, 1) := by decide +kernel
theorem dX12_gathers_36 : decode cX12_gathers 36 = .ok (.iaload, 1) := by decide +kernel
theorem dX12_gathers_37 : decode cX12_gathers 37 = .ok (.ineg, 1) := by decide +kernel
theorem dX12_gathers_38 : decode cX12_gathers 38 = .ok (.istore_n 3, 1) := by decide +kernel
theorem dX12_gathers_39 : decode cX12_gathers 39 = .ok (.goto 54, 3) := by decide +kernel
theorem dX12_gathers_42 : decode cX12_gathers 42 = .ok (.iconst 0, 1) := by decide +kernel
theorem dX12_gathers_43 : decode cX12_gathers 43 = .ok (.istore 4, 2) := by decide +kernel
theorem dX12_gathers_45 : decode cX12_gathers 45 = .ok (.iload 4, 2) := by decide +kernel
theorem dX12_gathers_47 : decode cX12_gathers 47 = .ok (.aload_n 0, 1) := by decide +kernel
theorem dX12_gathers_48 : decode cX12_gathers 48 = .ok (.aload_n 0, 1) := by decide +kernel
theorem dX12_gathers_49 : decode cX12_gathers 49 = .ok (.getfield 92, 3) := by decide +kernel
theorem dX12_gathers_52 : decode cX12_gathers 52 = .ok (.iload_n 2, 1) := by decide +kernel
theorem dX12_gathers_53 : decode cX12_gathers 53 = .ok (.iaload, 1) := by decide +kernel
theorem dX12_gathers_54 : decode cX12_gathers 54 = .ok (.invokevirtual 186, 3) := by decide +kernel
theorem dX12_gathers_57 : decode cX12_gathers 57 = .ok (.if_icmp .ge 36, 3) := by decide +kernel
theorem dX12_gathers_60 : decode cX12_gathers 60 = .ok (.aload_n 0, 1) := by decide +kernel
theorem dX12_gathers_61 : decode cX12_gathers 61 = .ok (.dup, 1) := by decide +kernel
theorem dX12_gathers_62 : decode cX12_gathers 62 = .ok (.getfield 302, 3) := by decide +kernel
theorem dX12_gathers_65 : decode cX12_gathers 65 = .ok (.iconst 1, 1) := by decide +kernel
theorem dX12_gathers_66 : decode cX12_gathers 66 = .ok (.isub, 1) := by decide +kernel
theorem dX12_gathers_67 : decode cX12_gathers 67 = .ok (.putfield 302, 3) := by decide +kernel
theorem dX12_gathers_70 : decode cX12_gathers 70 = .ok (.iload_n 3, 1) := by decide +kernel
theorem dX12_gathers_71 : decode cX12_gathers 71 = .ok (.iload 4, 2) := by decide +kernel
theorem dX12_gathers_73 : decode cX12_gathers 73 = .ok (.iconst 1, 1) := by decide +kernel
theorem dX12_gathers_74 : decode cX12_gathers 74 = .ok (.iadd, 1) := by decide +kernel
theorem dX12_gathers_75 : decode cX12_gathers 75 = .ok (.aload_n 0, 1) := by decide +kernel
theorem dX12_gathers_76 : decode cX12_gathers 76 = .ok (.getfield 89, 3) := by decide +kernel
theorem dX12_gathers_79 : decode cX12_gathers 79 = .ok (.aload_n 0, 1) := by decide +kernel
theorem dX12_gathers_80 : decode cX12_gathers 80 = .ok (.getfield 302, 3) := by decide +kernel
theorem dX12_gathers_83 : decode cX12_gathers 83 = .ok (.iaload, 1) := by decide +kernel
theorem dX12_gathers_84 : decode cX12_gathers 84 = .ok (.imul, 1) := by decide +kernel
theorem dX12_gathers_85 : decode cX12_gathers 85 = .ok (.iadd, 1) := by decide +kernel
theorem dX12_gathers_86 : decode cX12_gathers 86 = .ok (.istore_n 3, 1) := by decide +kernel
theorem dX12_gathers_87 : decode cX12_gathers 87 = .ok (.iinc 4 1, 3) := by decide +kernel
theorem dX12_gathers_90 : decode cX12_gathers 90 = .ok (.goto (-45), 3) := by decide +kernel
theorem dX12_gathers_93 : decode cX12_gathers 93 = .ok (.aload_n 0, 1) := by decide +kernel
theorem dX12_gathers_94 : decode cX12_gathers 94 = .ok (.getfield 89, 3) := by decide +kernel
theorem dX12_gathers_97 : decode cX12_gathers 97 = .ok (.aload_n 0, 1) := by decide +kernel
theorem dX12_gathers_98 : decode cX12_gathers 98 = .ok (.getfield 302, 3) := by decide +kernel
theorem dX12_gathers_101 : decode cX12_gathers 101 = .ok (.iload_n 3, 1) := by decide +kernel
theorem dX12_gathers_102 : decode cX12_gathers 102 = .ok (.sipush 1009, 3) := by decide +kernel
theorem dX12_gathers_105 : decode cX12_gathers 105 = .ok (.irem, 1) := by decide +kernel
theorem dX12_gathers_106 : decode cX12_gathers 106 = .ok (.iastore, 1) := by decide +kernel
theorem dX12_gathers_107 : decode cX12_gathers 107 = .ok (.aload_n 0, 1) := by decide +kernel
theorem dX12_gathers_108 : decode cX12_gathers 108 = .ok (.dup, 1) := by decide +kernel
theorem dX12_gathers_109 : decode cX12_gathers 109 = .ok (.getfield 302, 3) := by decide +kernel
theorem dX12_gathers_112 : decode cX12_gathers 112 = .ok (.iconst 1, 1) := by decide +kernel
theorem dX12_gathers_113 : decode cX12_gathers 113 = .ok (.iadd, 1) := by decide +kernel
theorem dX12_gathers_114 : decode cX12_gathers 114 = .ok (.putfield 302, 3) := by decide +kernel
theorem dX12_gathers_117 : decode cX12_gathers 117 = .ok (.iinc 2 (-1), 3) := by decide +kernel
theorem dX12_gathers_120 : decode cX12_gathers 120 = .ok (.goto (-111), 3) := by decide +kernel
theorem dX12_gathers_123 : decode cX12_gathers 123 = .ok (.aload_n 0, 1) := by decide +kernel
theorem dX12_gathers_124 : decode cX12_gathers 124 = .ok (.aload_n 0, 1) := by decide +kernel
theorem dX12_gathers_125 : decode cX12_gathers 125 = .ok (.getfield 89, 3) := by decide +kernel
theorem dX12_gathers_128 : decode cX12_gathers 128 = .ok (.iconst 0, 1) := by decide +kernel
theorem dX12_gathers_129 : decode cX12_gathers 129 = .ok (.iaload, 1) := by decide +kernel
theorem dX12_gathers_130 : decode cX12_gathers 130 = .ok (.putfield 305, 3) := by decide +kernel
theorem dX12_gathers_133 : decode cX12_gathers 133 = .ok (.return_, 1) := by decide +kernel
theorem dX12_derives_0 : decode cX12_derives 0 = .ok (.aload_n 0, 1) := by decide +kernel
theorem dX12_derives_1 : decode cX12_derives 1 = .ok (.invokevirtual 216, 3) := by decide +kernel
theorem dX12_derives_4 : decode cX12_derives 4 = .ok (.aload_n 0, 1) := by decide +kernel
theorem dX12_derives_5 : decode cX12_derives 5 = .ok (.getfield 86, 3) := by decide +kernel
theorem dX12_derives_8 : decode cX12_derives 8 = .ok (.iconst 0, 1) := by decide +kernel
theorem dX12_derives_9 : decode cX12_derives 9 = .ok (.bipush 16, 2) := by decide +kernel
theorem dX12_derives_11 : decode cX12_derives 11 = .ok (.aload_n 0, 1) := by decide +kernel
theorem dX12_derives_12 : decode cX12_derives 12 = .ok (.getfield 34, 3) := by decide +kernel
theorem dX12_derives_15 : decode cX12_derives 15 = .ok (.aload_n 0, 1) := by decide +kernel
theorem dX12_derives_16 : decode cX12_derives 16 = .ok (.getfield 139, 3) := by decide +kernel
theorem dX12_derives_19 : decode cX12_derives 19 = .ok (.iaload, 1) := by decide +kernel
theorem dX12_derives_20 : decode cX12_derives 20 = .ok (.iadd, 1) := by decide +kernel
theorem dX12_derives_21 : decode cX12_derives 21 = .ok (.iastore, 1) := by decide +kernel
theorem dX12_derives_22 : decode cX12_derives 22 = .ok (.aload_n 0, 1) := by decide +kernel
theorem dX12_derives_23 : decode cX12_derives 23 = .ok (.iconst 1, 1) := by decide +kernel
theorem dX12_derives_24 : decode cX12_derives 24 = .ok (.putfield 302, 3) := by decide +kernel
theorem dX12_derives_27 : decode cX12_derives 27 = .ok (.iconst 0, 1) := by decide +kernel
theorem dX12_derives_28 : decode cX12_derives 28 = .ok (.istore_n 1, 1) := by decide +kernel
theorem dX12_derives_29 : decode cX12_derives 29 = .ok (.iconst 0, 1) := by decide +kernel
theorem dX12_derives_30 : decode cX12_derives 30 = .ok (.istore_n 2, 1) := by decide +kernel
theorem dX12_derives_31 : decode cX12_derives 31 = .ok (.iload_n 2, 1) := by decide +kernel
theorem dX12_derives_32 : decode cX12_derives 32 = .ok (.sipush 300, 3) := by decide +kernel
theorem dX12_derives_35 : decode cX12_derives 35 = .ok (.if_icmp .gt 228, 3) := by decide +kernel
theorem dX12_derives_38 : decode cX12_derives 38 = .ok (.aload_n 0, 1) := by decide +kernel
theorem dX12_derives_39 : decode cX12_derives 39 = .ok (.getfield 302, 3) := by decide +kernel
theorem dX12_derives_42 : decode cX12_derives 42 = .ok (.ifCond .ne 18, 3) := by decide +kernel
theorem dX12_derives_45 : decode cX12_derives 45 = .ok (.iload_n 1, 1) := by decide +kernel
theorem dX12_derives_46 : decode cX12_derives 46 = .ok (.aload_n 0, 1) := by decide +kernel
theorem dX12_derives_47 : decode cX12_derives 47 = .ok (.getfield 299, 3) := by decide +kernel
theorem dX12_derives_50 : decode cX12_derives 50 = .ok (.if_icmp .ne 10, 3) := by decide +kernel
theorem dX12_derives_53 : decode cX12_derives 53 = .ok (.aload_n 0, 1) := by decide +kernel
theorem dX12_derives_54 : decode cX12_derives 54 = .ok (.iload_n 2, 1) := by decide +kernel
theorem dX12_derives_55 : decode cX12_derives 55 = .ok (.invokevirtual 311, 3) := by decide +kernel
theorem dX12_derives_58 : decode cX12_derives 58 = .ok (.iconst (-1), 1) := by decide +kernel
theorem dX12_derives_59 : decode cX12_derives 59 = .ok (.ireturn, 1) := by decide +kernel
theorem dX12_derives_60 : decode cX12_derives 60 = .ok (.aload_n 0, 1) := by decide +kernel
theorem dX12_derives_61 : decode cX12_derives 61 = .ok (.getfield 302, 3) := by decide +kernel
theorem dX12_derives_64 : decode cX12_derives 64 = .ok (.ifCond .ne 7, 3) := by decide +kernel
theorem dX12_derives_67 : decode cX12_derives 67 = .ok (.iconst (-1), 1) := by decide +kernel
theorem dX12_derives_68 : decode cX12_derives 68 = .ok (.goto 14, 3) := by decide +kernel
theorem dX12_derives_71 : decode cX12_derives 71 = .ok (.aload_n 0, 1) := by decide +kernel
theorem dX12_derives_72 : decode cX12_derives 72 = .ok (.getfield 86, 3) := by decide +kernel
theorem dX12_derives_75 : decode cX12_derives 75 = .ok (.aload_n 0, 1) := by decide +kernel
theorem dX12_derives_76 : decode cX12_derives 76 = .ok (.getfield 302, 3) := by decide +kernel
theorem dX12_derives_79 : decode cX12_derives 79 = .ok (.iconst 1, 1) := by decide +kernel
theorem dX12_derives_80 : decode cX12_derives 80 = .ok (.isub, 1) := by decide +kernel
theorem dX12_derives_81 : decode cX12_derives 81 = .ok (.iaload, 1) := by decide +kernel
theorem dX12_derives_82 : decode cX12_derives 82 = .ok (.istore_n 3, 1) := by decide +kernel
theorem dX12_derives_83 : decode cX12_derives 83 = .ok (.iload_n 1, 1) := by decide +kernel
theorem dX12_derives_84 : decode cX12_derives 84 = .ok (.aload_n 0, 1) := by decide +kernel
theorem dX12_derives_85 : decode cX12_derives 85 = .ok (.getfield 299, 3) := by decide +kernel
theorem dX12_derives_88 : decode cX12_derives 88 = .ok (.if_icmp .ge 12, 3) := by decide +kernel
theorem dX12_derives_91 : decode cX12_derives 91 = .ok (.aload_n 0, 1) := by decide +kernel
theorem dX12_derives_92 : decode cX12_derives 92 = .ok (.getfield 49, 3) := by decide +kernel
theorem dX12_derives_95 : decode cX12_derives 95 = .ok (.iload_n 1, 1) := by decide +kernel
theorem dX12_derives_96 : decode cX12_derives 96 = .ok (.iaload, 1) := by decide +kernel
theorem dX12_derives_97 : decode cX12_derives 97 = .ok (.goto 5, 3) := by decide +kernel
theorem dX12_derives_100 : decode cX12_derives 100 = .ok (.bipush 8, 2) := by decide +kernel
theorem dX12_derives_102 : decode cX12_derives 102 = .ok (.istore 4, 2) := by decide +kernel
theorem dX12_derives_104 : decode cX12_derives 104 = .ok (.iload_n 3, 1) := by decide +kernel
theorem dX12_derives_105 : decode cX12_derives 105 = .ok (.bipush 16, 2) := by decide +kernel
theorem dX12_derives_107 : decode cX12_derives 107 = .ok (.if_icmp .ge 7, 3) := by decide +kernel
theorem dX12_derives_110 : decode cX12_derives 110 = .ok (.iconst (-1), 1) := by decide +kernel
theorem dX12_derives_111 : decode cX12_derives 111 = .ok (.goto 18, 3) := by decide +kernel
theorem dX12_derives_114 : decode cX12_derives 114 = .ok (.aload_n 0, 1) := by decide +kernel
theorem dX12_derives_115 : decode cX12_derives 115 = .ok (.iload_n 3, 1) := by decide +kernel
theorem dX12_derives_116 : decode cX12_derives 116 = .ok (.bipush 16, 2) := by decide +kernel
theorem dX12_derives_118 : decode cX12_derives 118 = .ok (.isub, 1) := by decide +kernel
theorem dX12_derives_119 : decode cX12_derives 119 = .ok (.iload 4, 2) := by decide +kernel
theorem dX12_derives_121 : decode cX12_derives 121 = .ok (.invokevirtual 289, 3) := by decide +kernel
theorem dX12_derives_124 : decode cX12_derives 124 = .ok (.bipush 100, 2) := by decide +kernel
theorem dX12_derives_126 : decode cX12_derives 126 = .ok (.irem, 1) := by decide +kernel
theorem dX12_derives_127 : decode cX12_derives 127 = .ok (.iconst 1, 1) := by decide +kernel
theorem dX12_derives_128 : decode cX12_derives 128 = .ok (.isub, 1) := by decide +kernel
theorem dX12_derives_129 : decode cX12_derives 129 = .ok (.istore 5, 2) := by decide +kernel
theorem dX12_derives_131 : decode cX12_derives 131 = .ok (.iload_n 3, 1) := by decide +kernel
theorem dX12_derives_132 : decode cX12_derives 132 = .ok (.bipush 16, 2) := by decide +kernel
theorem dX12_derives_134 : decode cX12_derives 134 = .ok (.if_icmp .ge 9, 3) := by decide +kernel
theorem dX12_derives_137 : decode cX12_derives 137 = .ok (.iload_n 3, 1) := by decide +kernel
theorem dX12_derives_138 : decode cX12_derives 138 = .ok (.iload 4, 2) := by decide +kernel
theorem dX12_derives_140 : decode cX12_derives 140 = .ok (.if_icmp .ne 15, 3) := by decide +kernel
theorem dX12_derives_143 : decode cX12_derives 143 = .ok (.iload_n 3, 1) := by decide +kernel
theorem dX12_derives_144 : decode cX12_derives 144 = .ok (.bipush 16, 2) := by decide +kernel
theorem dX12_derives_146 : decode cX12_derives 146 = .ok (.if_icmp .lt 11, 3) := by decide +kernel
theorem dX12_derives_149 : decode cX12_derives 149 = .ok (.iload 5, 2) := by decide +kernel
theorem dX12_derives_151 : decode cX12_derives 151 = .ok (.iconst (-1), 1) := by decide +kernel
theorem dX12_derives_152 : decode cX12_derives 152 = .ok (.if_icmp .ne 5, 3) := by decide +kernel
theorem dX12_derives_155 : decode cX12_derives 155 = .ok (.iload_n 1, 1) := by decide +kernel
theorem dX12_derives_156 : decode cX12_derives 156 = .ok (.ireturn, 1) := by decide +kernel
theorem dX12_derives_157 : decode cX12_derives 157 = .ok (.iload_n 2, 1) := by decide +kernel
theorem dX12_derives_158 : decode cX12_derives 158 = .ok (.sipush 300, 3) := by decide +kernel
theorem dX12_derives_161 : decode cX12_derives 161 = .ok (.if_icmp .ge 96, 3) := by decide +kernel
theorem dX12_derives_164 : decode cX12_derives 164 = .ok (.aload_n 0, 1) := by decide +kernel
theorem dX12_derives_165 : decode cX12_derives 165 = .ok (.dup, 1) := by decide +kernel
theorem dX12_derives_166 : decode cX12_derives 166 = .ok (.getfield 302, 3) := by decide +kernel
theorem dX12_derives_169 : decode cX12_derives 169 = .ok (.iconst 1, 1) := by decide +kernel
theorem dX12_derives_170 : decode cX12_derives 170 = .ok (.isub, 1) := by decide +kernel
theorem dX12_derives_171 : decode cX12_derives 171 = .ok (.putfield 302, 3) := by decide +kernel
theorem dX12_derives_174 : decode cX12_derives 174 = .ok (.aload_n 0, 1) := by decide +kernel
theorem dX12_derives_175 : decode cX12_derives 175 = .ok (.getfield 92, 3) := by decide +kernel
theorem dX12_derives_178 : decode cX12_derives 178 = .ok (.iload_n 2, 1) := by decide +kernel
theorem dX12_derives_179 : decode cX12_derives 179 = .ok (.iload_n 3, 1) := by decide +kernel
theorem dX12_derives_180 : decode cX12_derives 180 = .ok (.bipush 16, 2) := by decide +kernel
theorem dX12_derives_182 : decode cX12_derives 182 = .ok (.if_icmp .ge 10, 3) := by decide +kernel
theorem dX12_derives_185 : decode cX12_derives 185 = .ok (.iload_n 3, 1) := by decide +kernel
theorem dX12_derives_186 : decode cX12_derives 186 = .ok (.iconst 1, 1) := by decide +kernel
theorem dX12_derives_187 : decode cX12_derives 187 = .ok (.iadd, 1) := by decide +kernel
theorem dX12_derives_188 : decode cX12_derives 188 = .ok (.ineg, 1) := by decide +kernel
theorem dX12_derives_189 : decode cX12_derives 189 = .ok (.goto 5, 3) := by decide +kernel
theorem dX12_derives_192 : decode cX12_derives 192 = .ok (.iload 5, 2) := by decide +kernel
theorem dX12_derives_194 : decode cX12_derives 194 = .ok (.iastore, 1) := by decide +kernel
theorem dX12_derives_195 : decode cX12_derives 195 = .ok (.iload_n 1, 1) := by decide +kernel
theorem dX12_derives_196 : decode cX12_derives 196 = .ok (.iload_n 3, 1) := by decide +kernel
theorem dX12_derives_197 : decode cX12_derives 197 = .ok (.bipush 16, 2) := by decide +kernel
theorem dX12_derives_199 : decode cX12_derives 199 = .ok (.if_icmp .ge 7, 3) := by decide +kernel
theorem dX12_derives_202 : decode cX12_derives 202 = .ok (.iconst 1, 1) := by decide +kernel
theorem dX12_derives_203 : decode cX12_derives 203 = .ok (.goto 4, 3) := by decide +kernel
theorem dX12_derives_206 : decode cX12_derives 206 = .ok (.iconst 0, 1) := by decide +kernel
theorem dX12_derives_207 : decode cX12_derives 207 = .ok (.iadd, 1) := by decide +kernel
theorem dX12_derives_208 : decode cX12_derives 208 = .ok (.istore_n 1, 1) := by decide +kernel
theorem dX12_derives_209 : decode cX12_derives 209 = .ok (.aload_n 0, 1) := by decide +kernel
theorem dX12_derives_210 : decode cX12_derives 210 = .ok (.iload 5, 2) := by decide +kernel
theorem dX12_derives_212 : decode cX12_derives 212 = .ok (.invokevirtual 315, 3) := by decide +kernel
theorem dX12_derives_215 : decode cX12_derives 215 = .ok (.iconst 1, 1) := by decide +kernel
theorem dX12_derives_216 : decode cX12_derives 216 = .ok (.isub, 1) := by decide +kernel
theorem dX12_derives_217 : decode cX12_derives 217 = .ok (.istore 6, 2) := by decide +kernel
theorem dX12_derives_219 : decode cX12_derives 219 = .ok (.iload 6, 2) := by decide +kernel
theorem dX12_derives_221 : decode cX12_derives 221 = .ok (.ifCond .lt 36, 3) := by decide +kernel
theorem dX12_derives_224 : decode cX12_derives 224 = .ok (.aload_n 0, 1) := by decide +kernel
theorem dX12_derives_225 : decode cX12_derives 225 = .ok (.getfield 86, 3) := by decide +kernel
theorem dX12_derives_228 : decode cX12_derives 228 = .ok (.aload_n 0, 1) := by decide +kernel
theorem dX12_derives_229 : decode cX12_derives 229 = .ok (.getfield 302, 3) := by decide +kernel
theorem dX12_derives_232 : decode cX12_derives 232 = .ok (.aload_n 0, 1) := by decide +kernel
theorem dX12_derives_233 : decode cX12_derives 233 = .ok (.iload 5, 2) := by decide +kernel
theorem dX12_derives_235 : decode cX12_derives 235 = .ok (.iload 6, 2) := by decide +kernel
theorem dX12_derives_237 : decode cX12_derives 237 = .ok (.invokevirtual 182, 3) := by decide +kernel
theorem dX12_derives_240 : decode cX12_derives 240 = .ok (.iastore, 1) := by decide +kernel
theorem dX12_derives_241 : decode cX12_derives 241 = .ok (.aload_n 0, 1) := by decide +kernel
theorem dX12_derives_242 : decode cX12_derives 242 = .ok (.dup, 1) := by decide +kernel
theorem dX12_derives_243 : decode cX12_derives 243 = .ok (.getfield 302, 3) := by decide +kernel
theorem dX12_derives_246 : decode cX12_derives 246 = .ok (.iconst 1, 1) := by decide +kernel
theorem dX12_derives_247 : decode cX12_derives 247 = .ok (.iadd, 1) := by decide +kernel
theorem dX12_derives_248 : decode cX12_derives 248 = .ok (.putfield 302, 3) := by decide +kernel
theorem dX12_derives_251 : decode cX12_derives 251 = .ok (.iinc 6 (-1), 3) := by decide +kernel
theorem dX12_derives_254 : decode cX12_derives 254 = .ok (.goto (-35), 3) := by decide +kernel
theorem dX12_derives_257 : decode cX12_derives 257 = .ok (.iinc 2 1, 3) := by decide +kernel
theorem dX12_derives_260 : decode cX12_derives 260 = .ok (.goto (-229), 3) := by decide +kernel
theorem dX12_derives_263 : decode cX12_derives 263 = .ok (.bipush (-3), 2) := by decide +kernel
theorem dX12_derives_265 : decode cX12_derives 265 = .ok (.ireturn, 1) := by decide +kernel
theorem dX12_sizeOr_0 : decode cX12_sizeOr 0 = .ok (.iload_n 1, 1) := by decide +kernel
theorem dX12_sizeOr_1 : decode cX12_sizeOr 1 = .ok (.iconst (-1), 1) := by decide +kernel
theorem dX12_sizeOr_2 : decode cX12_sizeOr 2 = .ok (.if_icmp .ne 7, 3) := by decide +kernel
theorem dX12_sizeOr_5 : decode cX12_sizeOr 5 = .ok (.iconst 0, 1) := by decide +kernel
theorem dX12_sizeOr_6 : decode cX12_sizeOr 6 = .ok (.goto 8, 3) := by decide +kernel
theorem dX12_sizeOr_9 : decode cX12_sizeOr 9 = .ok (.aload_n 0, 1) := by decide +kernel
theorem dX12_sizeOr_10 : decode cX12_sizeOr 10 = .ok (.iload_n 1, 1) := by decide +kernel
theorem dX12_sizeOr_11 : decode cX12_sizeOr 11 = .ok (.invokevirtual 186, 3) := by decide +kernel
theorem dX12_sizeOr_14 : decode cX12_sizeOr 14 = .ok (.ireturn, 1) := by decide +kernel
theorem dX12_parses_0 : decode cX12_parses 0 = .ok (.iload_n 1, 1) := by decide +kernel
theorem dX12_parses_1 : decode cX12_parses 1 = .ok (.ifCond .ne 10, 3) := by decide +kernel
theorem dX12_parses_4 : decode cX12_parses 4 = .ok (.aload_n 0, 1) := by decide +kernel
theorem dX12_parses_5 : decode cX12_parses 5 = .ok (.invokevirtual 318, 3) := by decide +kernel
theorem dX12_parses_8 : decode cX12_parses 8 = .ok (.goto 8, 3) := by decide +kernel
theorem dX12_parses_11 : decode cX12_parses 11 = .ok (.aload_n 0, 1) := by decide +kernel
theorem dX12_parses_12 : decode cX12_parses 12 = .ok (.iload_n 1, 1) := by decide +kernel
theorem dX12_parses_13 : decode cX12_parses 13 = .ok (.invokevirtual 321, 3) := by decide +kernel
theorem dX12_parses_16 : decode cX12_parses 16 = .ok (.ireturn, 1) := by decide +kernel
theorem dX12_parse_0 : decode cX12_parse 0 = .ok (.aload_n 0, 1) := by decide +kernel
theorem dX12_parse_1 : decode cX12_parse 1 = .ok (.iload_n 1, 1) := by decide +kernel
theorem dX12_parse_2 : decode cX12_parse 2 = .ok (.invokestatic 283, 3) := by decide +kernel
theorem dX12_parse_5 : decode cX12_parse 5 = .ok (.iconst 1, 1) := by decide +kernel
theorem dX12_parse_6 : decode cX12_parse 6 = .ok (.iconst 1, 1) := by decide +kernel
theorem dX12_parse_7 : decode cX12_parse 7 = .ok (.invokevirtual 131, 3) := by decide +kernel
theorem dX12_parse_10 : decode cX12_parse 10 = .ok (.ifCond .eq 11, 3) := by decide +kernel
theorem dX12_parse_13 : decode cX12_parse 13 = .ok (.aload_n 0, 1) := by decide +kernel
theorem dX12_parse_14 : decode cX12_parse 14 = .ok (.iload_n 1, 1) := by decide +kernel
theorem dX12_parse_15 : decode cX12_parse 15 = .ok (.invokevirtual 324, 3) := by decide +kernel
theorem dX12_parse_18 : decode cX12_parse 18 = .ok (.goto 4, 3) := by decide +kernel
theorem dX12_parse_21 : decode cX12_parse 21 = .ok (.iconst 0, 1) := by decide +kernel
theorem dX12_parse_22 : decode cX12_parse 22 = .ok (.ireturn, 1) := by decide +kernel
theorem dX12_value_0 : decode cX12_value 0 = .ok (.iload_n 1, 1) := by decide +kernel
theorem dX12_value_1 : decode cX12_value 1 = .ok (.invokestatic 283, 3) := by decide +kernel
theorem dX12_value_4 : decode cX12_value 4 = .ok (.istore_n 2, 1) := by decide +kernel
theorem dX12_value_5 : decode cX12_value 5 = .ok (.aload_n 0, 1) := by decide +kernel
theorem dX12_value_6 : decode cX12_value 6 = .ok (.iload_n 2, 1) := by decide +kernel
theorem dX12_value_7 : decode cX12_value 7 = .ok (.iload_n 2, 1) := by decide +kernel
theorem dX12_value_8 : decode cX12_value 8 = .ok (.ifCond .eq 16, 3) := by decide +kernel
theorem dX12_value_11 : decode cX12_value 11 = .ok (.aload_n 0, 1) := by decide +kernel
theorem dX12_value_12 : decode cX12_value 12 = .ok (.iload_n 1, 1) := by decide +kernel
theorem dX12_value_13 : decode cX12_value 13 = .ok (.invokevirtual 324, 3) := by decide +kernel
theorem dX12_value_16 : decode cX12_value 16 = .ok (.iconst (-1), 1) := by decide +kernel
theorem dX12_value_17 : decode cX12_value 17 = .ok (.if_icmp .ne 7, 3) := by decide +kernel
theorem dX12_value_20 : decode cX12_value 20 = .ok (.iconst 1, 1) := by decide +kernel
theorem dX12_value_21 : decode cX12_value 21 = .ok (.goto 4, 3) := by decide +kernel
theorem dX12_value_24 : decode cX12_value 24 = .ok (.iconst 0, 1) := by decide +kernel
theorem dX12_value_25 : decode cX12_value 25 = .ok (.iconst 1, 1) := by decide +kernel
theorem dX12_value_26 : decode cX12_value 26 = .ok (.invokevirtual 131, 3) := by decide +kernel
theorem dX12_value_29 : decode cX12_value 29 = .ok (.ifCond .eq 10, 3) := by decide +kernel
theorem dX12_value_32 : decode cX12_value 32 = .ok (.aload_n 0, 1) := by decide +kernel
theorem dX12_value_33 : decode cX12_value 33 = .ok (.getfield 305, 3) := by decide +kernel
theorem dX12_value_36 : decode cX12_value 36 = .ok (.goto 4, 3) := by decide +kernel
theorem dX12_value_39 : decode cX12_value 39 = .ok (.iconst 0, 1) := by decide +kernel
theorem dX12_value_40 : decode cX12_value 40 = .ok (.ireturn, 1) := by decide +kernel
theorem dX12_at_0 : decode cX12_at 0 = .ok (.sipush 169, 3) := by decide +kernel
theorem dX12_at_3 : decode cX12_at 3 = .ok (.iload_n 0, 1) := by decide +kernel
theorem dX12_at_4 : decode cX12_at 4 = .ok (.imul, 1) := by decide +kernel
theorem dX12_at_5 : decode cX12_at 5 = .ok (.bipush 13, 2) := by decide +kernel
theorem dX12_at_7 : decode cX12_at 7 = .ok (.iload_n 1, 1) := by decide +kernel
theorem dX12_at_8 : decode cX12_at 8 = .ok (.imul, 1) := by decide +kernel
theorem dX12_at_9 : decode cX12_at 9 = .ok (.iadd, 1) := by decide +kernel
theorem dX12_at_10 : decode cX12_at 10 = .ok (.iload_n 2, 1) := by decide +kernel
theorem dX12_at_11 : decode cX12_at 11 = .ok (.iadd, 1) := by decide +kernel
theorem dX12_at_12 : decode cX12_at 12 = .ok (.ireturn, 1) := by decide +kernel
theorem dX12_ways_0 : decode cX12_ways 0 = .ok (.iload_n 1, 1) := by decide +kernel
theorem dX12_ways_1 : decode cX12_ways 1 = .ok (.bipush 16, 2) := by decide +kernel
theorem dX12_ways_3 : decode cX12_ways 3 = .ok (.if_icmp .lt 18, 3) := by decide +kernel
theorem dX12_ways_6 : decode cX12_ways 6 = .ok (.aload_n 0, 1) := by decide +kernel
theorem dX12_ways_7 : decode cX12_ways 7 = .ok (.getfield 95, 3) := by decide +kernel
theorem dX12_ways_10 : decode cX12_ways 10 = .ok (.iload_n 1, 1) := by decide +kernel
theorem dX12_ways_11 : decode cX12_ways 11 = .ok (.bipush 16, 2) := by decide +kernel
theorem dX12_ways_13 : decode cX12_ways 13 = .ok (.isub, 1) := by decide +kernel
theorem dX12_ways_14 : decode cX12_ways 14 = .ok (.iload_n 2, 1) := by decide +kernel
theorem dX12_ways_15 : decode cX12_ways 15 = .ok (.iload_n 3, 1) := by decide +kernel
theorem dX12_ways_16 : decode cX12_ways 16 = .ok (.invokestatic 327, 3) := by decide +kernel
theorem dX12_ways_19 : decode cX12_ways 19 = .ok (.iaload, 1) := by decide +kernel
theorem dX12_ways_20 : decode cX12_ways 20 = .ok (.ireturn, 1) := by decide +kernel
theorem dX12_ways_21 : decode cX12_ways 21 = .ok (.iload_n 3, 1) := by decide +kernel
theorem dX12_ways_22 : decode cX12_ways 22 = .ok (.iload_n 2, 1) := by decide +kernel
theorem dX12_ways_23 : decode cX12_ways 23 = .ok (.iconst 1, 1) := by decide +kernel
theorem dX12_ways_24 : decode cX12_ways 24 = .ok (.iadd, 1) := by decide +kernel
theorem dX12_ways_25 : decode cX12_ways 25 = .ok (.if_icmp .ne 17, 3) := by decide +kernel
theorem dX12_ways_28 : decode cX12_ways 28 = .ok (.aload_n 0, 1) := by decide +kernel
theorem dX12_ways_29 : decode cX12_ways 29 = .ok (.getfield 49, 3) := by decide +kernel
theorem dX12_ways_32 : decode cX12_ways 32 = .ok (.iload_n 2, 1) := by decide +kernel
theorem dX12_ways_33 : decode cX12_ways 33 = .ok (.iaload, 1) := by decide +kernel
theorem dX12_ways_34 : decode cX12_ways 34 = .ok (.iload_n 1, 1) := by decide +kernel
theorem dX12_ways_35 : decode cX12_ways 35 = .ok (.if_icmp .ne 7, 3) := by decide +kernel
theorem dX12_ways_38 : decode cX12_ways 38 = .ok (.iconst 1, 1) := by decide +kernel
theorem dX12_ways_39 : decode cX12_ways 39 = .ok (.goto 4, 3) := by decide +kernel
theorem dX12_ways_42 : decode cX12_ways 42 = .ok (.iconst 0, 1) := by decide +kernel
theorem dX12_ways_43 : decode cX12_ways 43 = .ok (.ireturn, 1) := by decide +kernel
theorem dX12_waysOf_0 : decode cX12_waysOf 0 = .ok (.iload_n 2, 1) := by decide +kernel
theorem dX12_waysOf_1 : decode cX12_waysOf 1 = .ok (.istore 4, 2) := by decide +kernel
theorem dX12_waysOf_3 : decode cX12_waysOf 3 = .ok (.iload 4, 2) := by decide +kernel
theorem dX12_waysOf_5 : decode cX12_waysOf 5 = .ok (.iload_n 3, 1) := by decide +kernel
theorem dX12_waysOf_6 : decode cX12_waysOf 6 = .ok (.if_icmp .gt 27, 3) := by decide +kernel
theorem dX12_waysOf_9 : decode cX12_waysOf 9 = .ok (.aload_n 0, 1) := by decide +kernel
theorem dX12_waysOf_10 : decode cX12_waysOf 10 = .ok (.getfield 98, 3) := by decide +kernel
theorem dX12_waysOf_13 : decode cX12_waysOf 13 = .ok (.iload 4, 2) := by decide +kernel
theorem dX12_waysOf_15 : decode cX12_waysOf 15 = .ok (.iload 4, 2) := by decide +kernel
theorem dX12_waysOf_17 : decode cX12_waysOf 17 = .ok (.iload_n 2, 1) := by decide +kernel
theorem dX12_waysOf_18 : decode cX12_waysOf 18 = .ok (.if_icmp .ne 7, 3) := by decide +kernel
theorem dX12_waysOf_21 : decode cX12_waysOf 21 = .ok (.iconst 1, 1) := by decide +kernel
theorem dX12_waysOf_22 : decode cX12_waysOf 22 = .ok (.goto 4, 3) := by decide +kernel
theorem dX12_waysOf_25 : decode cX12_waysOf 25 = .ok (.iconst 0, 1) := by decide +kernel
theorem dX12_waysOf_26 : decode cX12_waysOf 26 = .ok (.iastore, 1) := by decide +kernel
theorem dX12_waysOf_27 : decode cX12_waysOf 27 = .ok (.iinc 4 1, 3) := by decide +kernel
theorem dX12_waysOf_30 : decode cX12_waysOf 30 = .ok (.goto (-27), 3) := by decide +kernel
theorem dX12_waysOf_33 : decode cX12_waysOf 33 = .ok (.iconst 0, 1) := by decide +kernel
theorem dX12_waysOf_34 : decode cX12_waysOf 34 = .ok (.istore 4, 2) := by decide +kernel
theorem dX12_waysOf_36 : decode cX12_waysOf 36 = .ok (.iload 4, 2) := by decide +kernel
theorem dX12_waysOf_38 : decode cX12_waysOf 38 = .ok (.aload_n 0, 1) := by decide +kernel
theorem dX12_waysOf_39 : decode cX12_waysOf 39 = .ok (.iload_n 1, 1) := by decide +kernel
theorem dX12_waysOf_40 : decode cX12_waysOf 40 = .ok (.invokevirtual 186, 3) := by decide +kernel
theorem dX12_waysOf_43 : decode cX12_waysOf 43 = .ok (.if_icmp .ge 135, 3) := by decide +kernel
theorem dX12_waysOf_46 : decode cX12_waysOf 46 = .ok (.aload_n 0, 1) := by decide +kernel
theorem dX12_waysOf_47 : decode cX12_waysOf 47 = .ok (.iload_n 1, 1) := by decide +kernel
theorem dX12_waysOf_48 : decode cX12_waysOf 48 = .ok (.iload 4, 2) := by decide +kernel
theorem dX12_waysOf_50 : decode cX12_waysOf 50 = .ok (.invokevirtual 182, 3) := by decide +kernel
theorem dX12_waysOf_53 : decode cX12_waysOf 53 = .ok (.istore 5, 2) := by decide +kernel
theorem dX12_waysOf_55 : decode cX12_waysOf 55 = .ok (.iload_n 2, 1) := by decide +kernel
theorem dX12_waysOf_56 : decode cX12_waysOf 56 = .ok (.istore 6, 2) := by decide +kernel
theorem dX12_waysOf_58 : decode cX12_waysOf 58 = .ok (.iload 6, 2) := by decide +kernel
theorem dX12_waysOf_60 : decode cX12_waysOf 60 = .ok (.iload_n 3, 1) := by decide +kernel
theorem dX12_waysOf_61 : decode cX12_waysOf 61 = .ok (.if_icmp .gt 82, 3) := by decide +kernel
theorem dX12_waysOf_64 : decode cX12_waysOf 64 = .ok (.aload_n 0, 1) := by decide +kernel
theorem dX12_waysOf_65 : decode cX12_waysOf 65 = .ok (.getfield 101, 3) := by decide +kernel
theorem dX12_waysOf_68 : decode cX12_waysOf 68 = .ok (.iload 6, 2) := by decide +kernel
theorem dX12_waysOf_70 : decode cX12_waysOf 70 = .ok (.iconst 0, 1) := by decide +kernel
theorem dX12_waysOf_71 : decode cX12_waysOf 71 = .ok (.iastore, 1) := by decide +kernel
theorem dX12_waysOf_72 : decode cX12_waysOf 72 = .ok (.iload_n 2, 1) := by decide +kernel
theorem dX12_waysOf_73 : decode cX12_waysOf 73 = .ok (.istore 7, 2) := by decide +kernel
theorem dX12_waysOf_75 : decode cX12_waysOf 75 = .ok (.iload 7, 2) := by decide +kernel
theorem dX12_waysOf_77 : decode cX12_waysOf 77 = .ok (.iload 6, 2) := by decide +kernel
theorem dX12_waysOf_79 : decode cX12_waysOf 79 = .ok (.if_icmp .gt 58, 3) := by decide +kernel
theorem dX12_waysOf_82 : decode cX12_waysOf 82 = .ok (.aload_n 0, 1) := by decide +kernel
theorem dX12_waysOf_83 : decode cX12_waysOf 83 = .ok (.getfield 101, 3) := by decide +kernel
theorem dX12_waysOf_86 : decode cX12_waysOf 86 = .ok (.iload 6, 2) := by decide +kernel
theorem dX12_waysOf_88 : decode cX12_waysOf 88 = .ok (.iaload, 1) := by decide +kernel
theorem dX12_waysOf_89 : decode cX12_waysOf 89 = .ok (.aload_n 0, 1) := by decide +kernel
theorem dX12_waysOf_90 : decode cX12_waysOf 90 = .ok (.getfield 98, 3) := by decide +kernel
theorem dX12_waysOf_93 : decode cX12_waysOf 93 = .ok (.iload 7, 2) := by decide +kernel
theorem dX12_waysOf_95 : decode cX12_waysOf 95 = .ok (.iaload, 1) := by decide +kernel
theorem dX12_waysOf_96 : decode cX12_waysOf 96 = .ok (.aload_n 0, 1) := by decide +kernel
theorem dX12_waysOf_97 : decode cX12_waysOf 97 = .ok (.iload 5, 2) := by decide +kernel
theorem dX12_waysOf_99 : decode cX12_waysOf 99 = .ok (.iload 7, 2) := by decide +kernel
theorem dX12_waysOf_101 : decode cX12_waysOf 101 = .ok (.iload 6, 2) := by decide +kernel
theorem dX12_waysOf_103 : decode cX12_waysOf 103 = .ok (.invokevirtual 330, 3) := by decide +kernel
theorem dX12_waysOf_106 : decode cX12_waysOf 106 = .ok (.imul, 1) := by decide +kernel
theorem dX12_waysOf_107 : decode cX12_waysOf 107 = .ok (.iadd, 1) := by decide +kernel
theorem dX12_waysOf_108 : decode cX12_waysOf 108 = .ok (.istore 8, 2) := by decide +kernel
theorem dX12_waysOf_110 : decode cX12_waysOf 110 = .ok (.aload_n 0, 1) := by decide +kernel
theorem dX12_waysOf_111 : decode cX12_waysOf 111 = .ok (.getfield 101, 3) := by decide +kernel
theorem dX12_waysOf_114 : decode cX12_waysOf 114 = .ok (.iload 6, 2) := by decide +kernel
theorem dX12_waysOf_116 : decode cX12_waysOf 116 = .ok (.iload 8, 2) := by decide +kernel
theorem dX12_waysOf_118 : decode cX12_waysOf 118 = .ok (.bipush 100, 2) := by decide +kernel
theorem dX12_waysOf_120 : decode cX12_waysOf 120 = .ok (.if_icmp .le 8, 3) := by decide +kernel
theorem dX12_waysOf_123 : decode cX12_waysOf 123 = .ok (.bipush 100, 2) := by decide +kernel
theorem dX12_waysOf_125 : decode cX12_waysOf 125 = .ok (.goto 5, 3) := by decide +kernel
theorem dX12_waysOf_128 : decode cX12_waysOf 128 = .ok (.iload 8, 2) := by decide +kernel
theorem dX12_waysOf_130 : decode cX12_waysOf 130 = .ok (.iastore, 1) := by decide +kernel
theorem dX12_waysOf_131 : decode cX12_waysOf 131 = .ok (.iinc 7 1, 3) := by decide +kernel
theorem dX12_waysOf_134 : decode cX12_waysOf 134 = .ok (.goto (-59), 3) := by decide +kernel
theorem dX12_waysOf_137 : decode cX12_waysOf 137 = .ok (.iinc 6 1, 3) := by decide +kernel
theorem dX12_waysOf_140 : decode cX12_waysOf 140 = .ok (.goto (-82), 3) := by decide +kernel
theorem dX12_waysOf_143 : decode cX12_waysOf 143 = .ok (.iload_n 2, 1) := by decide +kernel
theorem dX12_waysOf_144 : decode cX12_waysOf 144 = .ok (.istore 6, 2) := by decide +kernel
theorem dX12_waysOf_146 : decode cX12_waysOf 146 = .ok (.iload 6, 2) := by decide +kernel
theorem dX12_waysOf_148 : decode cX12_waysOf 148 = .ok (.iload_n 3, 1) := by decide +kernel
theorem dX12_waysOf_149 : decode cX12_waysOf 149 = .ok (.if_icmp .gt 23, 3) := by decide +kernel
theorem dX12_waysOf_152 : decode cX12_waysOf 152 = .ok (.aload_n 0, 1) := by decide +kernel
theorem dX12_waysOf_153 : decode cX12_waysOf 153 = .ok (.getfield 98, 3) := by decide +kernel
theorem dX12_waysOf_156 : decode cX12_waysOf 156 = .ok (.iload 6, 2) := by decide +kernel
theorem dX12_waysOf_158 : decode cX12_waysOf 158 = .ok (.aload_n 0, 1) := by decide +kernel
theorem dX12_waysOf_159 : decode cX12_waysOf 159 = .ok (.getfield 101, 3) := by decide +kernel
theorem dX12_waysOf_162 : decode cX12_waysOf 162 = .ok (.iload 6, 2) := by decide +kernel
theorem dX12_waysOf_164 : decode cX12_waysOf 164 = .ok (.iaload, 1) := by decide +kernel
theorem dX12_waysOf_165 : decode cX12_waysOf 165 = .ok (.iastore, 1) := by decide +kernel
theorem dX12_waysOf_166 : decode cX12_waysOf 166 = .ok (.iinc 6 1, 3) := by decide +kernel
theorem dX12_waysOf_169 : decode cX12_waysOf 169 = .ok (.goto (-23), 3) := by decide +kernel
theorem dX12_waysOf_172 : decode cX12_waysOf 172 = .ok (.iinc 4 1, 3) := by decide +kernel
theorem dX12_waysOf_175 : decode cX12_waysOf 175 = .ok (.goto (-139), 3) := by decide +kernel
theorem dX12_waysOf_178 : decode cX12_waysOf 178 = .ok (.aload_n 0, 1) := by decide +kernel
theorem dX12_waysOf_179 : decode cX12_waysOf 179 = .ok (.getfield 98, 3) := by decide +kernel
theorem dX12_waysOf_182 : decode cX12_waysOf 182 = .ok (.iload_n 3, 1) := by decide +kernel
theorem dX12_waysOf_183 : decode cX12_waysOf 183 = .ok (.iaload, 1) := by decide +kernel
theorem dX12_waysOf_184 : decode cX12_waysOf 184 = .ok (.ireturn, 1) := by decide +kernel
theorem dX12_counted_0 : decode cX12_counted 0 = .ok (.iconst 0, 1) := by decide +kernel
theorem dX12_counted_1 : decode cX12_counted 1 = .ok (.istore_n 3, 1) := by decide +kernel
theorem dX12_counted_2 : decode cX12_counted 2 = .ok (.iconst 0, 1) := by decide +kernel
theorem dX12_counted_3 : decode cX12_counted 3 = .ok (.istore 4, 2) := by decide +kernel
theorem dX12_counted_5 : decode cX12_counted 5 = .ok (.iload 4, 2) := by decide +kernel
theorem dX12_counted_7 : decode cX12_counted 7 = .ok (.bipush 16, 2) := by decide +kernel
theorem dX12_counted_9 : decode cX12_counted 9 = .ok (.if_icmp .ge 120, 3) := by decide +kernel
theorem dX12_counted_12 : decode cX12_counted 12 = .ok (.iconst 0, 1) := by decide +kernel
theorem dX12_counted_13 : decode cX12_counted 13 = .ok (.istore 5, 2) := by decide +kernel
theorem dX12_counted_15 : decode cX12_counted 15 = .ok (.iconst 0, 1) := by decide +kernel
theorem dX12_counted_16 : decode cX12_counted 16 = .ok (.istore 6, 2) := by decide +kernel
theorem dX12_counted_18 : decode cX12_counted 18 = .ok (.iload 6, 2) := by decide +kernel
theorem dX12_counted_20 : decode cX12_counted 20 = .ok (.aload_n 0, 1) := by decide +kernel
theorem dX12_counted_21 : decode cX12_counted 21 = .ok (.getfield 19, 3) := by decide +kernel
theorem dX12_counted_24 : decode cX12_counted 24 = .ok (.aload_n 0, 1) := by decide +kernel
theorem dX12_counted_25 : decode cX12_counted 25 = .ok (.getfield 139, 3) := by decide +kernel
theorem dX12_counted_28 : decode cX12_counted 28 = .ok (.iaload, 1) := by decide +kernel
theorem dX12_counted_29 : decode cX12_counted 29 = .ok (.if_icmp .ge 37, 3) := by decide +kernel
theorem dX12_counted_32 : decode cX12_counted 32 = .ok (.iload 5, 2) := by decide +kernel
theorem dX12_counted_34 : decode cX12_counted 34 = .ok (.aload_n 0, 1) := by decide +kernel
theorem dX12_counted_35 : decode cX12_counted 35 = .ok (.iload 6, 2) := by decide +kernel
theorem dX12_counted_37 : decode cX12_counted 37 = .ok (.invokevirtual 193, 3) := by decide +kernel
theorem dX12_counted_40 : decode cX12_counted 40 = .ok (.iload 4, 2) := by decide +kernel
theorem dX12_counted_42 : decode cX12_counted 42 = .ok (.if_icmp .ne 14, 3) := by decide +kernel
theorem dX12_counted_45 : decode cX12_counted 45 = .ok (.aload_n 0, 1) := by decide +kernel
theorem dX12_counted_46 : decode cX12_counted 46 = .ok (.iload 6, 2) := by decide +kernel
theorem dX12_counted_48 : decode cX12_counted 48 = .ok (.iload_n 1, 1) := by decide +kernel
theorem dX12_counted_49 : decode cX12_counted 49 = .ok (.iload_n 2, 1) := by decide +kernel
theorem dX12_counted_50 : decode cX12_counted 50 = .ok (.invokevirtual 333, 3) := by decide +kernel
theorem dX12_counted_53 : decode cX12_counted 53 = .ok (.goto 4, 3) := by decide +kernel
theorem dX12_counted_56 : decode cX12_counted 56 = .ok (.iconst 0, 1) := by decide +kernel
theorem dX12_counted_57 : decode cX12_counted 57 = .ok (.iadd, 1) := by decide +kernel
theorem dX12_counted_58 : decode cX12_counted 58 = .ok (.istore 5, 2) := by decide +kernel
theorem dX12_counted_60 : decode cX12_counted 60 = .ok (.iinc 6 1, 3) := by decide +kernel
theorem dX12_counted_63 : decode cX12_counted 63 = .ok (.goto (-45), 3) := by decide +kernel
theorem dX12_counted_66 : decode cX12_counted 66 = .ok (.iload 5, 2) := by decide +kernel
theorem dX12_counted_68 : decode cX12_counted 68 = .ok (.bipush 100, 2) := by decide +kernel
theorem dX12_counted_70 : decode cX12_counted 70 = .ok (.if_icmp .le 8, 3) := by decide +kernel
theorem dX12_counted_73 : decode cX12_counted 73 = .ok (.bipush 100, 2) := by decide +kernel
theorem dX12_counted_75 : decode cX12_counted 75 = .ok (.goto 5, 3) := by decide +kernel
theorem dX12_counted_78 : decode cX12_counted 78 = .ok (.iload 5, 2) := by decide +kernel
theorem dX12_counted_80 : decode cX12_counted 80 = .ok (.istore 5, 2) := by decide +kernel
theorem dX12_counted_82 : decode cX12_counted 82 = .ok (.iload_n 3, 1) := by decide +kernel
