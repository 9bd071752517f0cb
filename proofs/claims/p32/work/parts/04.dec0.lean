theorem dX0_init_0 : decode cX0_init 0 = .ok (.aload_n 0, 1) := by decide +kernel
theorem dX0_init_1 : decode cX0_init 1 = .ok (.invokespecial 3, 3) := by decide +kernel
theorem dX0_init_4 : decode cX0_init 4 = .ok (.aload_n 0, 1) := by decide +kernel
theorem dX0_init_5 : decode cX0_init 5 = .ok (.sipush 12000, 3) := by decide +kernel
theorem dX0_init_8 : decode cX0_init 8 = .ok (.newarray .int, 2) := by decide +kernel
theorem dX0_init_10 : decode cX0_init 10 = .ok (.putfield 9, 3) := by decide +kernel
theorem dX0_init_13 : decode cX0_init 13 = .ok (.aload_n 0, 1) := by decide +kernel
theorem dX0_init_14 : decode cX0_init 14 = .ok (.sipush 2560, 3) := by decide +kernel
theorem dX0_init_17 : decode cX0_init 17 = .ok (.newarray .int, 2) := by decide +kernel
theorem dX0_init_19 : decode cX0_init 19 = .ok (.putfield 15, 3) := by decide +kernel
theorem dX0_init_22 : decode cX0_init 22 = .ok (.aload_n 0, 1) := by decide +kernel
theorem dX0_init_23 : decode cX0_init 23 = .ok (.bipush 80, 2) := by decide +kernel
theorem dX0_init_25 : decode cX0_init 25 = .ok (.newarray .int, 2) := by decide +kernel
theorem dX0_init_27 : decode cX0_init 27 = .ok (.putfield 18, 3) := by decide +kernel
theorem dX0_init_30 : decode cX0_init 30 = .ok (.aload_n 0, 1) := by decide +kernel
theorem dX0_init_31 : decode cX0_init 31 = .ok (.bipush 80, 2) := by decide +kernel
theorem dX0_init_33 : decode cX0_init 33 = .ok (.newarray .boolean, 2) := by decide +kernel
theorem dX0_init_35 : decode cX0_init 35 = .ok (.putfield 21, 3) := by decide +kernel
theorem dX0_init_38 : decode cX0_init 38 = .ok (.aload_n 0, 1) := by decide +kernel
theorem dX0_init_39 : decode cX0_init 39 = .ok (.sipush 150, 3) := by decide +kernel
theorem dX0_init_42 : decode cX0_init 42 = .ok (.newarray .int, 2) := by decide +kernel
theorem dX0_init_44 : decode cX0_init 44 = .ok (.putfield 25, 3) := by decide +kernel
theorem dX0_init_47 : decode cX0_init 47 = .ok (.aload_n 0, 1) := by decide +kernel
theorem dX0_init_48 : decode cX0_init 48 = .ok (.aload_n 1, 1) := by decide +kernel
theorem dX0_init_49 : decode cX0_init 49 = .ok (.putfield 28, 3) := by decide +kernel
theorem dX0_init_52 : decode cX0_init 52 = .ok (.aload_n 0, 1) := by decide +kernel
theorem dX0_init_53 : decode cX0_init 53 = .ok (.iload_n 2, 1) := by decide +kernel
theorem dX0_init_54 : decode cX0_init 54 = .ok (.putfield 32, 3) := by decide +kernel
theorem dX0_init_57 : decode cX0_init 57 = .ok (.return_, 1) := by decide +kernel
theorem dX0_facts_0 : decode cX0_facts 0 = .ok (.aload_n 0, 1) := by decide +kernel
theorem dX0_facts_1 : decode cX0_facts 1 = .ok (.getfield 28, 3) := by decide +kernel
theorem dX0_facts_4 : decode cX0_facts 4 = .ok (.areturn, 1) := by decide +kernel
theorem dX0_forget_0 : decode cX0_forget 0 = .ok (.aload_n 0, 1) := by decide +kernel
theorem dX0_forget_1 : decode cX0_forget 1 = .ok (.iconst 0, 1) := by decide +kernel
theorem dX0_forget_2 : decode cX0_forget 2 = .ok (.putfield 36, 3) := by decide +kernel
theorem dX0_forget_5 : decode cX0_forget 5 = .ok (.return_, 1) := by decide +kernel
theorem dX0_extent_0 : decode cX0_extent 0 = .ok (.aload_n 0, 1) := by decide +kernel
theorem dX0_extent_1 : decode cX0_extent 1 = .ok (.getfield 39, 3) := by decide +kernel
theorem dX0_extent_4 : decode cX0_extent 4 = .ok (.ifCond .eq 8, 3) := by decide +kernel
theorem dX0_extent_7 : decode cX0_extent 7 = .ok (.bipush (-2), 2) := by decide +kernel
theorem dX0_extent_9 : decode cX0_extent 9 = .ok (.goto 7, 3) := by decide +kernel
theorem dX0_extent_12 : decode cX0_extent 12 = .ok (.aload_n 0, 1) := by decide +kernel
theorem dX0_extent_13 : decode cX0_extent 13 = .ok (.getfield 42, 3) := by decide +kernel
theorem dX0_extent_16 : decode cX0_extent 16 = .ok (.ireturn, 1) := by decide +kernel
theorem dX0_row_0 : decode cX0_row 0 = .ok (.iload_n 1, 1) := by decide +kernel
theorem dX0_row_1 : decode cX0_row 1 = .ok (.ifCond .lt 24, 3) := by decide +kernel
theorem dX0_row_4 : decode cX0_row 4 = .ok (.iload_n 1, 1) := by decide +kernel
theorem dX0_row_5 : decode cX0_row 5 = .ok (.bipush 80, 2) := by decide +kernel
theorem dX0_row_7 : decode cX0_row 7 = .ok (.if_icmp .ge 18, 3) := by decide +kernel
theorem dX0_row_10 : decode cX0_row 10 = .ok (.iload_n 2, 1) := by decide +kernel
theorem dX0_row_11 : decode cX0_row 11 = .ok (.ifCond .lt 14, 3) := by decide +kernel
theorem dX0_row_14 : decode cX0_row 14 = .ok (.iload_n 2, 1) := by decide +kernel
theorem dX0_row_15 : decode cX0_row 15 = .ok (.sipush 150, 3) := by decide +kernel
theorem dX0_row_18 : decode cX0_row 18 = .ok (.if_icmp .ge 7, 3) := by decide +kernel
theorem dX0_row_21 : decode cX0_row 21 = .ok (.iconst 1, 1) := by decide +kernel
theorem dX0_row_22 : decode cX0_row 22 = .ok (.goto 4, 3) := by decide +kernel
theorem dX0_row_25 : decode cX0_row 25 = .ok (.iconst 0, 1) := by decide +kernel
theorem dX0_row_26 : decode cX0_row 26 = .ok (.istore_n 3, 1) := by decide +kernel
theorem dX0_row_27 : decode cX0_row 27 = .ok (.iload_n 3, 1) := by decide +kernel
theorem dX0_row_28 : decode cX0_row 28 = .ok (.ifCond .eq 18, 3) := by decide +kernel
theorem dX0_row_31 : decode cX0_row 31 = .ok (.aload_n 0, 1) := by decide +kernel
theorem dX0_row_32 : decode cX0_row 32 = .ok (.getfield 9, 3) := by decide +kernel
theorem dX0_row_35 : decode cX0_row 35 = .ok (.iload_n 1, 1) := by decide +kernel
theorem dX0_row_36 : decode cX0_row 36 = .ok (.sipush 150, 3) := by decide +kernel
theorem dX0_row_39 : decode cX0_row 39 = .ok (.imul, 1) := by decide +kernel
theorem dX0_row_40 : decode cX0_row 40 = .ok (.iload_n 2, 1) := by decide +kernel
theorem dX0_row_41 : decode cX0_row 41 = .ok (.iadd, 1) := by decide +kernel
theorem dX0_row_42 : decode cX0_row 42 = .ok (.iaload, 1) := by decide +kernel
theorem dX0_row_43 : decode cX0_row 43 = .ok (.goto 4, 3) := by decide +kernel
theorem dX0_row_46 : decode cX0_row 46 = .ok (.iconst 0, 1) := by decide +kernel
theorem dX0_row_47 : decode cX0_row 47 = .ok (.ireturn, 1) := by decide +kernel
theorem dX0_move_0 : decode cX0_move 0 = .ok (.iload_n 1, 1) := by decide +kernel
theorem dX0_move_1 : decode cX0_move 1 = .ok (.ifCond .lt 23, 3) := by decide +kernel
theorem dX0_move_4 : decode cX0_move 4 = .ok (.iload_n 1, 1) := by decide +kernel
theorem dX0_move_5 : decode cX0_move 5 = .ok (.bipush 80, 2) := by decide +kernel
theorem dX0_move_7 : decode cX0_move 7 = .ok (.if_icmp .ge 17, 3) := by decide +kernel
theorem dX0_move_10 : decode cX0_move 10 = .ok (.iload_n 2, 1) := by decide +kernel
theorem dX0_move_11 : decode cX0_move 11 = .ok (.ifCond .lt 13, 3) := by decide +kernel
theorem dX0_move_14 : decode cX0_move 14 = .ok (.iload_n 2, 1) := by decide +kernel
theorem dX0_move_15 : decode cX0_move 15 = .ok (.bipush 32, 2) := by decide +kernel
theorem dX0_move_17 : decode cX0_move 17 = .ok (.if_icmp .ge 7, 3) := by decide +kernel
theorem dX0_move_20 : decode cX0_move 20 = .ok (.iconst 1, 1) := by decide +kernel
theorem dX0_move_21 : decode cX0_move 21 = .ok (.goto 4, 3) := by decide +kernel
theorem dX0_move_24 : decode cX0_move 24 = .ok (.iconst 0, 1) := by decide +kernel
theorem dX0_move_25 : decode cX0_move 25 = .ok (.istore_n 3, 1) := by decide +kernel
theorem dX0_move_26 : decode cX0_move 26 = .ok (.iload_n 3, 1) := by decide +kernel
theorem dX0_move_27 : decode cX0_move 27 = .ok (.ifCond .eq 17, 3) := by decide +kernel
theorem dX0_move_30 : decode cX0_move 30 = .ok (.aload_n 0, 1) := by decide +kernel
theorem dX0_move_31 : decode cX0_move 31 = .ok (.getfield 15, 3) := by decide +kernel
theorem dX0_move_34 : decode cX0_move 34 = .ok (.iload_n 1, 1) := by decide +kernel
theorem dX0_move_35 : decode cX0_move 35 = .ok (.bipush 32, 2) := by decide +kernel
theorem dX0_move_37 : decode cX0_move 37 = .ok (.imul, 1) := by decide +kernel
theorem dX0_move_38 : decode cX0_move 38 = .ok (.iload_n 2, 1) := by decide +kernel
theorem dX0_move_39 : decode cX0_move 39 = .ok (.iadd, 1) := by decide +kernel
theorem dX0_move_40 : decode cX0_move 40 = .ok (.iaload, 1) := by decide +kernel
theorem dX0_move_41 : decode cX0_move 41 = .ok (.goto 4, 3) := by decide +kernel
theorem dX0_move_44 : decode cX0_move 44 = .ok (.iconst (-1), 1) := by decide +kernel
theorem dX0_move_45 : decode cX0_move 45 = .ok (.ireturn, 1) := by decide +kernel
theorem dX0_build_0 : decode cX0_build 0 = .ok (.aload_n 0, 1) := by decide +kernel
theorem dX0_build_1 : decode cX0_build 1 = .ok (.getfield 36, 3) := by decide +kernel
theorem dX0_build_4 : decode cX0_build 4 = .ok (.ifCond .eq 4, 3) := by decide +kernel
theorem dX0_build_7 : decode cX0_build 7 = .ok (.return_, 1) := by decide +kernel
theorem dX0_build_8 : decode cX0_build 8 = .ok (.aload_n 0, 1) := by decide +kernel
theorem dX0_build_9 : decode cX0_build 9 = .ok (.iconst 0, 1) := by decide +kernel
theorem dX0_build_10 : decode cX0_build 10 = .ok (.putfield 42, 3) := by decide +kernel
theorem dX0_build_13 : decode cX0_build 13 = .ok (.aload_n 0, 1) := by decide +kernel
theorem dX0_build_14 : decode cX0_build 14 = .ok (.iconst 0, 1) := by decide +kernel
theorem dX0_build_15 : decode cX0_build 15 = .ok (.putfield 39, 3) := by decide +kernel
theorem dX0_build_18 : decode cX0_build 18 = .ok (.aload_n 0, 1) := by decide +kernel
theorem dX0_build_19 : decode cX0_build 19 = .ok (.getfield 25, 3) := by decide +kernel
theorem dX0_build_22 : decode cX0_build 22 = .ok (.iconst 0, 1) := by decide +kernel
theorem dX0_build_23 : decode cX0_build 23 = .ok (.invokestatic 46, 3) := by decide +kernel
theorem dX0_build_26 : decode cX0_build 26 = .ok (.aload_n 0, 1) := by decide +kernel
theorem dX0_build_27 : decode cX0_build 27 = .ok (.getfield 25, 3) := by decide +kernel
theorem dX0_build_30 : decode cX0_build 30 = .ok (.sipush 144, 3) := by decide +kernel
theorem dX0_build_33 : decode cX0_build 33 = .ok (.sipush 768, 3) := by decide +kernel
theorem dX0_build_36 : decode cX0_build 36 = .ok (.iastore, 1) := by decide +kernel
theorem dX0_build_37 : decode cX0_build 37 = .ok (.aload_n 0, 1) := by decide +kernel
theorem dX0_build_38 : decode cX0_build 38 = .ok (.iconst (-1), 1) := by decide +kernel
theorem dX0_build_39 : decode cX0_build 39 = .ok (.invokevirtual 52, 3) := by decide +kernel
theorem dX0_build_42 : decode cX0_build 42 = .ok (.pop, 1) := by decide +kernel
theorem dX0_build_43 : decode cX0_build 43 = .ok (.iconst 1, 1) := by decide +kernel
theorem dX0_build_44 : decode cX0_build 44 = .ok (.istore_n 1, 1) := by decide +kernel
theorem dX0_build_45 : decode cX0_build 45 = .ok (.iconst 0, 1) := by decide +kernel
theorem dX0_build_46 : decode cX0_build 46 = .ok (.istore_n 2, 1) := by decide +kernel
theorem dX0_build_47 : decode cX0_build 47 = .ok (.iload_n 2, 1) := by decide +kernel
theorem dX0_build_48 : decode cX0_build 48 = .ok (.ldc 56, 2) := by decide +kernel
theorem dX0_build_50 : decode cX0_build 50 = .ok (.if_icmp .ge 79, 3) := by decide +kernel
theorem dX0_build_53 : decode cX0_build 53 = .ok (.iload_n 1, 1) := by decide +kernel
theorem dX0_build_54 : decode cX0_build 54 = .ok (.ifCond .eq 75, 3) := by decide +kernel
theorem dX0_build_57 : decode cX0_build 57 = .ok (.aload_n 0, 1) := by decide +kernel
theorem dX0_build_58 : decode cX0_build 58 = .ok (.getfield 39, 3) := by decide +kernel
theorem dX0_build_61 : decode cX0_build 61 = .ok (.ifCond .ne 68, 3) := by decide +kernel
theorem dX0_build_64 : decode cX0_build 64 = .ok (.iconst 0, 1) := by decide +kernel
theorem dX0_build_65 : decode cX0_build 65 = .ok (.istore_n 1, 1) := by decide +kernel
theorem dX0_build_66 : decode cX0_build 66 = .ok (.iconst 0, 1) := by decide +kernel
theorem dX0_build_67 : decode cX0_build 67 = .ok (.istore_n 3, 1) := by decide +kernel
theorem dX0_build_68 : decode cX0_build 68 = .ok (.iload_n 3, 1) := by decide +kernel
theorem dX0_build_69 : decode cX0_build 69 = .ok (.aload_n 0, 1) := by decide +kernel
theorem dX0_build_70 : decode cX0_build 70 = .ok (.getfield 42, 3) := by decide +kernel
theorem dX0_build_73 : decode cX0_build 73 = .ok (.if_icmp .ge 50, 3) := by decide +kernel
theorem dX0_build_76 : decode cX0_build 76 = .ok (.iload_n 3, 1) := by decide +kernel
theorem dX0_build_77 : decode cX0_build 77 = .ok (.bipush 80, 2) := by decide +kernel
theorem dX0_build_79 : decode cX0_build 79 = .ok (.if_icmp .ge 44, 3) := by decide +kernel
theorem dX0_build_82 : decode cX0_build 82 = .ok (.aload_n 0, 1) := by decide +kernel
theorem dX0_build_83 : decode cX0_build 83 = .ok (.getfield 39, 3) := by decide +kernel
theorem dX0_build_86 : decode cX0_build 86 = .ok (.ifCond .ne 37, 3) := by decide +kernel
theorem dX0_build_89 : decode cX0_build 89 = .ok (.aload_n 0, 1) := by decide +kernel
theorem dX0_build_90 : decode cX0_build 90 = .ok (.getfield 21, 3) := by decide +kernel
theorem dX0_build_93 : decode cX0_build 93 = .ok (.iload_n 3, 1) := by decide +kernel
theorem dX0_build_94 : decode cX0_build 94 = .ok (.baload, 1) := by decide +kernel
theorem dX0_build_95 : decode cX0_build 95 = .ok (.ifCond .eq 22, 3) := by decide +kernel
theorem dX0_build_98 : decode cX0_build 98 = .ok (.aload_n 0, 1) := by decide +kernel
theorem dX0_build_99 : decode cX0_build 99 = .ok (.getfield 21, 3) := by decide +kernel
theorem dX0_build_102 : decode cX0_build 102 = .ok (.iload_n 3, 1) := by decide +kernel
theorem dX0_build_103 : decode cX0_build 103 = .ok (.iconst 0, 1) := by decide +kernel
theorem dX0_build_104 : decode cX0_build 104 = .ok (.bastore, 1) := by decide +kernel
theorem dX0_build_105 : decode cX0_build 105 = .ok (.aload_n 0, 1) := by decide +kernel
theorem dX0_build_106 : decode cX0_build 106 = .ok (.iload_n 3, 1) := by decide +kernel
theorem dX0_build_107 : decode cX0_build 107 = .ok (.invokevirtual 57, 3) := by decide +kernel
theorem dX0_build_110 : decode cX0_build 110 = .ok (.aload_n 0, 1) := by decide +kernel
theorem dX0_build_111 : decode cX0_build 111 = .ok (.iload_n 3, 1) := by decide +kernel
theorem dX0_build_112 : decode cX0_build 112 = .ok (.invokevirtual 61, 3) := by decide +kernel
theorem dX0_build_115 : decode cX0_build 115 = .ok (.iconst 1, 1) := by decide +kernel
theorem dX0_build_116 : decode cX0_build 116 = .ok (.istore_n 1, 1) := by decide +kernel
theorem dX0_build_117 : decode cX0_build 117 = .ok (.iinc 3 1, 3) := by decide +kernel
theorem dX0_build_120 : decode cX0_build 120 = .ok (.goto (-52), 3) := by decide +kernel
theorem dX0_build_123 : decode cX0_build 123 = .ok (.iinc 2 1, 3) := by decide +kernel
theorem dX0_build_126 : decode cX0_build 126 = .ok (.goto (-79), 3) := by decide +kernel
theorem dX0_build_129 : decode cX0_build 129 = .ok (.aload_n 0, 1) := by decide +kernel
theorem dX0_build_130 : decode cX0_build 130 = .ok (.iconst 1, 1) := by decide +kernel
theorem dX0_build_131 : decode cX0_build 131 = .ok (.putfield 36, 3) := by decide +kernel
theorem dX0_build_134 : decode cX0_build 134 = .ok (.return_, 1) := by decide +kernel
theorem dX0_complete_0 : decode cX0_complete 0 = .ok (.iconst 1, 1) := by decide +kernel
theorem dX0_complete_1 : decode cX0_complete 1 = .ok (.istore_n 2, 1) := by decide +kernel
theorem dX0_complete_2 : decode cX0_complete 2 = .ok (.iconst 0, 1) := by decide +kernel
theorem dX0_complete_3 : decode cX0_complete 3 = .ok (.istore_n 3, 1) := by decide +kernel
theorem dX0_complete_4 : decode cX0_complete 4 = .ok (.iload_n 3, 1) := by decide +kernel
theorem dX0_complete_5 : decode cX0_complete 5 = .ok (.ldc 56, 2) := by decide +kernel
theorem dX0_complete_7 : decode cX0_complete 7 = .ok (.if_icmp .ge 67, 3) := by decide +kernel
theorem dX0_complete_10 : decode cX0_complete 10 = .ok (.iload_n 2, 1) := by decide +kernel
theorem dX0_complete_11 : decode cX0_complete 11 = .ok (.ifCond .eq 63, 3) := by decide +kernel
theorem dX0_complete_14 : decode cX0_complete 14 = .ok (.iconst 0, 1) := by decide +kernel
theorem dX0_complete_15 : decode cX0_complete 15 = .ok (.istore_n 2, 1) := by decide +kernel
theorem dX0_complete_16 : decode cX0_complete 16 = .ok (.iconst 0, 1) := by decide +kernel
theorem dX0_complete_17 : decode cX0_complete 17 = .ok (.istore 4, 2) := by decide +kernel
theorem dX0_complete_19 : decode cX0_complete 19 = .ok (.iload 4, 2) := by decide +kernel
theorem dX0_complete_21 : decode cX0_complete 21 = .ok (.sipush 150, 3) := by decide +kernel
theorem dX0_complete_24 : decode cX0_complete 24 = .ok (.if_icmp .ge 44, 3) := by decide +kernel
theorem dX0_complete_27 : decode cX0_complete 27 = .ok (.aload_n 0, 1) := by decide +kernel
theorem dX0_complete_28 : decode cX0_complete 28 = .ok (.iload_n 1, 1) := by decide +kernel
theorem dX0_complete_29 : decode cX0_complete 29 = .ok (.iload 4, 2) := by decide +kernel
theorem dX0_complete_31 : decode cX0_complete 31 = .ok (.invokevirtual 64, 3) := by decide +kernel
theorem dX0_complete_34 : decode cX0_complete 34 = .ok (.ifCond .eq 28, 3) := by decide +kernel
theorem dX0_complete_37 : decode cX0_complete 37 = .ok (.aload_n 0, 1) := by decide +kernel
theorem dX0_complete_38 : decode cX0_complete 38 = .ok (.getfield 28, 3) := by decide +kernel
theorem dX0_complete_41 : decode cX0_complete 41 = .ok (.iload 4, 2) := by decide +kernel
theorem dX0_complete_43 : decode cX0_complete 43 = .ok (.invokevirtual 68, 3) := by decide +kernel
theorem dX0_complete_46 : decode cX0_complete 46 = .ok (.invokestatic 73, 3) := by decide +kernel
theorem dX0_complete_49 : decode cX0_complete 49 = .ok (.ifCond .eq 13, 3) := by decide +kernel
theorem dX0_complete_52 : decode cX0_complete 52 = .ok (.iload_n 2, 1) := by decide +kernel
theorem dX0_complete_53 : decode cX0_complete 53 = .ok (.aload_n 0, 1) := by decide +kernel
theorem dX0_complete_54 : decode cX0_complete 54 = .ok (.iload_n 1, 1) := by decide +kernel
theorem dX0_complete_55 : decode cX0_complete 55 = .ok (.iload 4, 2) := by decide +kernel
theorem dX0_complete_57 : decode cX0_complete 57 = .ok (.invokevirtual 77, 3) := by decide +kernel
theorem dX0_complete_60 : decode cX0_complete 60 = .ok (.ior, 1) := by decide +kernel
theorem dX0_complete_61 : decode cX0_complete 61 = .ok (.istore_n 2, 1) := by decide +kernel
theorem dX0_complete_62 : decode cX0_complete 62 = .ok (.iinc 4 1, 3) := by decide +kernel
theorem dX0_complete_65 : decode cX0_complete 65 = .ok (.goto (-46), 3) := by decide +kernel
theorem dX0_complete_68 : decode cX0_complete 68 = .ok (.iinc 3 1, 3) := by decide +kernel
theorem dX0_complete_71 : decode cX0_complete 71 = .ok (.goto (-67), 3) := by decide +kernel
theorem dX0_complete_74 : decode cX0_complete 74 = .ok (.return_, 1) := by decide +kernel
theorem dX0_addItems_0 : decode cX0_addItems 0 = .ok (.aload_n 0, 1) := by decide +kernel
theorem dX0_addItems_1 : decode cX0_addItems 1 = .ok (.getfield 28, 3) := by decide +kernel
theorem dX0_addItems_4 : decode cX0_addItems 4 = .ok (.iload_n 2, 1) := by decide +kernel
theorem dX0_addItems_5 : decode cX0_addItems 5 = .ok (.invokevirtual 81, 3) := by decide +kernel
theorem dX0_addItems_8 : decode cX0_addItems 8 = .ok (.aload_n 0, 1) := by decide +kernel
theorem dX0_addItems_9 : decode cX0_addItems 9 = .ok (.iload_n 1, 1) := by decide +kernel
theorem dX0_addItems_10 : decode cX0_addItems 10 = .ok (.iload_n 2, 1) := by decide +kernel
theorem dX0_addItems_11 : decode cX0_addItems 11 = .ok (.invokevirtual 64, 3) := by decide +kernel
theorem dX0_addItems_14 : decode cX0_addItems 14 = .ok (.sipush 511, 3) := by decide +kernel
theorem dX0_addItems_17 : decode cX0_addItems 17 = .ok (.iand, 1) := by decide +kernel
theorem dX0_addItems_18 : decode cX0_addItems 18 = .ok (.invokestatic 84, 3) := by decide +kernel
theorem dX0_addItems_21 : decode cX0_addItems 21 = .ok (.istore_n 3, 1) := by decide +kernel
theorem dX0_addItems_22 : decode cX0_addItems 22 = .ok (.aload_n 0, 1) := by decide +kernel
theorem dX0_addItems_23 : decode cX0_addItems 23 = .ok (.getfield 28, 3) := by decide +kernel
theorem dX0_addItems_26 : decode cX0_addItems 26 = .ok (.iload_n 2, 1) := by decide +kernel
theorem dX0_addItems_27 : decode cX0_addItems 27 = .ok (.invokevirtual 68, 3) := by decide +kernel
theorem dX0_addItems_30 : decode cX0_addItems 30 = .ok (.bipush 16, 2) := by decide +kernel
theorem dX0_addItems_32 : decode cX0_addItems 32 = .ok (.isub, 1) := by decide +kernel
theorem dX0_addItems_33 : decode cX0_addItems 33 = .ok (.istore 4, 2) := by decide +kernel
theorem dX0_addItems_35 : decode cX0_addItems 35 = .ok (.aload_n 0, 1) := by decide +kernel
theorem dX0_addItems_36 : decode cX0_addItems 36 = .ok (.getfield 28, 3) := by decide +kernel
theorem dX0_addItems_39 : decode cX0_addItems 39 = .ok (.invokevirtual 87, 3) := by decide +kernel
theorem dX0_addItems_42 : decode cX0_addItems 42 = .ok (.astore 5, 2) := by decide +kernel
theorem dX0_addItems_44 : decode cX0_addItems 44 = .ok (.iconst 0, 1) := by decide +kernel
theorem dX0_addItems_45 : decode cX0_addItems 45 = .ok (.istore 6, 2) := by decide +kernel
theorem dX0_addItems_47 : decode cX0_addItems 47 = .ok (.iconst 0, 1) := by decide +kernel
theorem dX0_addItems_48 : decode cX0_addItems 48 = .ok (.istore 7, 2) := by decide +kernel
theorem dX0_addItems_50 : decode cX0_addItems 50 = .ok (.iload 7, 2) := by decide +kernel
theorem dX0_addItems_52 : decode cX0_addItems 52 = .ok (.aload 5, 2) := by decide +kernel
theorem dX0_addItems_54 : decode cX0_addItems 54 = .ok (.invokevirtual 91, 3) := by decide +kernel
theorem dX0_addItems_57 : decode cX0_addItems 57 = .ok (.if_icmp .ge 41, 3) := by decide +kernel
theorem dX0_addItems_60 : decode cX0_addItems 60 = .ok (.aload 5, 2) := by decide +kernel
theorem dX0_addItems_62 : decode cX0_addItems 62 = .ok (.iload 7, 2) := by decide +kernel
theorem dX0_addItems_64 : decode cX0_addItems 64 = .ok (.invokevirtual 97, 3) := by decide +kernel
theorem dX0_addItems_67 : decode cX0_addItems 67 = .ok (.iload 4, 2) := by decide +kernel
theorem dX0_addItems_69 : decode cX0_addItems 69 = .ok (.if_icmp .ne 23, 3) := by decide +kernel
theorem dX0_addItems_72 : decode cX0_addItems 72 = .ok (.iload 6, 2) := by decide +kernel
theorem dX0_addItems_74 : decode cX0_addItems 74 = .ok (.aload_n 0, 1) := by decide +kernel
theorem dX0_addItems_75 : decode cX0_addItems 75 = .ok (.iload_n 1, 1) := by decide +kernel
theorem dX0_addItems_76 : decode cX0_addItems 76 = .ok (.iload 7, 2) := by decide +kernel
theorem dX0_addItems_78 : decode cX0_addItems 78 = .ok (.bipush 6, 2) := by decide +kernel
theorem dX0_addItems_80 : decode cX0_addItems 80 = .ok (.imul, 1) := by decide +kernel
theorem dX0_addItems_81 : decode cX0_addItems 81 = .ok (.sipush 512, 3) := by decide +kernel
theorem dX0_addItems_84 : decode cX0_addItems 84 = .ok (.iload_n 3, 1) := by decide +kernel
theorem dX0_addItems_85 : decode cX0_addItems 85 = .ok (.ior, 1) := by decide +kernel
theorem dX0_addItems_86 : decode cX0_addItems 86 = .ok (.invokevirtual 100, 3) := by decide +kernel
theorem dX0_addItems_89 : decode cX0_addItems 89 = .ok (.ior, 1) := by decide +kernel
theorem dX0_addItems_90 : decode cX0_addItems 90 = .ok (.istore 6, 2) := by decide +kernel
theorem dX0_addItems_92 : decode cX0_addItems 92 = .ok (.iinc 7 1, 3) := by decide +kernel
theorem dX0_addItems_95 : decode cX0_addItems 95 = .ok (.goto (-45), 3) := by decide +kernel
theorem dX0_addItems_98 : decode cX0_addItems 98 = .ok (.iload 6, 2) := by decide +kernel
theorem dX0_addItems_100 : decode cX0_addItems 100 = .ok (.ireturn, 1) := by decide +kernel
theorem dX0_widen_0 : decode cX0_widen 0 = .ok (.iload_n 1, 1) := by decide +kernel
theorem dX0_widen_1 : decode cX0_widen 1 = .ok (.ifCond .lt 20, 3) := by decide +kernel
theorem dX0_widen_4 : decode cX0_widen 4 = .ok (.iload_n 1, 1) := by decide +kernel
theorem dX0_widen_5 : decode cX0_widen 5 = .ok (.bipush 80, 2) := by decide +kernel
theorem dX0_widen_7 : decode cX0_widen 7 = .ok (.if_icmp .ge 14, 3) := by decide +kernel
theorem dX0_widen_10 : decode cX0_widen 10 = .ok (.iload_n 2, 1) := by decide +kernel
theorem dX0_widen_11 : decode cX0_widen 11 = .ok (.ifCond .lt 10, 3) := by decide +kernel
theorem dX0_widen_14 : decode cX0_widen 14 = .ok (.iload_n 2, 1) := by decide +kernel
theorem dX0_widen_15 : decode cX0_widen 15 = .ok (.sipush 150, 3) := by decide +kernel
theorem dX0_widen_18 : decode cX0_widen 18 = .ok (.if_icmp .lt 5, 3) := by decide +kernel
theorem dX0_widen_21 : decode cX0_widen 21 = .ok (.iconst 0, 1) := by decide +kernel
theorem dX0_widen_22 : decode cX0_widen 22 = .ok (.ireturn, 1) := by decide +kernel
theorem dX0_widen_23 : decode cX0_widen 23 = .ok (.aload_n 0, 1) := by decide +kernel
theorem dX0_widen_24 : decode cX0_widen 24 = .ok (.getfield 9, 3) := by decide +kernel
theorem dX0_widen_27 : decode cX0_widen 27 = .ok (.iload_n 1, 1) := by decide +kernel
theorem dX0_widen_28 : decode cX0_widen 28 = .ok (.sipush 150, 3) := by decide +kernel
theorem dX0_widen_31 : decode cX0_widen 31 = .ok (.imul, 1) := by decide +kernel
theorem dX0_widen_32 : decode cX0_widen 32 = .ok (.iload_n 2, 1) := by decide +kernel
theorem dX0_widen_33 : decode cX0_widen 33 = .ok (.iadd, 1) := by decide +kernel
theorem dX0_widen_34 : decode cX0_widen 34 = .ok (.iaload, 1) := by decide +kernel
theorem dX0_widen_35 : decode cX0_widen 35 = .ok (.istore 4, 2) := by decide +kernel
theorem dX0_widen_37 : decode cX0_widen 37 = .ok (.aload_n 0, 1) := by decide +kernel
theorem dX0_widen_38 : decode cX0_widen 38 = .ok (.getfield 9, 3) := by decide +kernel
theorem dX0_widen_41 : decode cX0_widen 41 = .ok (.iload_n 1, 1) := by decide +kernel
theorem dX0_widen_42 : decode cX0_widen 42 = .ok (.sipush 150, 3) := by decide +kernel
theorem dX0_widen_45 : decode cX0_widen 45 = .ok (.imul, 1) := by decide +kernel
theorem dX0_widen_46 : decode cX0_widen 46 = .ok (.iload_n 2, 1) := by decide +kernel
theorem dX0_widen_47 : decode cX0_widen 47 = .ok (.iadd, 1) := by decide +kernel
theorem dX0_widen_48 : decode cX0_widen 48 = .ok (.iload 4, 2) := by decide +kernel
theorem dX0_widen_50 : decode cX0_widen 50 = .ok (.iload_n 3, 1) := by decide +kernel
theorem dX0_widen_51 : decode cX0_widen 51 = .ok (.ior, 1) := by decide +kernel
theorem dX0_widen_52 : decode cX0_widen 52 = .ok (.iastore, 1) := by decide +kernel
theorem dX0_widen_53 : decode cX0_widen 53 = .ok (.iload 4, 2) := by decide +kernel
theorem dX0_widen_55 : decode cX0_widen 55 = .ok (.iload_n 3, 1) := by decide +kernel
theorem dX0_widen_56 : decode cX0_widen 56 = .ok (.ior, 1) := by decide +kernel
theorem dX0_widen_57 : decode cX0_widen 57 = .ok (.iload 4, 2) := by decide +kernel
theorem dX0_widen_59 : decode cX0_widen 59 = .ok (.if_icmp .eq 7, 3) := by decide +kernel
theorem dX0_widen_62 : decode cX0_widen 62 = .ok (.iconst 1, 1) := by decide +kernel
theorem dX0_widen_63 : decode cX0_widen 63 = .ok (.goto 4, 3) := by decide +kernel
theorem dX0_widen_66 : decode cX0_widen 66 = .ok (.iconst 0, 1) := by decide +kernel
theorem dX0_widen_67 : decode cX0_widen 67 = .ok (.ireturn, 1) := by decide +kernel
theorem dX0_leave_0 : decode cX0_leave 0 = .ok (.aload_n 0, 1) := by decide +kernel
theorem dX0_leave_1 : decode cX0_leave 1 = .ok (.iload_n 1, 1) := by decide +kernel
theorem dX0_leave_2 : decode cX0_leave 2 = .ok (.invokevirtual 104, 3) := by decide +kernel
theorem dX0_leave_5 : decode cX0_leave 5 = .ok (.istore_n 2, 1) := by decide +kernel
theorem dX0_leave_6 : decode cX0_leave 6 = .ok (.iconst 0, 1) := by decide +kernel
theorem dX0_leave_7 : decode cX0_leave 7 = .ok (.istore_n 3, 1) := by decide +kernel
theorem dX0_leave_8 : decode cX0_leave 8 = .ok (.iload_n 3, 1) := by decide +kernel
theorem dX0_leave_9 : decode cX0_leave 9 = .ok (.bipush 32, 2) := by decide +kernel
theorem dX0_leave_11 : decode cX0_leave 11 = .ok (.if_icmp .ge 30, 3) := by decide +kernel
theorem dX0_leave_14 : decode cX0_leave 14 = .ok (.aload_n 0, 1) := by decide +kernel
theorem dX0_leave_15 : decode cX0_leave 15 = .ok (.getfield 39, 3) := by decide +kernel
theorem dX0_leave_18 : decode cX0_leave 18 = .ok (.ifCond .ne 23, 3) := by decide +kernel
theorem dX0_leave_21 : decode cX0_leave 21 = .ok (.iload_n 2, 1) := by decide +kernel
theorem dX0_leave_22 : decode cX0_leave 22 = .ok (.iload_n 3, 1) := by decide +kernel
theorem dX0_leave_23 : decode cX0_leave 23 = .ok (.invokestatic 107, 3) := by decide +kernel
theorem dX0_leave_26 : decode cX0_leave 26 = .ok (.ifCond .eq 9, 3) := by decide +kernel
theorem dX0_leave_29 : decode cX0_leave 29 = .ok (.aload_n 0, 1) := by decide +kernel
theorem dX0_leave_30 : decode cX0_leave 30 = .ok (.iload_n 1, 1) := by decide +kernel
theorem dX0_leave_31 : decode cX0_leave 31 = .ok (.iload_n 3, 1) := by decide +kernel
theorem dX0_leave_32 : decode cX0_leave 32 = .ok (.invokevirtual 110, 3) := by decide +kernel
theorem dX0_leave_35 : decode cX0_leave 35 = .ok (.iinc 3 1, 3) := by decide +kernel
theorem dX0_leave_38 : decode cX0_leave 38 = .ok (.goto (-30), 3) := by decide +kernel
theorem dX0_leave_41 : decode cX0_leave 41 = .ok (.return_, 1) := by decide +kernel
theorem dX0_symbolsInFront_0 : decode cX0_symbolsInFront 0 = .ok (.iconst 0, 1) := by decide +kernel
theorem dX0_symbolsInFront_1 : decode cX0_symbolsInFront 1 = .ok (.istore_n 2, 1) := by decide +kernel
theorem dX0_symbolsInFront_2 : decode cX0_symbolsInFront 2 = .ok (.iconst 0, 1) := by decide +kernel
theorem dX0_symbolsInFront_3 : decode cX0_symbolsInFront 3 = .ok (.istore_n 3, 1) := by decide +kernel
theorem dX0_symbolsInFront_4 : decode cX0_symbolsInFront 4 = .ok (.iload_n 3, 1) := by decide +kernel
theorem dX0_symbolsInFront_5 : decode cX0_symbolsInFront 5 = .ok (.sipush 150, 3) := by decide +kernel
theorem dX0_symbolsInFront_8 : decode cX0_symbolsInFront 8 = .ok (.if_icmp .ge 41, 3) := by decide +kernel
theorem dX0_symbolsInFront_11 : decode cX0_symbolsInFront 11 = .ok (.aload_n 0, 1) := by decide +kernel
theorem dX0_symbolsInFront_12 : decode cX0_symbolsInFront 12 = .ok (.getfield 28, 3) := by decide +kernel
theorem dX0_symbolsInFront_15 : decode cX0_symbolsInFront 15 = .ok (.iload_n 3, 1) := by decide +kernel
theorem dX0_symbolsInFront_16 : decode cX0_symbolsInFront 16 = .ok (.invokevirtual 68, 3) := by decide +kernel
theorem dX0_symbolsInFront_19 : decode cX0_symbolsInFront 19 = .ok (.istore 4, 2) := by decide +kernel
theorem dX0_symbolsInFront_21 : decode cX0_symbolsInFront 21 = .ok (.aload_n 0, 1) := by decide +kernel
theorem dX0_symbolsInFront_22 : decode cX0_symbolsInFront 22 = .ok (.iload_n 1, 1) := by decide +kernel
theorem dX0_symbolsInFront_23 : decode cX0_symbolsInFront 23 = .ok (.iload_n 3, 1) := by decide +kernel
theorem dX0_symbolsInFront_24 : decode cX0_symbolsInFront 24 = .ok (.invokevirtual 64, 3) := by decide +kernel
theorem dX0_symbolsInFront_27 : decode cX0_symbolsInFront 27 = .ok (.ifCond .eq 16, 3) := by decide +kernel
theorem dX0_symbolsInFront_30 : decode cX0_symbolsInFront 30 = .ok (.iload 4, 2) := by decide +kernel
theorem dX0_symbolsInFront_32 : decode cX0_symbolsInFront 32 = .ok (.iconst (-1), 1) := by decide +kernel
theorem dX0_symbolsInFront_33 : decode cX0_symbolsInFront 33 = .ok (.if_icmp .eq 10, 3) := by decide +kernel
theorem dX0_symbolsInFront_36 : decode cX0_symbolsInFront 36 = .ok (.iload_n 2, 1) := by decide +kernel
theorem dX0_symbolsInFront_37 : decode cX0_symbolsInFront 37 = .ok (.iconst 1, 1) := by decide +kernel
theorem dX0_symbolsInFront_38 : decode cX0_symbolsInFront 38 = .ok (.iload 4, 2) := by decide +kernel
theorem dX0_symbolsInFront_40 : decode cX0_symbolsInFront 40 = .ok (.ishl, 1) := by decide +kernel
theorem dX0_symbolsInFront_41 : decode cX0_symbolsInFront 41 = .ok (.ior, 1) := by decide +kernel
theorem dX0_symbolsInFront_42 : decode cX0_symbolsInFront 42 = .ok (.istore_n 2, 1) := by decide +kernel
theorem dX0_symbolsInFront_43 : decode cX0_symbolsInFront 43 = .ok (.iinc 3 1, 3) := by decide +kernel
theorem dX0_symbolsInFront_46 : decode cX0_symbolsInFront 46 = .ok (.goto (-42), 3) := by decide +kernel
theorem dX0_symbolsInFront_49 : decode cX0_symbolsInFront 49 = .ok (.iload_n 2, 1) := by decide +kernel
theorem dX0_symbolsInFront_50 : decode cX0_symbolsInFront 50 = .ok (.ireturn, 1) := by decide +kernel
theorem dX0_advance_0 : decode cX0_advance 0 = .ok (.aload_n 0, 1) := by decide +kernel
theorem dX0_advance_1 : decode cX0_advance 1 = .ok (.getfield 25, 3) := by decide +kernel
theorem dX0_advance_4 : decode cX0_advance 4 = .ok (.iconst 0, 1) := by decide +kernel
theorem dX0_advance_5 : decode cX0_advance 5 = .ok (.invokestatic 46, 3) := by decide +kernel
theorem dX0_advance_8 : decode cX0_advance 8 = .ok (.iconst 0, 1) := by decide +kernel
theorem dX0_advance_9 : decode cX0_advance 9 = .ok (.istore_n 3, 1) := by decide +kernel
theorem dX0_advance_10 : decode cX0_advance 10 = .ok (.iload_n 3, 1) := by decide +kernel
theorem dX0_advance_11 : decode cX0_advance 11 = .ok (.iconst 1, 1) := by decide +kernel
theorem dX0_advance_12 : decode cX0_advance 12 = .ok (.iadd, 1) := by decide +kernel
theorem dX0_advance_13 : decode cX0_advance 13 = .ok (.sipush 150, 3) := by decide +kernel
theorem dX0_advance_16 : decode cX0_advance 16 = .ok (.if_icmp .ge 35, 3) := by decide +kernel
theorem dX0_advance_19 : decode cX0_advance 19 = .ok (.aload_n 0, 1) := by decide +kernel
theorem dX0_advance_20 : decode cX0_advance 20 = .ok (.getfield 28, 3) := by decide +kernel
theorem dX0_advance_23 : decode cX0_advance 23 = .ok (.iload_n 3, 1) := by decide +kernel
theorem dX0_advance_24 : decode cX0_advance 24 = .ok (.invokevirtual 68, 3) := by decide +kernel
theorem dX0_advance_27 : decode cX0_advance 27 = .ok (.iload_n 2, 1) := by decide +kernel
theorem dX0_advance_28 : decode cX0_advance 28 = .ok (.if_icmp .ne 17, 3) := by decide +kernel
theorem dX0_advance_31 : decode cX0_advance 31 = .ok (.aload_n 0, 1) := by decide +kernel
theorem dX0_advance_32 : decode cX0_advance 32 = .ok (.getfield 25, 3) := by decide +kernel
theorem dX0_advance_35 : decode cX0_advance 35 = .ok (.iload_n 3, 1) := by decide +kernel
theorem dX0_advance_36 : decode cX0_advance 36 = .ok (.iconst 1, 1) := by decide +kernel
theorem dX0_advance_37 : decode cX0_advance 37 = .ok (.iadd, 1) := by decide +kernel
theorem dX0_advance_38 : decode cX0_advance 38 = .ok (.aload_n 0, 1) := by decide +kernel
theorem dX0_advance_39 : decode cX0_advance 39 = .ok (.iload_n 1, 1) := by decide +kernel
theorem dX0_advance_40 : decode cX0_advance 40 = .ok (.iload_n 3, 1) := by decide +kernel
theorem dX0_advance_41 : decode cX0_advance 41 = .ok (.invokevirtual 64, 3) := by decide +kernel
theorem dX0_advance_44 : decode cX0_advance 44 = .ok (.iastore, 1) := by decide +kernel
theorem dX0_advance_45 : decode cX0_advance 45 = .ok (.iinc 3 1, 3) := by decide +kernel
theorem dX0_advance_48 : decode cX0_advance 48 = .ok (.goto (-38), 3) := by decide +kernel
theorem dX0_advance_51 : decode cX0_advance 51 = .ok (.aload_n 0, 1) := by decide +kernel
theorem dX0_advance_52 : decode cX0_advance 52 = .ok (.iload_n 2, 1) := by decide +kernel
theorem dX0_advance_53 : decode cX0_advance 53 = .ok (.invokevirtual 114, 3) := by decide +kernel
theorem dX0_advance_56 : decode cX0_advance 56 = .ok (.istore_n 3, 1) := by decide +kernel
theorem dX0_advance_57 : decode cX0_advance 57 = .ok (.iload_n 3, 1) := by decide +kernel
theorem dX0_advance_58 : decode cX0_advance 58 = .ok (.iconst (-1), 1) := by decide +kernel
theorem dX0_advance_59 : decode cX0_advance 59 = .ok (.if_icmp .ne 12, 3) := by decide +kernel
theorem dX0_advance_62 : decode cX0_advance 62 = .ok (.aload_n 0, 1) := by decide +kernel
theorem dX0_advance_63 : decode cX0_advance 63 = .ok (.iload_n 2, 1) := by decide +kernel
theorem dX0_advance_64 : decode cX0_advance 64 = .ok (.invokevirtual 52, 3) := by decide +kernel
theorem dX0_advance_67 : decode cX0_advance 67 = .ok (.istore_n 3, 1) := by decide +kernel
theorem dX0_advance_68 : decode cX0_advance 68 = .ok (.goto 15, 3) := by decide +kernel
theorem dX0_advance_71 : decode cX0_advance 71 = .ok (.aload_n 0, 1) := by decide +kernel
theorem dX0_advance_72 : decode cX0_advance 72 = .ok (.getfield 32, 3) := by decide +kernel
theorem dX0_advance_75 : decode cX0_advance 75 = .ok (.ifCond .eq 8, 3) := by decide +kernel
theorem dX0_advance_78 : decode cX0_advance 78 = .ok (.aload_n 0, 1) := by decide +kernel
theorem dX0_advance_79 : decode cX0_advance 79 = .ok (.iload_n 3, 1) := by decide +kernel
theorem dX0_advance_80 : decode cX0_advance 80 = .ok (.invokevirtual 117, 3) := by decide +kernel
theorem dX0_advance_83 : decode cX0_advance 83 = .ok (.iload_n 1, 1) := by decide +kernel
theorem dX0_advance_84 : decode cX0_advance 84 = .ok (.ifCond .lt 31, 3) := by decide +kernel
theorem dX0_advance_87 : decode cX0_advance 87 = .ok (.iload_n 1, 1) := by decide +kernel
theorem dX0_advance_88 : decode cX0_advance 88 = .ok (.bipush 80, 2) := by decide +kernel
theorem dX0_advance_90 : decode cX0_advance 90 = .ok (.if_icmp .ge 25, 3) := by decide +kernel
theorem dX0_advance_93 : decode cX0_advance 93 = .ok (.iload_n 2, 1) := by decide +kernel
theorem dX0_advance_94 : decode cX0_advance 94 = .ok (.ifCond .lt 21, 3) := by decide +kernel
theorem dX0_advance_97 : decode cX0_advance 97 = .ok (.iload_n 2, 1) := by decide +kernel
theorem dX0_advance_98 : decode cX0_advance 98 = .ok (.bipush 32, 2) := by decide +kernel
theorem dX0_advance_100 : decode cX0_advance 100 = .ok (.if_icmp .ge 15, 3) := by decide +kernel
theorem dX0_advance_103 : decode cX0_advance 103 = .ok (.aload_n 0, 1) := by decide +kernel
theorem dX0_advance_104 : decode cX0_advance 104 = .ok (.getfield 15, 3) := by decide +kernel
theorem dX0_advance_107 : decode cX0_advance 107 = .ok (.iload_n 1, 1) := by decide +kernel
theorem dX0_advance_108 : decode cX0_advance 108 = .ok (.bipush 32, 2) := by decide +kernel
theorem dX0_advance_110 : decode cX0_advance 110 = .ok (.imul, 1) := by decide +kernel
theorem dX0_advance_111 : decode cX0_advance 111 = .ok (.iload_n 2, 1) := by decide +kernel
theorem dX0_advance_112 : decode cX0_advance 112 = .ok (.iadd, 1) := by decide +kernel
theorem dX0_advance_113 : decode cX0_advance 113 = .ok (.iload_n 3, 1) := by decide +kernel
theorem dX0_advance_114 : decode cX0_advance 114 = .ok (.iastore, 1) := by decide +kernel
theorem dX0_advance_115 : decode cX0_advance 115 = .ok (.return_, 1) := by decide +kernel
theorem dX0_findState_0 : decode cX0_findState 0 = .ok (.iconst 0, 1) := by decide +kernel
theorem dX0_findState_1 : decode cX0_findState 1 = .ok (.istore_n 2, 1) := by decide +kernel
theorem dX0_findState_2 : decode cX0_findState 2 = .ok (.iload_n 2, 1) := by decide +kernel
theorem dX0_findState_3 : decode cX0_findState 3 = .ok (.aload_n 0, 1) := by decide +kernel
theorem dX0_findState_4 : decode cX0_findState 4 = .ok (.getfield 42, 3) := by decide +kernel
theorem dX0_findState_7 : decode cX0_findState 7 = .ok (.if_icmp .ge 35, 3) := by decide +kernel
theorem dX0_findState_10 : decode cX0_findState 10 = .ok (.iload_n 2, 1) := by decide +kernel
theorem dX0_findState_11 : decode cX0_findState 11 = .ok (.bipush 80, 2) := by decide +kernel
theorem dX0_findState_13 : decode cX0_findState 13 = .ok (.if_icmp .ge 29, 3) := by decide +kernel
theorem dX0_findState_16 : decode cX0_findState 16 = .ok (.aload_n 0, 1) := by decide +kernel
theorem dX0_findState_17 : decode cX0_findState 17 = .ok (.getfield 18, 3) := by decide +kernel
theorem dX0_findState_20 : decode cX0_findState 20 = .ok (.iload_n 2, 1) := by decide +kernel
theorem dX0_findState_21 : decode cX0_findState 21 = .ok (.iaload, 1) := by decide +kernel
theorem dX0_findState_22 : decode cX0_findState 22 = .ok (.iload_n 1, 1) := by decide +kernel
theorem dX0_findState_23 : decode cX0_findState 23 = .ok (.if_icmp .ne 13, 3) := by decide +kernel
theorem dX0_findState_26 : decode cX0_findState 26 = .ok (.aload_n 0, 1) := by decide +kernel
theorem dX0_findState_27 : decode cX0_findState 27 = .ok (.iload_n 2, 1) := by decide +kernel
theorem dX0_findState_28 : decode cX0_findState 28 = .ok (.invokevirtual 120, 3) := by decide +kernel
theorem dX0_findState_31 : decode cX0_findState 31 = .ok (.ifCond .eq 5, 3) := by decide +kernel
theorem dX0_findState_34 : decode cX0_findState 34 = .ok (.iload_n 2, 1) := by decide +kernel
theorem dX0_findState_35 : decode cX0_findState 35 = .ok (.ireturn, 1) := by decide +kernel
theorem dX0_findState_36 : decode cX0_findState 36 = .ok (.iinc 2 1, 3) := by decide +kernel
theorem dX0_findState_39 : decode cX0_findState 39 = .ok (.goto (-37), 3) := by decide +kernel
theorem dX0_findState_42 : decode cX0_findState 42 = .ok (.iconst (-1), 1) := by decide +kernel
theorem dX0_findState_43 : decode cX0_findState 43 = .ok (.ireturn, 1) := by decide +kernel
theorem dX0_beginsFresh_0 : decode cX0_beginsFresh 0 = .ok (.iload_n 1, 1) := by decide +kernel
theorem dX0_beginsFresh_1 : decode cX0_beginsFresh 1 = .ok (.ifCond .lt 9, 3) := by decide +kernel
theorem dX0_beginsFresh_4 : decode cX0_beginsFresh 4 = .ok (.iload_n 1, 1) := by decide +kernel
theorem dX0_beginsFresh_5 : decode cX0_beginsFresh 5 = .ok (.bipush 80, 2) := by decide +kernel
theorem dX0_beginsFresh_7 : decode cX0_beginsFresh 7 = .ok (.if_icmp .lt 5, 3) := by decide +kernel
theorem dX0_beginsFresh_10 : decode cX0_beginsFresh 10 = .ok (.iconst 0, 1) := by decide +kernel
theorem dX0_beginsFresh_11 : decode cX0_beginsFresh 11 = .ok (.ireturn, 1) := by decide +kernel
theorem dX0_beginsFresh_12 : decode cX0_beginsFresh 12 = .ok (.iconst 0, 1) := by decide +kernel
theorem dX0_beginsFresh_13 : decode cX0_beginsFresh 13 = .ok (.istore_n 2, 1) := by decide +kernel
theorem dX0_beginsFresh_14 : decode cX0_beginsFresh 14 = .ok (.iload_n 2, 1) := by decide +kernel
theorem dX0_beginsFresh_15 : decode cX0_beginsFresh 15 = .ok (.sipush 150, 3) := by decide +kernel
theorem dX0_beginsFresh_18 : decode cX0_beginsFresh 18 = .ok (.if_icmp .ge 94, 3) := by decide +kernel
theorem dX0_beginsFresh_21 : decode cX0_beginsFresh 21 = .ok (.iload_n 2, 1) := by decide +kernel
theorem dX0_beginsFresh_22 : decode cX0_beginsFresh 22 = .ok (.bipush 6, 2) := by decide +kernel
theorem dX0_beginsFresh_24 : decode cX0_beginsFresh 24 = .ok (.irem, 1) := by decide +kernel
theorem dX0_beginsFresh_25 : decode cX0_beginsFresh 25 = .ok (.ifCond .eq 81, 3) := by decide +kernel
theorem dX0_beginsFresh_28 : decode cX0_beginsFresh 28 = .ok (.aload_n 0, 1) := by decide +kernel
theorem dX0_beginsFresh_29 : decode cX0_beginsFresh 29 = .ok (.getfield 9, 3) := by decide +kernel
theorem dX0_beginsFresh_32 : decode cX0_beginsFresh 32 = .ok (.iload_n 1, 1) := by decide +kernel
theorem dX0_beginsFresh_33 : decode cX0_beginsFresh 33 = .ok (.sipush 150, 3) := by decide +kernel
theorem dX0_beginsFresh_36 : decode cX0_beginsFresh 36 = .ok (.imul, 1) := by decide +kernel
theorem dX0_beginsFresh_37 : decode cX0_beginsFresh 37 = .ok (.iload_n 2, 1) := by decide +kernel
theorem dX0_beginsFresh_38 : decode cX0_beginsFresh 38 = .ok (.iadd, 1) := by decide +kernel
theorem dX0_beginsFresh_39 : decode cX0_beginsFresh 39 = .ok (.iaload, 1) := by decide +kernel
theorem dX0_beginsFresh_40 : decode cX0_beginsFresh 40 = .ok (.istore_n 3, 1) := by decide +kernel
theorem dX0_beginsFresh_41 : decode cX0_beginsFresh 41 = .ok (.aload_n 0, 1) := by decide +kernel
theorem dX0_beginsFresh_42 : decode cX0_beginsFresh 42 = .ok (.getfield 32, 3) := by decide +kernel
theorem dX0_beginsFresh_45 : decode cX0_beginsFresh 45 = .ok (.ifCond .eq 37, 3) := by decide +kernel
theorem dX0_beginsFresh_48 : decode cX0_beginsFresh 48 = .ok (.iload_n 3, 1) := by decide +kernel
theorem dX0_beginsFresh_49 : decode cX0_beginsFresh 49 = .ok (.ifCond .ne 7, 3) := by decide +kernel
theorem dX0_beginsFresh_52 : decode cX0_beginsFresh 52 = .ok (.iconst 1, 1) := by decide +kernel
theorem dX0_beginsFresh_53 : decode cX0_beginsFresh 53 = .ok (.goto 4, 3) := by decide +kernel
theorem dX0_beginsFresh_56 : decode cX0_beginsFresh 56 = .ok (.iconst 0, 1) := by decide +kernel
theorem dX0_beginsFresh_57 : decode cX0_beginsFresh 57 = .ok (.aload_n 0, 1) := by decide +kernel
theorem dX0_beginsFresh_58 : decode cX0_beginsFresh 58 = .ok (.getfield 25, 3) := by decide +kernel
theorem dX0_beginsFresh_61 : decode cX0_beginsFresh 61 = .ok (.iload_n 2, 1) := by decide +kernel
theorem dX0_beginsFresh_62 : decode cX0_beginsFresh 62 = .ok (.iaload, 1) := by decide +kernel
theorem dX0_beginsFresh_63 : decode cX0_beginsFresh 63 = .ok (.ifCond .ne 7, 3) := by decide +kernel
theorem dX0_beginsFresh_66 : decode cX0_beginsFresh 66 = .ok (.iconst 1, 1) := by decide +kernel
theorem dX0_beginsFresh_67 : decode cX0_beginsFresh 67 = .ok (.goto 4, 3) := by decide +kernel
theorem dX0_beginsFresh_70 : decode cX0_beginsFresh 70 = .ok (.iconst 0, 1) := by decide +kernel
theorem dX0_beginsFresh_71 : decode cX0_beginsFresh 71 = .ok (.if_icmp .ne 7, 3) := by decide +kernel
theorem dX0_beginsFresh_74 : decode cX0_beginsFresh 74 = .ok (.iconst 1, 1) := by decide +kernel
theorem dX0_beginsFresh_75 : decode cX0_beginsFresh 75 = .ok (.goto 22, 3) := by decide +kernel
theorem dX0_beginsFresh_78 : decode cX0_beginsFresh 78 = .ok (.iconst 0, 1) := by decide +kernel
theorem dX0_beginsFresh_79 : decode cX0_beginsFresh 79 = .ok (.goto 18, 3) := by decide +kernel
theorem dX0_beginsFresh_82 : decode cX0_beginsFresh 82 = .ok (.iload_n 3, 1) := by decide +kernel
theorem dX0_beginsFresh_83 : decode cX0_beginsFresh 83 = .ok (.aload_n 0, 1) := by decide +kernel
theorem dX0_beginsFresh_84 : decode cX0_beginsFresh 84 = .ok (.getfield 25, 3) := by decide +kernel
theorem dX0_beginsFresh_87 : decode cX0_beginsFresh 87 = .ok (.iload_n 2, 1) := by decide +kernel
theorem dX0_beginsFresh_88 : decode cX0_beginsFresh 88 = .ok (.iaload, 1) := by decide +kernel
theorem dX0_beginsFresh_89 : decode cX0_beginsFresh 89 = .ok (.if_icmp .ne 7, 3) := by decide +kernel
theorem dX0_beginsFresh_92 : decode cX0_beginsFresh 92 = .ok (.iconst 1, 1) := by decide +kernel
theorem dX0_beginsFresh_93 : decode cX0_beginsFresh 93 = .ok (.goto 4, 3) := by decide +kernel
theorem dX0_beginsFresh_96 : decode cX0_beginsFresh 96 = .ok (.iconst 0, 1) := by decide +kernel
theorem dX0_beginsFresh_97 : decode cX0_beginsFresh 97 = .ok (.istore 4, 2) := by decide +kernel
theorem dX0_beginsFresh_99 : decode cX0_beginsFresh 99 = .ok (.iload 4, 2) := by decide +kernel
theorem dX0_beginsFresh_101 : decode cX0_beginsFresh 101 = .ok (.ifCond .ne 5, 3) := by decide +kernel
theorem dX0_beginsFresh_104 : decode cX0_beginsFresh 104 = .ok (.iconst 0, 1) := by decide +kernel
theorem dX0_beginsFresh_105 : decode cX0_beginsFresh 105 = .ok (.ireturn, 1) := by decide +kernel
theorem dX0_beginsFresh_106 : decode cX0_beginsFresh 106 = .ok (.iinc 2 1, 3) := by decide +kernel
theorem dX0_beginsFresh_109 : decode cX0_beginsFresh 109 = .ok (.goto (-95), 3) := by decide +kernel
theorem dX0_beginsFresh_112 : decode cX0_beginsFresh 112 = .ok (.iconst 1, 1) := by decide +kernel
theorem dX0_beginsFresh_113 : decode cX0_beginsFresh 113 = .ok (.ireturn, 1) := by decide +kernel
theorem dX0_addState_0 : decode cX0_addState 0 = .ok (.aload_n 0, 1) := by decide +kernel
theorem dX0_addState_1 : decode cX0_addState 1 = .ok (.getfield 42, 3) := by decide +kernel
theorem dX0_addState_4 : decode cX0_addState 4 = .ok (.ifCond .lt 12, 3) := by decide +kernel
theorem dX0_addState_7 : decode cX0_addState 7 = .ok (.aload_n 0, 1) := by decide +kernel
theorem dX0_addState_8 : decode cX0_addState 8 = .ok (.getfield 42, 3) := by decide +kernel
theorem dX0_addState_11 : decode cX0_addState 11 = .ok (.bipush 80, 2) := by decide +kernel
theorem dX0_addState_13 : decode cX0_addState 13 = .ok (.if_icmp .lt 10, 3) := by decide +kernel
theorem dX0_addState_16 : decode cX0_addState 16 = .ok (.aload_n 0, 1) := by decide +kernel
theorem dX0_addState_17 : decode cX0_addState 17 = .ok (.iconst 1, 1) := by decide +kernel
theorem dX0_addState_18 : decode cX0_addState 18 = .ok (.putfield 39, 3) := by decide +kernel
theorem dX0_addState_21 : decode cX0_addState 21 = .ok (.iconst (-1), 1) := by decide +kernel
theorem dX0_addState_22 : decode cX0_addState 22 = .ok (.ireturn, 1) := by decide +kernel
theorem dX0_addState_23 : decode cX0_addState 23 = .ok (.aload_n 0, 1) := by decide +kernel
theorem dX0_addState_24 : decode cX0_addState 24 = .ok (.getfield 42, 3) := by decide +kernel
theorem dX0_addState_27 : decode cX0_addState 27 = .ok (.istore_n 2, 1) := by decide +kernel
theorem dX0_addState_28 : decode cX0_addState 28 = .ok (.aload_n 0, 1) := by decide +kernel
theorem dX0_addState_29 : decode cX0_addState 29 = .ok (.dup, 1) := by decide +kernel
theorem dX0_addState_30 : decode cX0_addState 30 = .ok (.getfield 42, 3) := by decide +kernel
theorem dX0_addState_33 : decode cX0_addState 33 = .ok (.iconst 1, 1) := by decide +kernel
theorem dX0_addState_34 : decode cX0_addState 34 = .ok (.iadd, 1) := by decide +kernel
theorem dX0_addState_35 : decode cX0_addState 35 = .ok (.putfield 42, 3) := by decide +kernel
theorem dX0_addState_38 : decode cX0_addState 38 = .ok (.iconst 0, 1) := by decide +kernel
theorem dX0_addState_39 : decode cX0_addState 39 = .ok (.istore_n 3, 1) := by decide +kernel
theorem dX0_addState_40 : decode cX0_addState 40 = .ok (.iload_n 3, 1) := by decide +kernel
theorem dX0_addState_41 : decode cX0_addState 41 = .ok (.sipush 150, 3) := by decide +kernel
theorem dX0_addState_44 : decode cX0_addState 44 = .ok (.if_icmp .ge 27, 3) := by decide +kernel
theorem dX0_addState_47 : decode cX0_addState 47 = .ok (.aload_n 0, 1) := by decide +kernel
theorem dX0_addState_48 : decode cX0_addState 48 = .ok (.getfield 9, 3) := by decide +kernel
theorem dX0_addState_51 : decode cX0_addState 51 = .ok (.iload_n 2, 1) := by decide +kernel
theorem dX0_addState_52 : decode cX0_addState 52 = .ok (.sipush 150, 3) := by decide +kernel
theorem dX0_addState_55 : decode cX0_addState 55 = .ok (.imul, 1) := by decide +kernel
theorem dX0_addState_56 : decode cX0_addState 56 = .ok (.iload_n 3, 1) := by decide +kernel
theorem dX0_addState_57 : decode cX0_addState 57 = .ok (.iadd, 1) := by decide +kernel
theorem dX0_addState_58 : decode cX0_addState 58 = .ok (.aload_n 0, 1) := by decide +kernel
theorem dX0_addState_59 : decode cX0_addState 59 = .ok (.getfield 25, 3) := by decide +kernel
theorem dX0_addState_62 : decode cX0_addState 62 = .ok (.iload_n 3, 1) := by decide +kernel
theorem dX0_addState_63 : decode cX0_addState 63 = .ok (.iaload, 1) := by decide +kernel
theorem dX0_addState_64 : decode cX0_addState 64 = .ok (.iastore, 1) := by decide +kernel
theorem dX0_addState_65 : decode cX0_addState 65 = .ok (.iinc 3 1, 3) := by decide +kernel
theorem dX0_addState_68 : decode cX0_addState 68 = .ok (.goto (-28), 3) := by decide +kernel
theorem dX0_addState_71 : decode cX0_addState 71 = .ok (.iconst 0, 1) := by decide +kernel
theorem dX0_addState_72 : decode cX0_addState 72 = .ok (.istore_n 3, 1) := by decide +kernel
theorem dX0_addState_73 : decode cX0_addState 73 = .ok (.iload_n 3, 1) := by decide +kernel
theorem dX0_addState_74 : decode cX0_addState 74 = .ok (.bipush 32, 2) := by decide +kernel
theorem dX0_addState_76 : decode cX0_addState 76 = .ok (.if_icmp .ge 21, 3) := by decide +kernel
theorem dX0_addState_79 : decode cX0_addState 79 = .ok (.aload_n 0, 1) := by decide +kernel
theorem dX0_addState_80 : decode cX0_addState 80 = .ok (.getfield 15, 3) := by decide +kernel
theorem dX0_addState_83 : decode cX0_addState 83 = .ok (.iload_n 2, 1) := by decide +kernel
theorem dX0_addState_84 : decode cX0_addState 84 = .ok (.bipush 32, 2) := by decide +kernel
theorem dX0_addState_86 : decode cX0_addState 86 = .ok (.imul, 1) := by decide +kernel
theorem dX0_addState_87 : decode cX0_addState 87 = .ok (.iload_n 3, 1) := by decide +kernel
theorem dX0_addState_88 : decode cX0_addState 88 = .ok (.iadd, 1) := by decide +kernel
theorem dX0_addState_89 : decode cX0_addState 89 = .ok (.iconst (-1), 1) := by decide +kernel
theorem dX0_addState_90 : decode cX0_addState 90 = .ok (.iastore, 1) := by decide +kernel
theorem dX0_addState_91 : decode cX0_addState 91 = .ok (.iinc 3 1, 3) := by decide +kernel
theorem dX0_addState_94 : decode cX0_addState 94 = .ok (.goto (-21), 3) := by decide +kernel
theorem dX0_addState_97 : decode cX0_addState 97 = .ok (.aload_n 0, 1) := by decide +kernel
theorem dX0_addState_98 : decode cX0_addState 98 = .ok (.getfield 18, 3) := by decide +kernel
theorem dX0_addState_101 : decode cX0_addState 101 = .ok (.iload_n 2, 1) := by decide +kernel
theorem dX0_addState_102 : decode cX0_addState 102 = .ok (.iload_n 1, 1) := by decide +kernel
theorem dX0_addState_103 : decode cX0_addState 103 = .ok (.iastore, 1) := by decide +kernel
theorem dX0_addState_104 : decode cX0_addState 104 = .ok (.aload_n 0, 1) := by decide +kernel
theorem dX0_addState_105 : decode cX0_addState 105 = .ok (.getfield 21, 3) := by decide +kernel
theorem dX0_addState_108 : decode cX0_addState 108 = .ok (.iload_n 2, 1) := by decide +kernel
theorem dX0_addState_109 : decode cX0_addState 109 = .ok (.iconst 1, 1) := by decide +kernel
theorem dX0_addState_110 : decode cX0_addState 110 = .ok (.bastore, 1) := by decide +kernel
theorem dX0_addState_111 : decode cX0_addState 111 = .ok (.iload_n 2, 1) := by decide +kernel
theorem dX0_addState_112 : decode cX0_addState 112 = .ok (.ireturn, 1) := by decide +kernel
theorem dX0_mergeInto_0 : decode cX0_mergeInto 0 = .ok (.iconst 0, 1) := by decide +kernel
theorem dX0_mergeInto_1 : decode cX0_mergeInto 1 = .ok (.istore_n 2, 1) := by decide +kernel
theorem dX0_mergeInto_2 : decode cX0_mergeInto 2 = .ok (.iconst 0, 1) := by decide +kernel
theorem dX0_mergeInto_3 : decode cX0_mergeInto 3 = .ok (.istore_n 3, 1) := by decide +kernel
theorem dX0_mergeInto_4 : decode cX0_mergeInto 4 = .ok (.iload_n 3, 1) := by decide +kernel
theorem dX0_mergeInto_5 : decode cX0_mergeInto 5 = .ok (.sipush 150, 3) := by decide +kernel
theorem dX0_mergeInto_8 : decode cX0_mergeInto 8 = .ok (.if_icmp .ge 24, 3) := by decide +kernel
theorem dX0_mergeInto_11 : decode cX0_mergeInto 11 = .ok (.iload_n 2, 1) := by decide +kernel
theorem dX0_mergeInto_12 : decode cX0_mergeInto 12 = .ok (.aload_n 0, 1) := by decide +kernel
theorem dX0_mergeInto_13 : decode cX0_mergeInto 13 = .ok (.iload_n 1, 1) := by decide +kernel
theorem dX0_mergeInto_14 : decode cX0_mergeInto 14 = .ok (.iload_n 3, 1) := by decide +kernel
theorem dX0_mergeInto_15 : decode cX0_mergeInto 15 = .ok (.aload_n 0, 1) := by decide +kernel
theorem dX0_mergeInto_16 : decode cX0_mergeInto 16 = .ok (.getfield 25, 3) := by decide +kernel
theorem dX0_mergeInto_19 : decode cX0_mergeInto 19 = .ok (.iload_n 3, 1) := by decide +kernel
theorem dX0_mergeInto_20 : decode cX0_mergeInto 20 = .ok (.iaload, 1) := by decide +kernel
theorem dX0_mergeInto_21 : decode cX0_mergeInto 21 = .ok (.invokevirtual 100, 3) := by decide +kernel
theorem dX0_mergeInto_24 : decode cX0_mergeInto 24 = .ok (.ior, 1) := by decide +kernel
theorem dX0_mergeInto_25 : decode cX0_mergeInto 25 = .ok (.istore_n 2, 1) := by decide +kernel
theorem dX0_mergeInto_26 : decode cX0_mergeInto 26 = .ok (.iinc 3 1, 3) := by decide +kernel
theorem dX0_mergeInto_29 : decode cX0_mergeInto 29 = .ok (.goto (-25), 3) := by decide +kernel
theorem dX0_mergeInto_32 : decode cX0_mergeInto 32 = .ok (.iload_n 2, 1) := by decide +kernel
theorem dX0_mergeInto_33 : decode cX0_mergeInto 33 = .ok (.ifCond .eq 20, 3) := by decide +kernel
theorem dX0_mergeInto_36 : decode cX0_mergeInto 36 = .ok (.iload_n 1, 1) := by decide +kernel
theorem dX0_mergeInto_37 : decode cX0_mergeInto 37 = .ok (.ifCond .lt 16, 3) := by decide +kernel
theorem dX0_mergeInto_40 : decode cX0_mergeInto 40 = .ok (.iload_n 1, 1) := by decide +kernel
theorem dX0_mergeInto_41 : decode cX0_mergeInto 41 = .ok (.bipush 80, 2) := by decide +kernel
theorem dX0_mergeInto_43 : decode cX0_mergeInto 43 = .ok (.if_icmp .ge 10, 3) := by decide +kernel
theorem dX0_mergeInto_46 : decode cX0_mergeInto 46 = .ok (.aload_n 0, 1) := by decide +kernel
theorem dX0_mergeInto_47 : decode cX0_mergeInto 47 = .ok (.getfield 21, 3) := by decide +kernel
theorem dX0_mergeInto_50 : decode cX0_mergeInto 50 = .ok (.iload_n 1, 1) := by decide +kernel
theorem dX0_mergeInto_51 : decode cX0_mergeInto 51 = .ok (.iconst 1, 1) := by decide +kernel
theorem dX0_mergeInto_52 : decode cX0_mergeInto 52 = .ok (.bastore, 1) := by decide +kernel
theorem dX0_mergeInto_53 : decode cX0_mergeInto 53 = .ok (.return_, 1) := by decide +kernel
theorem dX1_init_0 : decode cX1_init 0 = .ok (.aload_n 0, 1) := by decide +kernel
theorem dX1_init_1 : decode cX1_init 1 = .ok (.invokespecial 3, 3) := by decide +kernel
theorem dX1_init_4 : decode cX1_init 4 = .ok (.aload_n 0, 1) := by decide +kernel
theorem dX1_init_5 : decode cX1_init 5 = .ok (.bipush 16, 2) := by decide +kernel
theorem dX1_init_7 : decode cX1_init 7 = .ok (.newarray .int, 2) := by decide +kernel
theorem dX1_init_9 : decode cX1_init 9 = .ok (.putfield 9, 3) := by decide +kernel
theorem dX1_init_12 : decode cX1_init 12 = .ok (.aload_n 0, 1) := by decide +kernel
theorem dX1_init_13 : decode cX1_init 13 = .ok (.aload_n 1, 1) := by decide +kernel
theorem dX1_init_14 : decode cX1_init 14 = .ok (.putfield 15, 3) := by decide +kernel
theorem dX1_init_17 : decode cX1_init 17 = .ok (.aload_n 0, 1) := by decide +kernel
theorem dX1_init_18 : decode cX1_init 18 = .ok (.aload_n 2, 1) := by decide +kernel
theorem dX1_init_19 : decode cX1_init 19 = .ok (.putfield 19, 3) := by decide +kernel
theorem dX1_init_22 : decode cX1_init 22 = .ok (.aload_n 0, 1) := by decide +kernel
theorem dX1_init_23 : decode cX1_init 23 = .ok (.aload_n 3, 1) := by decide +kernel
theorem dX1_init_24 : decode cX1_init 24 = .ok (.putfield 22, 3) := by decide +kernel
theorem dX1_init_27 : decode cX1_init 27 = .ok (.aload_n 0, 1) := by decide +kernel
theorem dX1_init_28 : decode cX1_init 28 = .ok (.aload 4, 2) := by decide +kernel
theorem dX1_init_30 : decode cX1_init 30 = .ok (.putfield 25, 3) := by decide +kernel
theorem dX1_init_33 : decode cX1_init 33 = .ok (.return_, 1) := by decide +kernel
theorem dX1_facts_0 : decode cX1_facts 0 = .ok (.aload_n 0, 1) := by decide +kernel
theorem dX1_facts_1 : decode cX1_facts 1 = .ok (.getfield 15, 3) := by decide +kernel
theorem dX1_facts_4 : decode cX1_facts 4 = .ok (.areturn, 1) := by decide +kernel
theorem dX1_look_0 : decode cX1_look 0 = .ok (.iload_n 1, 1) := by decide +kernel
theorem dX1_look_1 : decode cX1_look 1 = .ok (.ifCond .lt 21, 3) := by decide +kernel
theorem dX1_look_4 : decode cX1_look 4 = .ok (.iload_n 1, 1) := by decide +kernel
theorem dX1_look_5 : decode cX1_look 5 = .ok (.aload_n 0, 1) := by decide +kernel
theorem dX1_look_6 : decode cX1_look 6 = .ok (.getfield 19, 3) := by decide +kernel
theorem dX1_look_9 : decode cX1_look 9 = .ok (.arraylength, 1) := by decide +kernel
theorem dX1_look_10 : decode cX1_look 10 = .ok (.if_icmp .ge 12, 3) := by decide +kernel
theorem dX1_look_13 : decode cX1_look 13 = .ok (.aload_n 0, 1) := by decide +kernel
theorem dX1_look_14 : decode cX1_look 14 = .ok (.getfield 19, 3) := by decide +kernel
theorem dX1_look_17 : decode cX1_look 17 = .ok (.iload_n 1, 1) := by decide +kernel
theorem dX1_look_18 : decode cX1_look 18 = .ok (.iaload, 1) := by decide +kernel
theorem dX1_look_19 : decode cX1_look 19 = .ok (.goto 5, 3) := by decide +kernel
theorem dX1_look_22 : decode cX1_look 22 = .ok (.bipush 8, 2) := by decide +kernel
theorem dX1_look_24 : decode cX1_look 24 = .ok (.ireturn, 1) := by decide +kernel
theorem dX1_measure_0 : decode cX1_measure 0 = .ok (.iload_n 1, 1) := by decide +kernel
theorem dX1_measure_1 : decode cX1_measure 1 = .ok (.bipush 12, 2) := by decide +kernel
theorem dX1_measure_3 : decode cX1_measure 3 = .ok (.invokestatic 28, 3) := by decide +kernel
theorem dX1_measure_6 : decode cX1_measure 6 = .ok (.istore_n 2, 1) := by decide +kernel
theorem dX1_measure_7 : decode cX1_measure 7 = .ok (.iconst 0, 1) := by decide +kernel
theorem dX1_measure_8 : decode cX1_measure 8 = .ok (.istore_n 3, 1) := by decide +kernel
theorem dX1_measure_9 : decode cX1_measure 9 = .ok (.iload_n 3, 1) := by decide +kernel
theorem dX1_measure_10 : decode cX1_measure 10 = .ok (.iload_n 2, 1) := by decide +kernel
theorem dX1_measure_11 : decode cX1_measure 11 = .ok (.if_icmp .gt 36, 3) := by decide +kernel
theorem dX1_measure_14 : decode cX1_measure 14 = .ok (.iconst 0, 1) := by decide +kernel
theorem dX1_measure_15 : decode cX1_measure 15 = .ok (.istore 4, 2) := by decide +kernel
theorem dX1_measure_17 : decode cX1_measure 17 = .ok (.iload 4, 2) := by decide +kernel
theorem dX1_measure_19 : decode cX1_measure 19 = .ok (.iload_n 3, 1) := by decide +kernel
theorem dX1_measure_20 : decode cX1_measure 20 = .ok (.iadd, 1) := by decide +kernel
theorem dX1_measure_21 : decode cX1_measure 21 = .ok (.iload_n 2, 1) := by decide +kernel
theorem dX1_measure_22 : decode cX1_measure 22 = .ok (.if_icmp .gt 19, 3) := by decide +kernel
theorem dX1_measure_25 : decode cX1_measure 25 = .ok (.aload_n 0, 1) := by decide +kernel
theorem dX1_measure_26 : decode cX1_measure 26 = .ok (.iload 4, 2) := by decide +kernel
theorem dX1_measure_28 : decode cX1_measure 28 = .ok (.iload 4, 2) := by decide +kernel
theorem dX1_measure_30 : decode cX1_measure 30 = .ok (.iload_n 3, 1) := by decide +kernel
theorem dX1_measure_31 : decode cX1_measure 31 = .ok (.iadd, 1) := by decide +kernel
theorem dX1_measure_32 : decode cX1_measure 32 = .ok (.invokevirtual 34, 3) := by decide +kernel
theorem dX1_measure_35 : decode cX1_measure 35 = .ok (.iinc 4 1, 3) := by decide +kernel
theorem dX1_measure_38 : decode cX1_measure 38 = .ok (.goto (-21), 3) := by decide +kernel
theorem dX1_measure_41 : decode cX1_measure 41 = .ok (.iinc 3 1, 3) := by decide +kernel
theorem dX1_measure_44 : decode cX1_measure 44 = .ok (.goto (-35), 3) := by decide +kernel
theorem dX1_measure_47 : decode cX1_measure 47 = .ok (.aload_n 0, 1) := by decide +kernel
theorem dX1_measure_48 : decode cX1_measure 48 = .ok (.aload_n 0, 1) := by decide +kernel
theorem dX1_measure_49 : decode cX1_measure 49 = .ok (.getfield 15, 3) := by decide +kernel
theorem dX1_measure_52 : decode cX1_measure 52 = .ok (.invokevirtual 38, 3) := by decide +kernel
theorem dX1_measure_55 : decode cX1_measure 55 = .ok (.invokevirtual 44, 3) := by decide +kernel
theorem dX1_measure_58 : decode cX1_measure 58 = .ok (.iconst 0, 1) := by decide +kernel
theorem dX1_measure_59 : decode cX1_measure 59 = .ok (.iload_n 2, 1) := by decide +kernel
theorem dX1_measure_60 : decode cX1_measure 60 = .ok (.invokevirtual 50, 3) := by decide +kernel
theorem dX1_measure_63 : decode cX1_measure 63 = .ok (.ireturn, 1) := by decide +kernel
theorem dX1_fill_0 : decode cX1_fill 0 = .ok (.iconst 0, 1) := by decide +kernel
theorem dX1_fill_1 : decode cX1_fill 1 = .ok (.istore_n 3, 1) := by decide +kernel
theorem dX1_fill_2 : decode cX1_fill 2 = .ok (.iload_n 3, 1) := by decide +kernel
theorem dX1_fill_3 : decode cX1_fill 3 = .ok (.bipush 16, 2) := by decide +kernel
theorem dX1_fill_5 : decode cX1_fill 5 = .ok (.if_icmp .ge 20, 3) := by decide +kernel
theorem dX1_fill_8 : decode cX1_fill 8 = .ok (.aload_n 0, 1) := by decide +kernel
theorem dX1_fill_9 : decode cX1_fill 9 = .ok (.iload_n 3, 1) := by decide +kernel
theorem dX1_fill_10 : decode cX1_fill 10 = .ok (.iload_n 1, 1) := by decide +kernel
theorem dX1_fill_11 : decode cX1_fill 11 = .ok (.iload_n 2, 1) := by decide +kernel
theorem dX1_fill_12 : decode cX1_fill 12 = .ok (.aload_n 0, 1) := by decide +kernel
theorem dX1_fill_13 : decode cX1_fill 13 = .ok (.invokevirtual 54, 3) := by decide +kernel
theorem dX1_fill_16 : decode cX1_fill 16 = .ok (.invokevirtual 57, 3) := by decide +kernel
theorem dX1_fill_19 : decode cX1_fill 19 = .ok (.iinc 3 1, 3) := by decide +kernel
theorem dX1_fill_22 : decode cX1_fill 22 = .ok (.goto (-20), 3) := by decide +kernel
theorem dX1_fill_25 : decode cX1_fill 25 = .ok (.iconst 1, 1) := by decide +kernel
theorem dX1_fill_26 : decode cX1_fill 26 = .ok (.istore_n 3, 1) := by decide +kernel
theorem dX1_fill_27 : decode cX1_fill 27 = .ok (.iconst 0, 1) := by decide +kernel
theorem dX1_fill_28 : decode cX1_fill 28 = .ok (.istore 4, 2) := by decide +kernel
theorem dX1_fill_30 : decode cX1_fill 30 = .ok (.iload 4, 2) := by decide +kernel
theorem dX1_fill_32 : decode cX1_fill 32 = .ok (.ldc 61, 2) := by decide +kernel
theorem dX1_fill_34 : decode cX1_fill 34 = .ok (.if_icmp .ge 20, 3) := by decide +kernel
theorem dX1_fill_37 : decode cX1_fill 37 = .ok (.iload_n 3, 1) := by decide +kernel
theorem dX1_fill_38 : decode cX1_fill 38 = .ok (.ifCond .eq 16, 3) := by decide +kernel
theorem dX1_fill_41 : decode cX1_fill 41 = .ok (.aload_n 0, 1) := by decide +kernel
theorem dX1_fill_42 : decode cX1_fill 42 = .ok (.iload_n 1, 1) := by decide +kernel
theorem dX1_fill_43 : decode cX1_fill 43 = .ok (.iload_n 2, 1) := by decide +kernel
theorem dX1_fill_44 : decode cX1_fill 44 = .ok (.invokevirtual 62, 3) := by decide +kernel
theorem dX1_fill_47 : decode cX1_fill 47 = .ok (.istore_n 3, 1) := by decide +kernel
theorem dX1_fill_48 : decode cX1_fill 48 = .ok (.iinc 4 1, 3) := by decide +kernel
theorem dX1_fill_51 : decode cX1_fill 51 = .ok (.goto (-21), 3) := by decide +kernel
theorem dX1_fill_54 : decode cX1_fill 54 = .ok (.return_, 1) := by decide +kernel
theorem dX1_refine_0 : decode cX1_refine 0 = .ok (.aload_n 0, 1) := by decide +kernel
theorem dX1_refine_1 : decode cX1_refine 1 = .ok (.getfield 9, 3) := by decide +kernel
theorem dX1_refine_4 : decode cX1_refine 4 = .ok (.aload_n 0, 1) := by decide +kernel
theorem dX1_refine_5 : decode cX1_refine 5 = .ok (.invokevirtual 54, 3) := by decide +kernel
theorem dX1_refine_8 : decode cX1_refine 8 = .ok (.invokestatic 66, 3) := by decide +kernel
theorem dX1_refine_11 : decode cX1_refine 11 = .ok (.iconst 0, 1) := by decide +kernel
theorem dX1_refine_12 : decode cX1_refine 12 = .ok (.istore_n 3, 1) := by decide +kernel
theorem dX1_refine_13 : decode cX1_refine 13 = .ok (.iload_n 3, 1) := by decide +kernel
theorem dX1_refine_14 : decode cX1_refine 14 = .ok (.aload_n 0, 1) := by decide +kernel
theorem dX1_refine_15 : decode cX1_refine 15 = .ok (.getfield 15, 3) := by decide +kernel
theorem dX1_refine_18 : decode cX1_refine 18 = .ok (.invokevirtual 38, 3) := by decide +kernel
theorem dX1_refine_21 : decode cX1_refine 21 = .ok (.invokevirtual 71, 3) := by decide +kernel
theorem dX1_refine_24 : decode cX1_refine 24 = .ok (.if_icmp .ge 63, 3) := by decide +kernel
theorem dX1_refine_27 : decode cX1_refine 27 = .ok (.aload_n 0, 1) := by decide +kernel
theorem dX1_refine_28 : decode cX1_refine 28 = .ok (.getfield 15, 3) := by decide +kernel
theorem dX1_refine_31 : decode cX1_refine 31 = .ok (.invokevirtual 38, 3) := by decide +kernel
theorem dX1_refine_34 : decode cX1_refine 34 = .ok (.iload_n 3, 1) := by decide +kernel
theorem dX1_refine_35 : decode cX1_refine 35 = .ok (.invokevirtual 74, 3) := by decide +kernel
theorem dX1_refine_38 : decode cX1_refine 38 = .ok (.istore 4, 2) := by decide +kernel
theorem dX1_refine_40 : decode cX1_refine 40 = .ok (.aload_n 0, 1) := by decide +kernel
theorem dX1_refine_41 : decode cX1_refine 41 = .ok (.iload_n 3, 1) := by decide +kernel
theorem dX1_refine_42 : decode cX1_refine 42 = .ok (.iload_n 1, 1) := by decide +kernel
theorem dX1_refine_43 : decode cX1_refine 43 = .ok (.iload_n 2, 1) := by decide +kernel
theorem dX1_refine_44 : decode cX1_refine 44 = .ok (.invokevirtual 78, 3) := by decide +kernel
theorem dX1_refine_47 : decode cX1_refine 47 = .ok (.istore 5, 2) := by decide +kernel
theorem dX1_refine_49 : decode cX1_refine 49 = .ok (.iload 4, 2) := by decide +kernel
theorem dX1_refine_51 : decode cX1_refine 51 = .ok (.ifCond .lt 30, 3) := by decide +kernel
theorem dX1_refine_54 : decode cX1_refine 54 = .ok (.iload 4, 2) := by decide +kernel
theorem dX1_refine_56 : decode cX1_refine 56 = .ok (.bipush 16, 2) := by decide +kernel
theorem dX1_refine_58 : decode cX1_refine 58 = .ok (.if_icmp .ge 23, 3) := by decide +kernel
theorem dX1_refine_61 : decode cX1_refine 61 = .ok (.aload_n 0, 1) := by decide +kernel
theorem dX1_refine_62 : decode cX1_refine 62 = .ok (.getfield 9, 3) := by decide +kernel
theorem dX1_refine_65 : decode cX1_refine 65 = .ok (.iload 4, 2) := by decide +kernel
theorem dX1_refine_67 : decode cX1_refine 67 = .ok (.aload_n 0, 1) := by decide +kernel
theorem dX1_refine_68 : decode cX1_refine 68 = .ok (.aload_n 0, 1) := by decide +kernel
theorem dX1_refine_69 : decode cX1_refine 69 = .ok (.getfield 9, 3) := by decide +kernel
theorem dX1_refine_72 : decode cX1_refine 72 = .ok (.iload 4, 2) := by decide +kernel
theorem dX1_refine_74 : decode cX1_refine 74 = .ok (.iaload, 1) := by decide +kernel
theorem dX1_refine_75 : decode cX1_refine 75 = .ok (.iload 5, 2) := by decide +kernel
theorem dX1_refine_77 : decode cX1_refine 77 = .ok (.invokevirtual 81, 3) := by decide +kernel
theorem dX1_refine_80 : decode cX1_refine 80 = .ok (.iastore, 1) := by decide +kernel
theorem dX1_refine_81 : decode cX1_refine 81 = .ok (.iinc 3 1, 3) := by decide +kernel
theorem dX1_refine_84 : decode cX1_refine 84 = .ok (.goto (-71), 3) := by decide +kernel
theorem dX1_refine_87 : decode cX1_refine 87 = .ok (.iconst 0, 1) := by decide +kernel
theorem dX1_refine_88 : decode cX1_refine 88 = .ok (.istore_n 3, 1) := by decide +kernel
theorem dX1_refine_89 : decode cX1_refine 89 = .ok (.iconst 0, 1) := by decide +kernel
theorem dX1_refine_90 : decode cX1_refine 90 = .ok (.istore 4, 2) := by decide +kernel
theorem dX1_refine_92 : decode cX1_refine 92 = .ok (.iload 4, 2) := by decide +kernel
theorem dX1_refine_94 : decode cX1_refine 94 = .ok (.bipush 16, 2) := by decide +kernel
theorem dX1_refine_96 : decode cX1_refine 96 = .ok (.if_icmp .ge 49, 3) := by decide +kernel
theorem dX1_refine_99 : decode cX1_refine 99 = .ok (.aload_n 0, 1) := by decide +kernel
theorem dX1_refine_100 : decode cX1_refine 100 = .ok (.iload 4, 2) := by decide +kernel
theorem dX1_refine_102 : decode cX1_refine 102 = .ok (.aload_n 0, 1) := by decide +kernel
theorem dX1_refine_103 : decode cX1_refine 103 = .ok (.getfield 9, 3) := by decide +kernel
theorem dX1_refine_106 : decode cX1_refine 106 = .ok (.iload 4, 2) := by decide +kernel
theorem dX1_refine_108 : decode cX1_refine 108 = .ok (.iaload, 1) := by decide +kernel
theorem dX1_refine_109 : decode cX1_refine 109 = .ok (.invokevirtual 84, 3) := by decide +kernel
theorem dX1_refine_112 : decode cX1_refine 112 = .ok (.istore 5, 2) := by decide +kernel
theorem dX1_refine_114 : decode cX1_refine 114 = .ok (.iload 5, 2) := by decide +kernel
theorem dX1_refine_116 : decode cX1_refine 116 = .ok (.aload_n 0, 1) := by decide +kernel
theorem dX1_refine_117 : decode cX1_refine 117 = .ok (.iload 4, 2) := by decide +kernel
theorem dX1_refine_119 : decode cX1_refine 119 = .ok (.iload_n 1, 1) := by decide +kernel
theorem dX1_refine_120 : decode cX1_refine 120 = .ok (.iload_n 2, 1) := by decide +kernel
theorem dX1_refine_121 : decode cX1_refine 121 = .ok (.invokevirtual 50, 3) := by decide +kernel
theorem dX1_refine_124 : decode cX1_refine 124 = .ok (.if_icmp .eq 15, 3) := by decide +kernel
theorem dX1_refine_127 : decode cX1_refine 127 = .ok (.aload_n 0, 1) := by decide +kernel
theorem dX1_refine_128 : decode cX1_refine 128 = .ok (.iload 4, 2) := by decide +kernel
theorem dX1_refine_130 : decode cX1_refine 130 = .ok (.iload_n 1, 1) := by decide +kernel
theorem dX1_refine_131 : decode cX1_refine 131 = .ok (.iload_n 2, 1) := by decide +kernel
theorem dX1_refine_132 : decode cX1_refine 132 = .ok (.iload 5, 2) := by decide +kernel
theorem dX1_refine_134 : decode cX1_refine 134 = .ok (.invokevirtual 57, 3) := by decide +kernel
theorem dX1_refine_137 : decode cX1_refine 137 = .ok (.iconst 1, 1) := by decide +kernel
theorem dX1_refine_138 : decode cX1_refine 138 = .ok (.istore_n 3, 1) := by decide +kernel
theorem dX1_refine_139 : decode cX1_refine 139 = .ok (.iinc 4 1, 3) := by decide +kernel
theorem dX1_refine_142 : decode cX1_refine 142 = .ok (.goto (-50), 3) := by decide +kernel
theorem dX1_refine_145 : decode cX1_refine 145 = .ok (.iload_n 3, 1) := by decide +kernel
theorem dX1_refine_146 : decode cX1_refine 146 = .ok (.ireturn, 1) := by decide +kernel
theorem dX1_ofProduction_0 : decode cX1_ofProduction 0 = .ok (.iload_n 1, 1) := by decide +kernel
theorem dX1_ofProduction_1 : decode cX1_ofProduction 1 = .ok (.bipush 6, 2) := by decide +kernel
theorem dX1_ofProduction_3 : decode cX1_ofProduction 3 = .ok (.imul, 1) := by decide +kernel
theorem dX1_ofProduction_4 : decode cX1_ofProduction 4 = .ok (.istore 4, 2) := by decide +kernel
theorem dX1_ofProduction_6 : decode cX1_ofProduction 6 = .ok (.aload_n 0, 1) := by decide +kernel
theorem dX1_ofProduction_7 : decode cX1_ofProduction 7 = .ok (.iload_n 2, 1) := by decide +kernel
theorem dX1_ofProduction_8 : decode cX1_ofProduction 8 = .ok (.iload_n 3, 1) := by decide +kernel
theorem dX1_ofProduction_9 : decode cX1_ofProduction 9 = .ok (.invokevirtual 87, 3) := by decide +kernel
theorem dX1_ofProduction_12 : decode cX1_ofProduction 12 = .ok (.istore 5, 2) := by decide +kernel
theorem dX1_ofProduction_14 : decode cX1_ofProduction 14 = .ok (.aload_n 0, 1) := by decide +kernel
theorem dX1_ofProduction_15 : decode cX1_ofProduction 15 = .ok (.iload 4, 2) := by decide +kernel
theorem dX1_ofProduction_17 : decode cX1_ofProduction 17 = .ok (.iload_n 2, 1) := by decide +kernel
theorem dX1_ofProduction_18 : decode cX1_ofProduction 18 = .ok (.iload_n 3, 1) := by decide +kernel
theorem dX1_ofProduction_19 : decode cX1_ofProduction 19 = .ok (.iload 5, 2) := by decide +kernel
theorem dX1_ofProduction_21 : decode cX1_ofProduction 21 = .ok (.invokevirtual 90, 3) := by decide +kernel
theorem dX1_ofProduction_24 : decode cX1_ofProduction 24 = .ok (.iconst 0, 1) := by decide +kernel
theorem dX1_ofProduction_25 : decode cX1_ofProduction 25 = .ok (.istore 6, 2) := by decide +kernel
theorem dX1_ofProduction_27 : decode cX1_ofProduction 27 = .ok (.iload 6, 2) := by decide +kernel
theorem dX1_ofProduction_29 : decode cX1_ofProduction 29 = .ok (.aload_n 0, 1) := by decide +kernel
theorem dX1_ofProduction_30 : decode cX1_ofProduction 30 = .ok (.getfield 15, 3) := by decide +kernel
theorem dX1_ofProduction_33 : decode cX1_ofProduction 33 = .ok (.invokevirtual 38, 3) := by decide +kernel
theorem dX1_ofProduction_36 : decode cX1_ofProduction 36 = .ok (.iload_n 1, 1) := by decide +kernel
theorem dX1_ofProduction_37 : decode cX1_ofProduction 37 = .ok (.invokevirtual 93, 3) := by decide +kernel
theorem dX1_ofProduction_40 : decode cX1_ofProduction 40 = .ok (.if_icmp .ge 128, 3) := by decide +kernel
theorem dX1_ofProduction_43 : decode cX1_ofProduction 43 = .ok (.aload_n 0, 1) := by decide +kernel
theorem dX1_ofProduction_44 : decode cX1_ofProduction 44 = .ok (.getfield 15, 3) := by decide +kernel
theorem dX1_ofProduction_47 : decode cX1_ofProduction 47 = .ok (.invokevirtual 38, 3) := by decide +kernel
theorem dX1_ofProduction_50 : decode cX1_ofProduction 50 = .ok (.iload_n 1, 1) := by decide +kernel
theorem dX1_ofProduction_51 : decode cX1_ofProduction 51 = .ok (.iload 6, 2) := by decide +kernel
theorem dX1_ofProduction_53 : decode cX1_ofProduction 53 = .ok (.invokevirtual 96, 3) := by decide +kernel
theorem dX1_ofProduction_56 : decode cX1_ofProduction 56 = .ok (.istore 7, 2) := by decide +kernel
theorem dX1_ofProduction_58 : decode cX1_ofProduction 58 = .ok (.aload_n 0, 1) := by decide +kernel
theorem dX1_ofProduction_59 : decode cX1_ofProduction 59 = .ok (.invokevirtual 54, 3) := by decide +kernel
theorem dX1_ofProduction_62 : decode cX1_ofProduction 62 = .ok (.istore 5, 2) := by decide +kernel
theorem dX1_ofProduction_64 : decode cX1_ofProduction 64 = .ok (.iload_n 2, 1) := by decide +kernel
theorem dX1_ofProduction_65 : decode cX1_ofProduction 65 = .ok (.istore 8, 2) := by decide +kernel
theorem dX1_ofProduction_67 : decode cX1_ofProduction 67 = .ok (.iload 8, 2) := by decide +kernel
theorem dX1_ofProduction_69 : decode cX1_ofProduction 69 = .ok (.iload_n 3, 1) := by decide +kernel
theorem dX1_ofProduction_70 : decode cX1_ofProduction 70 = .ok (.if_icmp .gt 77, 3) := by decide +kernel
theorem dX1_ofProduction_73 : decode cX1_ofProduction 73 = .ok (.aload_n 0, 1) := by decide +kernel
theorem dX1_ofProduction_74 : decode cX1_ofProduction 74 = .ok (.iload 4, 2) := by decide +kernel
theorem dX1_ofProduction_76 : decode cX1_ofProduction 76 = .ok (.iload 6, 2) := by decide +kernel
theorem dX1_ofProduction_78 : decode cX1_ofProduction 78 = .ok (.iadd, 1) := by decide +kernel
theorem dX1_ofProduction_79 : decode cX1_ofProduction 79 = .ok (.iload_n 2, 1) := by decide +kernel
theorem dX1_ofProduction_80 : decode cX1_ofProduction 80 = .ok (.iload 8, 2) := by decide +kernel
theorem dX1_ofProduction_82 : decode cX1_ofProduction 82 = .ok (.invokevirtual 99, 3) := by decide +kernel
theorem dX1_ofProduction_85 : decode cX1_ofProduction 85 = .ok (.istore 9, 2) := by decide +kernel
theorem dX1_ofProduction_87 : decode cX1_ofProduction 87 = .ok (.iload 7, 2) := by decide +kernel
theorem dX1_ofProduction_89 : decode cX1_ofProduction 89 = .ok (.invokestatic 102, 3) := by decide +kernel
theorem dX1_ofProduction_92 : decode cX1_ofProduction 92 = .ok (.istore 10, 2) := by decide +kernel
theorem dX1_ofProduction_94 : decode cX1_ofProduction 94 = .ok (.iload 10, 2) := by decide +kernel
theorem dX1_ofProduction_96 : decode cX1_ofProduction 96 = .ok (.ifCond .eq 15, 3) := by decide +kernel
theorem dX1_ofProduction_99 : decode cX1_ofProduction 99 = .ok (.aload_n 0, 1) := by decide +kernel
theorem dX1_ofProduction_100 : decode cX1_ofProduction 100 = .ok (.iload 7, 2) := by decide +kernel
theorem dX1_ofProduction_102 : decode cX1_ofProduction 102 = .ok (.iload 8, 2) := by decide +kernel
theorem dX1_ofProduction_104 : decode cX1_ofProduction 104 = .ok (.iload_n 3, 1) := by decide +kernel
theorem dX1_ofProduction_105 : decode cX1_ofProduction 105 = .ok (.invokevirtual 106, 3) := by decide +kernel
theorem dX1_ofProduction_108 : decode cX1_ofProduction 108 = .ok (.goto 15, 3) := by decide +kernel
theorem dX1_ofProduction_111 : decode cX1_ofProduction 111 = .ok (.aload_n 0, 1) := by decide +kernel
theorem dX1_ofProduction_112 : decode cX1_ofProduction 112 = .ok (.iload 7, 2) := by decide +kernel
theorem dX1_ofProduction_114 : decode cX1_ofProduction 114 = .ok (.bipush 16, 2) := by decide +kernel
theorem dX1_ofProduction_116 : decode cX1_ofProduction 116 = .ok (.isub, 1) := by decide +kernel
theorem dX1_ofProduction_117 : decode cX1_ofProduction 117 = .ok (.iload 8, 2) := by decide +kernel
theorem dX1_ofProduction_119 : decode cX1_ofProduction 119 = .ok (.iload_n 3, 1) := by decide +kernel
theorem dX1_ofProduction_120 : decode cX1_ofProduction 120 = .ok (.invokevirtual 50, 3) := by decide +kernel
theorem dX1_ofProduction_123 : decode cX1_ofProduction 123 = .ok (.istore 11, 2) := by decide +kernel
theorem dX1_ofProduction_125 : decode cX1_ofProduction 125 = .ok (.aload_n 0, 1) := by decide +kernel
theorem dX1_ofProduction_126 : decode cX1_ofProduction 126 = .ok (.iload 5, 2) := by decide +kernel
theorem dX1_ofProduction_128 : decode cX1_ofProduction 128 = .ok (.aload_n 0, 1) := by decide +kernel
theorem dX1_ofProduction_129 : decode cX1_ofProduction 129 = .ok (.iload 9, 2) := by decide +kernel
theorem dX1_ofProduction_131 : decode cX1_ofProduction 131 = .ok (.iload 11, 2) := by decide +kernel
theorem dX1_ofProduction_133 : decode cX1_ofProduction 133 = .ok (.invokevirtual 109, 3) := by decide +kernel
theorem dX1_ofProduction_136 : decode cX1_ofProduction 136 = .ok (.invokevirtual 81, 3) := by decide +kernel
theorem dX1_ofProduction_139 : decode cX1_ofProduction 139 = .ok (.istore 5, 2) := by decide +kernel
theorem dX1_ofProduction_141 : decode cX1_ofProduction 141 = .ok (.iinc 8 1, 3) := by decide +kernel
theorem dX1_ofProduction_144 : decode cX1_ofProduction 144 = .ok (.goto (-77), 3) := by decide +kernel
theorem dX1_ofProduction_147 : decode cX1_ofProduction 147 = .ok (.aload_n 0, 1) := by decide +kernel
theorem dX1_ofProduction_148 : decode cX1_ofProduction 148 = .ok (.iload 4, 2) := by decide +kernel
theorem dX1_ofProduction_150 : decode cX1_ofProduction 150 = .ok (.iload 6, 2) := by decide +kernel
theorem dX1_ofProduction_152 : decode cX1_ofProduction 152 = .ok (.iadd, 1) := by decide +kernel
theorem dX1_ofProduction_153 : decode cX1_ofProduction 153 = .ok (.iconst 1, 1) := by decide +kernel
theorem dX1_ofProduction_154 : decode cX1_ofProduction 154 = .ok (.iadd, 1) := by decide +kernel
theorem dX1_ofProduction_155 : decode cX1_ofProduction 155 = .ok (.iload_n 2, 1) := by decide +kernel
theorem dX1_ofProduction_156 : decode cX1_ofProduction 156 = .ok (.iload_n 3, 1) := by decide +kernel
theorem dX1_ofProduction_157 : decode cX1_ofProduction 157 = .ok (.iload 5, 2) := by decide +kernel
theorem dX1_ofProduction_159 : decode cX1_ofProduction 159 = .ok (.invokevirtual 90, 3) := by decide +kernel
theorem dX1_ofProduction_162 : decode cX1_ofProduction 162 = .ok (.iinc 6 1, 3) := by decide +kernel
theorem dX1_ofProduction_165 : decode cX1_ofProduction 165 = .ok (.goto (-138), 3) := by decide +kernel
theorem dX1_ofProduction_168 : decode cX1_ofProduction 168 = .ok (.iload 5, 2) := by decide +kernel
theorem dX1_ofProduction_170 : decode cX1_ofProduction 170 = .ok (.ireturn, 1) := by decide +kernel
theorem dX1_whole_0 : decode cX1_whole 0 = .ok (.iload_n 1, 1) := by decide +kernel
theorem dX1_whole_1 : decode cX1_whole 1 = .ok (.iload_n 2, 1) := by decide +kernel
theorem dX1_whole_2 : decode cX1_whole 2 = .ok (.iload_n 3, 1) := by decide +kernel
theorem dX1_whole_3 : decode cX1_whole 3 = .ok (.invokestatic 112, 3) := by decide +kernel
theorem dX1_whole_6 : decode cX1_whole 6 = .ok (.istore 4, 2) := by decide +kernel
theorem dX1_whole_8 : decode cX1_whole 8 = .ok (.iload 4, 2) := by decide +kernel
theorem dX1_whole_10 : decode cX1_whole 10 = .ok (.ifCond .lt 23, 3) := by decide +kernel
theorem dX1_whole_13 : decode cX1_whole 13 = .ok (.iload 4, 2) := by decide +kernel
theorem dX1_whole_15 : decode cX1_whole 15 = .ok (.aload_n 0, 1) := by decide +kernel
theorem dX1_whole_16 : decode cX1_whole 16 = .ok (.getfield 22, 3) := by decide +kernel
theorem dX1_whole_19 : decode cX1_whole 19 = .ok (.arraylength, 1) := by decide +kernel
theorem dX1_whole_20 : decode cX1_whole 20 = .ok (.if_icmp .ge 13, 3) := by decide +kernel
theorem dX1_whole_23 : decode cX1_whole 23 = .ok (.aload_n 0, 1) := by decide +kernel
theorem dX1_whole_24 : decode cX1_whole 24 = .ok (.getfield 22, 3) := by decide +kernel
theorem dX1_whole_27 : decode cX1_whole 27 = .ok (.iload 4, 2) := by decide +kernel
theorem dX1_whole_29 : decode cX1_whole 29 = .ok (.iaload, 1) := by decide +kernel
theorem dX1_whole_30 : decode cX1_whole 30 = .ok (.goto 7, 3) := by decide +kernel
theorem dX1_whole_33 : decode cX1_whole 33 = .ok (.aload_n 0, 1) := by decide +kernel
theorem dX1_whole_34 : decode cX1_whole 34 = .ok (.invokevirtual 54, 3) := by decide +kernel
theorem dX1_whole_37 : decode cX1_whole 37 = .ok (.ireturn, 1) := by decide +kernel
theorem dX1_setWhole_0 : decode cX1_setWhole 0 = .ok (.iload_n 1, 1) := by decide +kernel
theorem dX1_setWhole_1 : decode cX1_setWhole 1 = .ok (.iload_n 2, 1) := by decide +kernel
theorem dX1_setWhole_2 : decode cX1_setWhole 2 = .ok (.iload_n 3, 1) := by decide +kernel
theorem dX1_setWhole_3 : decode cX1_setWhole 3 = .ok (.invokestatic 112, 3) := by decide +kernel
theorem dX1_setWhole_6 : decode cX1_setWhole 6 = .ok (.istore 5, 2) := by decide +kernel
theorem dX1_setWhole_8 : decode cX1_setWhole 8 = .ok (.iload 5, 2) := by decide +kernel
theorem dX1_setWhole_10 : decode cX1_setWhole 10 = .ok (.ifCond .lt 22, 3) := by decide +kernel
theorem dX1_setWhole_13 : decode cX1_setWhole 13 = .ok (.iload 5, 2) := by decide +kernel
theorem dX1_setWhole_15 : decode cX1_setWhole 15 = .ok (.aload_n 0, 1) := by decide +kernel
theorem dX1_setWhole_16 : decode cX1_setWhole 16 = .ok (.getfield 22, 3) := by decide +kernel
theorem dX1_setWhole_19 : decode cX1_setWhole 19 = .ok (.arraylength, 1) := by decide +kernel
theorem dX1_setWhole_20 : decode cX1_setWhole 20 = .ok (.if_icmp .ge 12, 3) := by decide +kernel
theorem dX1_setWhole_23 : decode cX1_setWhole 23 = .ok (.aload_n 0, 1) := by decide +kernel
theorem dX1_setWhole_24 : decode cX1_setWhole 24 = .ok (.getfield 22, 3) := by decide +kernel
theorem dX1_setWhole_27 : decode cX1_setWhole 27 = .ok (.iload 5, 2) := by decide +kernel
theorem dX1_setWhole_29 : decode cX1_setWhole 29 = .ok (.iload 4, 2) := by decide +kernel
theorem dX1_setWhole_31 : decode cX1_setWhole 31 = .ok (.iastore, 1) := by decide +kernel
theorem dX1_setWhole_32 : decode cX1_setWhole 32 = .ok (.return_, 1) := by decide +kernel
theorem dX1_part_0 : decode cX1_part 0 = .ok (.iload_n 1, 1) := by decide +kernel
theorem dX1_part_1 : decode cX1_part 1 = .ok (.iload_n 2, 1) := by decide +kernel
theorem dX1_part_2 : decode cX1_part 2 = .ok (.iload_n 3, 1) := by decide +kernel
theorem dX1_part_3 : decode cX1_part 3 = .ok (.invokestatic 112, 3) := by decide +kernel
theorem dX1_part_6 : decode cX1_part 6 = .ok (.istore 4, 2) := by decide +kernel
theorem dX1_part_8 : decode cX1_part 8 = .ok (.iload 4, 2) := by decide +kernel
theorem dX1_part_10 : decode cX1_part 10 = .ok (.ifCond .lt 23, 3) := by decide +kernel
theorem dX1_part_13 : decode cX1_part 13 = .ok (.iload 4, 2) := by decide +kernel
theorem dX1_part_15 : decode cX1_part 15 = .ok (.aload_n 0, 1) := by decide +kernel
theorem dX1_part_16 : decode cX1_part 16 = .ok (.getfield 25, 3) := by decide +kernel
theorem dX1_part_19 : decode cX1_part 19 = .ok (.arraylength, 1) := by decide +kernel
theorem dX1_part_20 : decode cX1_part 20 = .ok (.if_icmp .ge 13, 3) := by decide +kernel
theorem dX1_part_23 : decode cX1_part 23 = .ok (.aload_n 0, 1) := by decide +kernel
theorem dX1_part_24 : decode cX1_part 24 = .ok (.getfield 25, 3) := by decide +kernel
theorem dX1_part_27 : decode cX1_part 27 = .ok (.iload 4, 2) := by decide +kernel
theorem dX1_part_29 : decode cX1_part 29 = .ok (.iaload, 1) := by decide +kernel
theorem dX1_part_30 : decode cX1_part 30 = .ok (.goto 7, 3) := by decide +kernel
theorem dX1_part_33 : decode cX1_part 33 = .ok (.aload_n 0, 1) := by decide +kernel
theorem dX1_part_34 : decode cX1_part 34 = .ok (.invokevirtual 54, 3) := by decide +kernel
theorem dX1_part_37 : decode cX1_part 37 = .ok (.ireturn, 1) := by decide +kernel
theorem dX1_setPart_0 : decode cX1_setPart 0 = .ok (.iload_n 1, 1) := by decide +kernel
theorem dX1_setPart_1 : decode cX1_setPart 1 = .ok (.iload_n 2, 1) := by decide +kernel
theorem dX1_setPart_2 : decode cX1_setPart 2 = .ok (.iload_n 3, 1) := by decide +kernel
theorem dX1_setPart_3 : decode cX1_setPart 3 = .ok (.invokestatic 112, 3) := by decide +kernel
theorem dX1_setPart_6 : decode cX1_setPart 6 = .ok (.istore 5, 2) := by decide +kernel
theorem dX1_setPart_8 : decode cX1_setPart 8 = .ok (.iload 5, 2) := by decide +kernel
theorem dX1_setPart_10 : decode cX1_setPart 10 = .ok (.ifCond .lt 22, 3) := by decide +kernel
theorem dX1_setPart_13 : decode cX1_setPart 13 = .ok (.iload 5, 2) := by decide +kernel
theorem dX1_setPart_15 : decode cX1_setPart 15 = .ok (.aload_n 0, 1) := by decide +kernel
theorem dX1_setPart_16 : decode cX1_setPart 16 = .ok (.getfield 25, 3) := by decide +kernel
theorem dX1_setPart_19 : decode cX1_setPart 19 = .ok (.arraylength, 1) := by decide +kernel
theorem dX1_setPart_20 : decode cX1_setPart 20 = .ok (.if_icmp .ge 12, 3) := by decide +kernel
theorem dX1_setPart_23 : decode cX1_setPart 23 = .ok (.aload_n 0, 1) := by decide +kernel
theorem dX1_setPart_24 : decode cX1_setPart 24 = .ok (.getfield 25, 3) := by decide +kernel
theorem dX1_setPart_27 : decode cX1_setPart 27 = .ok (.iload 5, 2) := by decide +kernel
theorem dX1_setPart_29 : decode cX1_setPart 29 = .ok (.iload 4, 2) := by decide +kernel
theorem dX1_setPart_31 : decode cX1_setPart 31 = .ok (.iastore, 1) := by decide +kernel
theorem dX1_setPart_32 : decode cX1_setPart 32 = .ok (.return_, 1) := by decide +kernel
theorem dX1_cell_0 : decode cX1_cell 0 = .ok (.iload_n 0, 1) := by decide +kernel
theorem dX1_cell_1 : decode cX1_cell 1 = .ok (.sipush 169, 3) := by decide +kernel
theorem dX1_cell_4 : decode cX1_cell 4 = .ok (.imul, 1) := by decide +kernel
theorem dX1_cell_5 : decode cX1_cell 5 = .ok (.iload_n 1, 1) := by decide +kernel
theorem dX1_cell_6 : decode cX1_cell 6 = .ok (.bipush 13, 2) := by decide +kernel
theorem dX1_cell_8 : decode cX1_cell 8 = .ok (.imul, 1) := by decide +kernel
theorem dX1_cell_9 : decode cX1_cell 9 = .ok (.iadd, 1) := by decide +kernel
theorem dX1_cell_10 : decode cX1_cell 10 = .ok (.iload_n 2, 1) := by decide +kernel
theorem dX1_cell_11 : decode cX1_cell 11 = .ok (.iadd, 1) := by decide +kernel
theorem dX1_cell_12 : decode cX1_cell 12 = .ok (.ireturn, 1) := by decide +kernel
theorem dX2_init_0 : decode cX2_init 0 = .ok (.aload_n 0, 1) := by decide +kernel
theorem dX2_init_1 : decode cX2_init 1 = .ok (.aload_n 1, 1) := by decide +kernel
theorem dX2_init_2 : decode cX2_init 2 = .ok (.aload_n 2, 1) := by decide +kernel
theorem dX2_init_3 : decode cX2_init 3 = .ok (.aload_n 3, 1) := by decide +kernel
theorem dX2_init_4 : decode cX2_init 4 = .ok (.aload 4, 2) := by decide +kernel
theorem dX2_init_6 : decode cX2_init 6 = .ok (.invokespecial 3, 3) := by decide +kernel
theorem dX2_init_9 : decode cX2_init 9 = .ok (.return_, 1) := by decide +kernel
theorem dX2_none_0 : decode cX2_none 0 = .ok (.iconst 0, 1) := by decide +kernel
theorem dX2_none_1 : decode cX2_none 1 = .ok (.ireturn, 1) := by decide +kernel
theorem dX2_blank_0 : decode cX2_blank 0 = .ok (.iload_n 1, 1) := by decide +kernel
theorem dX2_blank_1 : decode cX2_blank 1 = .ok (.iload_n 2, 1) := by decide +kernel
theorem dX2_blank_2 : decode cX2_blank 2 = .ok (.if_icmp .ne 7, 3) := by decide +kernel
theorem dX2_blank_5 : decode cX2_blank 5 = .ok (.iconst 1, 1) := by decide +kernel
theorem dX2_blank_6 : decode cX2_blank 6 = .ok (.goto 4, 3) := by decide +kernel
theorem dX2_blank_9 : decode cX2_blank 9 = .ok (.iconst 0, 1) := by decide +kernel
theorem dX2_blank_10 : decode cX2_blank 10 = .ok (.ireturn, 1) := by decide +kernel
theorem dX2_ofTerminal_0 : decode cX2_ofTerminal 0 = .ok (.iload_n 3, 1) := by decide +kernel
theorem dX2_ofTerminal_1 : decode cX2_ofTerminal 1 = .ok (.iload_n 2, 1) := by decide +kernel
theorem dX2_ofTerminal_2 : decode cX2_ofTerminal 2 = .ok (.isub, 1) := by decide +kernel
theorem dX2_ofTerminal_3 : decode cX2_ofTerminal 3 = .ok (.iconst 1, 1) := by decide +kernel
theorem dX2_ofTerminal_4 : decode cX2_ofTerminal 4 = .ok (.if_icmp .ne 16, 3) := by decide +kernel
theorem dX2_ofTerminal_7 : decode cX2_ofTerminal 7 = .ok (.aload_n 0, 1) := by decide +kernel
theorem dX2_ofTerminal_8 : decode cX2_ofTerminal 8 = .ok (.iload_n 2, 1) := by decide +kernel
theorem dX2_ofTerminal_9 : decode cX2_ofTerminal 9 = .ok (.invokevirtual 9, 3) := by decide +kernel
theorem dX2_ofTerminal_12 : decode cX2_ofTerminal 12 = .ok (.iload_n 1, 1) := by decide +kernel
theorem dX2_ofTerminal_13 : decode cX2_ofTerminal 13 = .ok (.if_icmp .ne 7, 3) := by decide +kernel
theorem dX2_ofTerminal_16 : decode cX2_ofTerminal 16 = .ok (.iconst 1, 1) := by decide +kernel
theorem dX2_ofTerminal_17 : decode cX2_ofTerminal 17 = .ok (.goto 4, 3) := by decide +kernel
theorem dX2_ofTerminal_20 : decode cX2_ofTerminal 20 = .ok (.iconst 0, 1) := by decide +kernel
theorem dX2_ofTerminal_21 : decode cX2_ofTerminal 21 = .ok (.ireturn, 1) := by decide +kernel
theorem dX2_either_0 : decode cX2_either 0 = .ok (.bipush 100, 2) := by decide +kernel
theorem dX2_either_2 : decode cX2_either 2 = .ok (.iload_n 1, 1) := by decide +kernel
theorem dX2_either_3 : decode cX2_either 3 = .ok (.iload_n 2, 1) := by decide +kernel
theorem dX2_either_4 : decode cX2_either 4 = .ok (.iadd, 1) := by decide +kernel
theorem dX2_either_5 : decode cX2_either 5 = .ok (.invokestatic 15, 3) := by decide +kernel
theorem dX2_either_8 : decode cX2_either 8 = .ok (.ireturn, 1) := by decide +kernel
theorem dX2_both_0 : decode cX2_both 0 = .ok (.bipush 100, 2) := by decide +kernel
theorem dX2_both_2 : decode cX2_both 2 = .ok (.iload_n 1, 1) := by decide +kernel
theorem dX2_both_3 : decode cX2_both 3 = .ok (.iload_n 2, 1) := by decide +kernel
theorem dX2_both_4 : decode cX2_both 4 = .ok (.imul, 1) := by decide +kernel
theorem dX2_both_5 : decode cX2_both 5 = .ok (.invokestatic 15, 3) := by decide +kernel
theorem dX2_both_8 : decode cX2_both 8 = .ok (.ireturn, 1) := by decide +kernel
theorem dX2_ofNonterminal_0 : decode cX2_ofNonterminal 0 = .ok (.iload_n 2, 1) := by decide +kernel
theorem dX2_ofNonterminal_1 : decode cX2_ofNonterminal 1 = .ok (.ifCond .le 19, 3) := by decide +kernel
theorem dX2_ofNonterminal_4 : decode cX2_ofNonterminal 4 = .ok (.aload_n 0, 1) := by decide +kernel
theorem dX2_ofNonterminal_5 : decode cX2_ofNonterminal 5 = .ok (.invokevirtual 21, 3) := by decide +kernel
theorem dX2_ofNonterminal_8 : decode cX2_ofNonterminal 8 = .ok (.iload_n 1, 1) := by decide +kernel
theorem dX2_ofNonterminal_9 : decode cX2_ofNonterminal 9 = .ok (.invokevirtual 25, 3) := by decide +kernel
theorem dX2_ofNonterminal_12 : decode cX2_ofNonterminal 12 = .ok (.ifCond .eq 8, 3) := by decide +kernel
theorem dX2_ofNonterminal_15 : decode cX2_ofNonterminal 15 = .ok (.bipush 100, 2) := by decide +kernel
theorem dX2_ofNonterminal_17 : decode cX2_ofNonterminal 17 = .ok (.goto 4, 3) := by decide +kernel
theorem dX2_ofNonterminal_20 : decode cX2_ofNonterminal 20 = .ok (.iload_n 2, 1) := by decide +kernel
theorem dX2_ofNonterminal_21 : decode cX2_ofNonterminal 21 = .ok (.ireturn, 1) := by decide +kernel
theorem dX3_init_0 : decode cX3_init 0 = .ok (.aload_n 0, 1) := by decide +kernel
theorem dX3_init_1 : decode cX3_init 1 = .ok (.invokespecial 3, 3) := by decide +kernel
theorem dX3_init_4 : decode cX3_init 4 = .ok (.aload_n 0, 1) := by decide +kernel
theorem dX3_init_5 : decode cX3_init 5 = .ok (.bipush 32, 2) := by decide +kernel
theorem dX3_init_7 : decode cX3_init 7 = .ok (.newarray .int, 2) := by decide +kernel
theorem dX3_init_9 : decode cX3_init 9 = .ok (.putfield 9, 3) := by decide +kernel
theorem dX3_init_12 : decode cX3_init 12 = .ok (.aload_n 0, 1) := by decide +kernel
theorem dX3_init_13 : decode cX3_init 13 = .ok (.bipush 16, 2) := by decide +kernel
theorem dX3_init_15 : decode cX3_init 15 = .ok (.newarray .int, 2) := by decide +kernel
theorem dX3_init_17 : decode cX3_init 17 = .ok (.putfield 15, 3) := by decide +kernel
theorem dX3_init_20 : decode cX3_init 20 = .ok (.aload_n 0, 1) := by decide +kernel
theorem dX3_init_21 : decode cX3_init 21 = .ok (.bipush 24, 2) := by decide +kernel
theorem dX3_init_23 : decode cX3_init 23 = .ok (.newarray .int, 2) := by decide +kernel
theorem dX3_init_25 : decode cX3_init 25 = .ok (.putfield 18, 3) := by decide +kernel
theorem dX3_init_28 : decode cX3_init 28 = .ok (.aload_n 0, 1) := by decide +kernel
theorem dX3_init_29 : decode cX3_init 29 = .ok (.bipush 32, 2) := by decide +kernel
theorem dX3_init_31 : decode cX3_init 31 = .ok (.newarray .int, 2) := by decide +kernel
theorem dX3_init_33 : decode cX3_init 33 = .ok (.putfield 21, 3) := by decide +kernel
theorem dX3_init_36 : decode cX3_init 36 = .ok (.aload_n 0, 1) := by decide +kernel
theorem dX3_init_37 : decode cX3_init 37 = .ok (.bipush 32, 2) := by decide +kernel
theorem dX3_init_39 : decode cX3_init 39 = .ok (.newarray .long, 2) := by decide +kernel
theorem dX3_init_41 : decode cX3_init 41 = .ok (.putfield 24, 3) := by decide +kernel
theorem dX3_init_44 : decode cX3_init 44 = .ok (.aload_n 0, 1) := by decide +kernel
theorem dX3_init_45 : decode cX3_init 45 = .ok (.bipush 16, 2) := by decide +kernel
theorem dX3_init_47 : decode cX3_init 47 = .ok (.newarray .int, 2) := by decide +kernel
theorem dX3_init_49 : decode cX3_init 49 = .ok (.putfield 28, 3) := by decide +kernel
theorem dX3_init_52 : decode cX3_init 52 = .ok (.aload_n 0, 1) := by decide +kernel
theorem dX3_init_53 : decode cX3_init 53 = .ok (.sipush 150, 3) := by decide +kernel
theorem dX3_init_56 : decode cX3_init 56 = .ok (.newarray .int, 2) := by decide +kernel
theorem dX3_init_58 : decode cX3_init 58 = .ok (.putfield 31, 3) := by decide +kernel
theorem dX3_init_61 : decode cX3_init 61 = .ok (.aload_n 0, 1) := by decide +kernel
theorem dX3_init_62 : decode cX3_init 62 = .ok (.sipush 150, 3) := by decide +kernel
theorem dX3_init_65 : decode cX3_init 65 = .ok (.newarray .int, 2) := by decide +kernel
theorem dX3_init_67 : decode cX3_init 67 = .ok (.putfield 34, 3) := by decide +kernel
theorem dX3_init_70 : decode cX3_init 70 = .ok (.aload_n 0, 1) := by decide +kernel
theorem dX3_init_71 : decode cX3_init 71 = .ok (.aload_n 1, 1) := by decide +kernel
theorem dX3_init_72 : decode cX3_init 72 = .ok (.putfield 37, 3) := by decide +kernel
theorem dX3_init_75 : decode cX3_init 75 = .ok (.return_, 1) := by decide +kernel
theorem dX3_forget_0 : decode cX3_forget 0 = .ok (.aload_n 0, 1) := by decide +kernel
theorem dX3_forget_1 : decode cX3_forget 1 = .ok (.aload_n 1, 1) := by decide +kernel
theorem dX3_forget_2 : decode cX3_forget 2 = .ok (.putfield 37, 3) := by decide +kernel
theorem dX3_forget_5 : decode cX3_forget 5 = .ok (.aload_n 0, 1) := by decide +kernel
theorem dX3_forget_6 : decode cX3_forget 6 = .ok (.iconst 0, 1) := by decide +kernel
theorem dX3_forget_7 : decode cX3_forget 7 = .ok (.putfield 41, 3) := by decide +kernel
theorem dX3_forget_10 : decode cX3_forget 10 = .ok (.return_, 1) := by decide +kernel
theorem dX3_learn_0 : decode cX3_learn 0 = .ok (.aload_n 0, 1) := by decide +kernel
theorem dX3_learn_1 : decode cX3_learn 1 = .ok (.getfield 41, 3) := by decide +kernel
theorem dX3_learn_4 : decode cX3_learn 4 = .ok (.ifCond .eq 4, 3) := by decide +kernel
theorem dX3_learn_7 : decode cX3_learn 7 = .ok (.return_, 1) := by decide +kernel
theorem dX3_learn_8 : decode cX3_learn 8 = .ok (.aload_n 0, 1) := by decide +kernel
theorem dX3_learn_9 : decode cX3_learn 9 = .ok (.invokevirtual 45, 3) := by decide +kernel
theorem dX3_learn_12 : decode cX3_learn 12 = .ok (.aload_n 0, 1) := by decide +kernel
theorem dX3_learn_13 : decode cX3_learn 13 = .ok (.invokevirtual 48, 3) := by decide +kernel
theorem dX3_learn_16 : decode cX3_learn 16 = .ok (.aload_n 0, 1) := by decide +kernel
theorem dX3_learn_17 : decode cX3_learn 17 = .ok (.invokevirtual 51, 3) := by decide +kernel
theorem dX3_learn_20 : decode cX3_learn 20 = .ok (.aload_n 0, 1) := by decide +kernel
theorem dX3_learn_21 : decode cX3_learn 21 = .ok (.invokevirtual 54, 3) := by decide +kernel
theorem dX3_learn_24 : decode cX3_learn 24 = .ok (.aload_n 0, 1) := by decide +kernel
theorem dX3_learn_25 : decode cX3_learn 25 = .ok (.invokevirtual 57, 3) := by decide +kernel
theorem dX3_learn_28 : decode cX3_learn 28 = .ok (.aload_n 0, 1) := by decide +kernel
theorem dX3_learn_29 : decode cX3_learn 29 = .ok (.invokevirtual 60, 3) := by decide +kernel
theorem dX3_learn_32 : decode cX3_learn 32 = .ok (.aload_n 0, 1) := by decide +kernel
theorem dX3_learn_33 : decode cX3_learn 33 = .ok (.invokevirtual 63, 3) := by decide +kernel
theorem dX3_learn_36 : decode cX3_learn 36 = .ok (.aload_n 0, 1) := by decide +kernel
theorem dX3_learn_37 : decode cX3_learn 37 = .ok (.invokevirtual 66, 3) := by decide +kernel
theorem dX3_learn_40 : decode cX3_learn 40 = .ok (.aload_n 0, 1) := by decide +kernel
theorem dX3_learn_41 : decode cX3_learn 41 = .ok (.invokevirtual 69, 3) := by decide +kernel
theorem dX3_learn_44 : decode cX3_learn 44 = .ok (.aload_n 0, 1) := by decide +kernel
theorem dX3_learn_45 : decode cX3_learn 45 = .ok (.iconst 1, 1) := by decide +kernel
theorem dX3_learn_46 : decode cX3_learn 46 = .ok (.putfield 41, 3) := by decide +kernel
theorem dX3_learn_49 : decode cX3_learn 49 = .ok (.return_, 1) := by decide +kernel
theorem dX3_grammar_0 : decode cX3_grammar 0 = .ok (.aload_n 0, 1) := by decide +kernel
theorem dX3_grammar_1 : decode cX3_grammar 1 = .ok (.getfield 37, 3) := by decide +kernel
theorem dX3_grammar_4 : decode cX3_grammar 4 = .ok (.areturn, 1) := by decide +kernel
theorem dX3_vanishes_0 : decode cX3_vanishes 0 = .ok (.aload_n 0, 1) := by decide +kernel
theorem dX3_vanishes_1 : decode cX3_vanishes 1 = .ok (.bipush 16, 2) := by decide +kernel
theorem dX3_vanishes_3 : decode cX3_vanishes 3 = .ok (.iload_n 1, 1) := by decide +kernel
theorem dX3_vanishes_4 : decode cX3_vanishes 4 = .ok (.iadd, 1) := by decide +kernel
theorem dX3_vanishes_5 : decode cX3_vanishes 5 = .ok (.invokevirtual 72, 3) := by decide +kernel
theorem dX3_vanishes_8 : decode cX3_vanishes 8 = .ok (.sipush 512, 3) := by decide +kernel
theorem dX3_vanishes_11 : decode cX3_vanishes 11 = .ok (.iand, 1) := by decide +kernel
theorem dX3_vanishes_12 : decode cX3_vanishes 12 = .ok (.ifCond .eq 7, 3) := by decide +kernel
theorem dX3_vanishes_15 : decode cX3_vanishes 15 = .ok (.iconst 1, 1) := by decide +kernel
theorem dX3_vanishes_16 : decode cX3_vanishes 16 = .ok (.goto 4, 3) := by decide +kernel
theorem dX3_vanishes_19 : decode cX3_vanishes 19 = .ok (.iconst 0, 1) := by decide +kernel
theorem dX3_vanishes_20 : decode cX3_vanishes 20 = .ok (.ireturn, 1) := by decide +kernel
theorem dX3_firsts_0 : decode cX3_firsts 0 = .ok (.aload_n 0, 1) := by decide +kernel
theorem dX3_firsts_1 : decode cX3_firsts 1 = .ok (.bipush 16, 2) := by decide +kernel
theorem dX3_firsts_3 : decode cX3_firsts 3 = .ok (.iload_n 1, 1) := by decide +kernel
theorem dX3_firsts_4 : decode cX3_firsts 4 = .ok (.iadd, 1) := by decide +kernel
theorem dX3_firsts_5 : decode cX3_firsts 5 = .ok (.invokevirtual 72, 3) := by decide +kernel
theorem dX3_firsts_8 : decode cX3_firsts 8 = .ok (.sipush 255, 3) := by decide +kernel
theorem dX3_firsts_11 : decode cX3_firsts 11 = .ok (.iand, 1) := by decide +kernel
theorem dX3_firsts_12 : decode cX3_firsts 12 = .ok (.ireturn, 1) := by decide +kernel
theorem dX3_behind_0 : decode cX3_behind 0 = .ok (.iload_n 1, 1) := by decide +kernel
theorem dX3_behind_1 : decode cX3_behind 1 = .ok (.ifCond .lt 18, 3) := by decide +kernel
theorem dX3_behind_4 : decode cX3_behind 4 = .ok (.iload_n 1, 1) := by decide +kernel
theorem dX3_behind_5 : decode cX3_behind 5 = .ok (.bipush 16, 2) := by decide +kernel
theorem dX3_behind_7 : decode cX3_behind 7 = .ok (.if_icmp .ge 12, 3) := by decide +kernel
theorem dX3_behind_10 : decode cX3_behind 10 = .ok (.aload_n 0, 1) := by decide +kernel
theorem dX3_behind_11 : decode cX3_behind 11 = .ok (.getfield 15, 3) := by decide +kernel
theorem dX3_behind_14 : decode cX3_behind 14 = .ok (.iload_n 1, 1) := by decide +kernel
theorem dX3_behind_15 : decode cX3_behind 15 = .ok (.iaload, 1) := by decide +kernel
theorem dX3_behind_16 : decode cX3_behind 16 = .ok (.goto 4, 3) := by decide +kernel
theorem dX3_behind_19 : decode cX3_behind 19 = .ok (.iconst 0, 1) := by decide +kernel
theorem dX3_behind_20 : decode cX3_behind 20 = .ok (.ireturn, 1) := by decide +kernel
theorem dX3_isProductive_0 : decode cX3_isProductive 0 = .ok (.aload_n 0, 1) := by decide +kernel
theorem dX3_isProductive_1 : decode cX3_isProductive 1 = .ok (.iload_n 1, 1) := by decide +kernel
theorem dX3_isProductive_2 : decode cX3_isProductive 2 = .ok (.invokevirtual 76, 3) := by decide +kernel
theorem dX3_isProductive_5 : decode cX3_isProductive 5 = .ok (.iconst (-1), 1) := by decide +kernel
theorem dX3_isProductive_6 : decode cX3_isProductive 6 = .ok (.if_icmp .eq 7, 3) := by decide +kernel
theorem dX3_isProductive_9 : decode cX3_isProductive 9 = .ok (.iconst 1, 1) := by decide +kernel
theorem dX3_isProductive_10 : decode cX3_isProductive 10 = .ok (.goto 4, 3) := by decide +kernel
theorem dX3_isProductive_13 : decode cX3_isProductive 13 = .ok (.iconst 0, 1) := by decide +kernel
theorem dX3_isProductive_14 : decode cX3_isProductive 14 = .ok (.ireturn, 1) := by decide +kernel
theorem dX3_isReached_0 : decode cX3_isReached 0 = .ok (.aload_n 0, 1) := by decide +kernel
theorem dX3_isReached_1 : decode cX3_isReached 1 = .ok (.getfield 79, 3) := by decide +kernel
theorem dX3_isReached_4 : decode cX3_isReached 4 = .ok (.iload_n 1, 1) := by decide +kernel
theorem dX3_isReached_5 : decode cX3_isReached 5 = .ok (.invokestatic 83, 3) := by decide +kernel
theorem dX3_isReached_8 : decode cX3_isReached 8 = .ok (.ireturn, 1) := by decide +kernel
theorem dX3_isCircular_0 : decode cX3_isCircular 0 = .ok (.aload_n 0, 1) := by decide +kernel
theorem dX3_isCircular_1 : decode cX3_isCircular 1 = .ok (.getfield 90, 3) := by decide +kernel
theorem dX3_isCircular_4 : decode cX3_isCircular 4 = .ok (.iload_n 1, 1) := by decide +kernel
theorem dX3_isCircular_5 : decode cX3_isCircular 5 = .ok (.invokestatic 83, 3) := by decide +kernel
theorem dX3_isCircular_8 : decode cX3_isCircular 8 = .ok (.ireturn, 1) := by decide +kernel
theorem dX3_least_0 : decode cX3_least 0 = .ok (.aload_n 0, 1) := by decide +kernel
theorem dX3_least_1 : decode cX3_least 1 = .ok (.bipush 16, 2) := by decide +kernel
theorem dX3_least_3 : decode cX3_least 3 = .ok (.iload_n 1, 1) := by decide +kernel
theorem dX3_least_4 : decode cX3_least 4 = .ok (.iadd, 1) := by decide +kernel
theorem dX3_least_5 : decode cX3_least 5 = .ok (.invokevirtual 93, 3) := by decide +kernel
theorem dX3_least_8 : decode cX3_least 8 = .ok (.ireturn, 1) := by decide +kernel
theorem dX3_spelled_0 : decode cX3_spelled 0 = .ok (.aload_n 0, 1) := by decide +kernel
theorem dX3_spelled_1 : decode cX3_spelled 1 = .ok (.iload_n 1, 1) := by decide +kernel
theorem dX3_spelled_2 : decode cX3_spelled 2 = .ok (.invokevirtual 76, 3) := by decide +kernel
theorem dX3_spelled_5 : decode cX3_spelled 5 = .ok (.iconst 1, 1) := by decide +kernel
theorem dX3_spelled_6 : decode cX3_spelled 6 = .ok (.isub, 1) := by decide +kernel
theorem dX3_spelled_7 : decode cX3_spelled 7 = .ok (.iload_n 2, 1) := by decide +kernel
theorem dX3_spelled_8 : decode cX3_spelled 8 = .ok (.isub, 1) := by decide +kernel
theorem dX3_spelled_9 : decode cX3_spelled 9 = .ok (.istore_n 3, 1) := by decide +kernel
theorem dX3_spelled_10 : decode cX3_spelled 10 = .ok (.iload_n 1, 1) := by decide +kernel
theorem dX3_spelled_11 : decode cX3_spelled 11 = .ok (.ifCond .lt 19, 3) := by decide +kernel
theorem dX3_spelled_14 : decode cX3_spelled 14 = .ok (.iload_n 1, 1) := by decide +kernel
theorem dX3_spelled_15 : decode cX3_spelled 15 = .ok (.bipush 16, 2) := by decide +kernel
theorem dX3_spelled_17 : decode cX3_spelled 17 = .ok (.if_icmp .ge 13, 3) := by decide +kernel
theorem dX3_spelled_20 : decode cX3_spelled 20 = .ok (.iload_n 3, 1) := by decide +kernel
theorem dX3_spelled_21 : decode cX3_spelled 21 = .ok (.ifCond .lt 9, 3) := by decide +kernel
theorem dX3_spelled_24 : decode cX3_spelled 24 = .ok (.iload_n 3, 1) := by decide +kernel
theorem dX3_spelled_25 : decode cX3_spelled 25 = .ok (.bipush 20, 2) := by decide +kernel
theorem dX3_spelled_27 : decode cX3_spelled 27 = .ok (.if_icmp .lt 5, 3) := by decide +kernel
theorem dX3_spelled_30 : decode cX3_spelled 30 = .ok (.iconst (-1), 1) := by decide +kernel
theorem dX3_spelled_31 : decode cX3_spelled 31 = .ok (.ireturn, 1) := by decide +kernel
theorem dX3_spelled_32 : decode cX3_spelled 32 = .ok (.aload_n 0, 1) := by decide +kernel
theorem dX3_spelled_33 : decode cX3_spelled 33 = .ok (.getfield 24, 3) := by decide +kernel
theorem dX3_spelled_36 : decode cX3_spelled 36 = .ok (.bipush 16, 2) := by decide +kernel
theorem dX3_spelled_38 : decode cX3_spelled 38 = .ok (.iload_n 1, 1) := by decide +kernel
theorem dX3_spelled_39 : decode cX3_spelled 39 = .ok (.iadd, 1) := by decide +kernel
theorem dX3_spelled_40 : decode cX3_spelled 40 = .ok (.laload, 1) := by decide +kernel
theorem dX3_spelled_41 : decode cX3_spelled 41 = .ok (.iconst 3, 1) := by decide +kernel
theorem dX3_spelled_42 : decode cX3_spelled 42 = .ok (.iload_n 3, 1) := by decide +kernel
theorem dX3_spelled_43 : decode cX3_spelled 43 = .ok (.imul, 1) := by decide +kernel
theorem dX3_spelled_44 : decode cX3_spelled 44 = .ok (.lshr, 1) := by decide +kernel
theorem dX3_spelled_45 : decode cX3_spelled 45 = .ok (.l2i, 1) := by decide +kernel
theorem dX3_spelled_46 : decode cX3_spelled 46 = .ok (.bipush 7, 2) := by decide +kernel
theorem dX3_spelled_48 : decode cX3_spelled 48 = .ok (.iand, 1) := by decide +kernel
theorem dX3_spelled_49 : decode cX3_spelled 49 = .ok (.ireturn, 1) := by decide +kernel
theorem dX3_prediction_0 : decode cX3_prediction 0 = .ok (.iload_n 1, 1) := by decide +kernel
theorem dX3_prediction_1 : decode cX3_prediction 1 = .ok (.ifCond .lt 18, 3) := by decide +kernel
theorem dX3_prediction_4 : decode cX3_prediction 4 = .ok (.iload_n 1, 1) := by decide +kernel
theorem dX3_prediction_5 : decode cX3_prediction 5 = .ok (.bipush 24, 2) := by decide +kernel
theorem dX3_prediction_7 : decode cX3_prediction 7 = .ok (.if_icmp .ge 12, 3) := by decide +kernel
theorem dX3_prediction_10 : decode cX3_prediction 10 = .ok (.aload_n 0, 1) := by decide +kernel
theorem dX3_prediction_11 : decode cX3_prediction 11 = .ok (.getfield 18, 3) := by decide +kernel
theorem dX3_prediction_14 : decode cX3_prediction 14 = .ok (.iload_n 1, 1) := by decide +kernel
theorem dX3_prediction_15 : decode cX3_prediction 15 = .ok (.iaload, 1) := by decide +kernel
theorem dX3_prediction_16 : decode cX3_prediction 16 = .ok (.goto 4, 3) := by decide +kernel
theorem dX3_prediction_19 : decode cX3_prediction 19 = .ok (.iconst 0, 1) := by decide +kernel
theorem dX3_prediction_20 : decode cX3_prediction 20 = .ok (.ireturn, 1) := by decide +kernel
theorem dX3_front_0 : decode cX3_front 0 = .ok (.iload_n 1, 1) := by decide +kernel
theorem dX3_front_1 : decode cX3_front 1 = .ok (.ifCond .lt 19, 3) := by decide +kernel
theorem dX3_front_4 : decode cX3_front 4 = .ok (.iload_n 1, 1) := by decide +kernel
theorem dX3_front_5 : decode cX3_front 5 = .ok (.sipush 150, 3) := by decide +kernel
theorem dX3_front_8 : decode cX3_front 8 = .ok (.if_icmp .ge 12, 3) := by decide +kernel
theorem dX3_front_11 : decode cX3_front 11 = .ok (.aload_n 0, 1) := by decide +kernel
theorem dX3_front_12 : decode cX3_front 12 = .ok (.getfield 31, 3) := by decide +kernel
theorem dX3_front_15 : decode cX3_front 15 = .ok (.iload_n 1, 1) := by decide +kernel
theorem dX3_front_16 : decode cX3_front 16 = .ok (.iaload, 1) := by decide +kernel
theorem dX3_front_17 : decode cX3_front 17 = .ok (.goto 4, 3) := by decide +kernel
theorem dX3_front_20 : decode cX3_front 20 = .ok (.iconst (-1), 1) := by decide +kernel
theorem dX3_front_21 : decode cX3_front 21 = .ok (.ireturn, 1) := by decide +kernel
theorem dX3_rest_0 : decode cX3_rest 0 = .ok (.iload_n 1, 1) := by decide +kernel
theorem dX3_rest_1 : decode cX3_rest 1 = .ok (.ifCond .lt 19, 3) := by decide +kernel
theorem dX3_rest_4 : decode cX3_rest 4 = .ok (.iload_n 1, 1) := by decide +kernel
theorem dX3_rest_5 : decode cX3_rest 5 = .ok (.sipush 150, 3) := by decide +kernel
theorem dX3_rest_8 : decode cX3_rest 8 = .ok (.if_icmp .ge 12, 3) := by decide +kernel
theorem dX3_rest_11 : decode cX3_rest 11 = .ok (.aload_n 0, 1) := by decide +kernel
theorem dX3_rest_12 : decode cX3_rest 12 = .ok (.getfield 34, 3) := by decide +kernel
theorem dX3_rest_15 : decode cX3_rest 15 = .ok (.iload_n 1, 1) := by decide +kernel
theorem dX3_rest_16 : decode cX3_rest 16 = .ok (.iaload, 1) := by decide +kernel
theorem dX3_rest_17 : decode cX3_rest 17 = .ok (.goto 4, 3) := by decide +kernel
theorem dX3_rest_20 : decode cX3_rest 20 = .ok (.iconst 0, 1) := by decide +kernel
theorem dX3_rest_21 : decode cX3_rest 21 = .ok (.ireturn, 1) := by decide +kernel
theorem dX3_beginOf_0 : decode cX3_beginOf 0 = .ok (.iload_n 1, 1) := by decide +kernel
theorem dX3_beginOf_1 : decode cX3_beginOf 1 = .ok (.ifCond .lt 18, 3) := by decide +kernel
theorem dX3_beginOf_4 : decode cX3_beginOf 4 = .ok (.iload_n 1, 1) := by decide +kernel
theorem dX3_beginOf_5 : decode cX3_beginOf 5 = .ok (.bipush 32, 2) := by decide +kernel
theorem dX3_beginOf_7 : decode cX3_beginOf 7 = .ok (.if_icmp .ge 12, 3) := by decide +kernel
theorem dX3_beginOf_10 : decode cX3_beginOf 10 = .ok (.aload_n 0, 1) := by decide +kernel
theorem dX3_beginOf_11 : decode cX3_beginOf 11 = .ok (.getfield 9, 3) := by decide +kernel
theorem dX3_beginOf_14 : decode cX3_beginOf 14 = .ok (.iload_n 1, 1) := by decide +kernel
theorem dX3_beginOf_15 : decode cX3_beginOf 15 = .ok (.iaload, 1) := by decide +kernel
theorem dX3_beginOf_16 : decode cX3_beginOf 16 = .ok (.goto 4, 3) := by decide +kernel
theorem dX3_beginOf_19 : decode cX3_beginOf 19 = .ok (.iconst 0, 1) := by decide +kernel
theorem dX3_beginOf_20 : decode cX3_beginOf 20 = .ok (.ireturn, 1) := by decide +kernel
theorem dX3_leastOf_0 : decode cX3_leastOf 0 = .ok (.iload_n 1, 1) := by decide +kernel
theorem dX3_leastOf_1 : decode cX3_leastOf 1 = .ok (.ifCond .lt 18, 3) := by decide +kernel
theorem dX3_leastOf_4 : decode cX3_leastOf 4 = .ok (.iload_n 1, 1) := by decide +kernel
theorem dX3_leastOf_5 : decode cX3_leastOf 5 = .ok (.bipush 32, 2) := by decide +kernel
theorem dX3_leastOf_7 : decode cX3_leastOf 7 = .ok (.if_icmp .ge 12, 3) := by decide +kernel
theorem dX3_leastOf_10 : decode cX3_leastOf 10 = .ok (.aload_n 0, 1) := by decide +kernel
theorem dX3_leastOf_11 : decode cX3_leastOf 11 = .ok (.getfield 21, 3) := by decide +kernel
theorem dX3_leastOf_14 : decode cX3_leastOf 14 = .ok (.iload_n 1, 1) := by decide +kernel
theorem dX3_leastOf_15 : decode cX3_leastOf 15 = .ok (.iaload, 1) := by decide +kernel
theorem dX3_leastOf_16 : decode cX3_leastOf 16 = .ok (.goto 4, 3) := by decide +kernel
theorem dX3_leastOf_19 : decode cX3_leastOf 19 = .ok (.iconst (-1), 1) := by decide +kernel
theorem dX3_leastOf_20 : decode cX3_leastOf 20 = .ok (.ireturn, 1) := by decide +kernel
theorem dX3_beginnings_0 : decode cX3_beginnings 0 = .ok (.iconst 0, 1) := by decide +kernel
theorem dX3_beginnings_1 : decode cX3_beginnings 1 = .ok (.istore_n 3, 1) := by decide +kernel
theorem dX3_beginnings_2 : decode cX3_beginnings 2 = .ok (.iload_n 2, 1) := by decide +kernel
theorem dX3_beginnings_3 : decode cX3_beginnings 3 = .ok (.istore 4, 2) := by decide +kernel
theorem dX3_beginnings_5 : decode cX3_beginnings 5 = .ok (.iload 4, 2) := by decide +kernel
theorem dX3_beginnings_7 : decode cX3_beginnings 7 = .ok (.aload_n 0, 1) := by decide +kernel
theorem dX3_beginnings_8 : decode cX3_beginnings 8 = .ok (.getfield 37, 3) := by decide +kernel
theorem dX3_beginnings_11 : decode cX3_beginnings 11 = .ok (.iload_n 1, 1) := by decide +kernel
theorem dX3_beginnings_12 : decode cX3_beginnings 12 = .ok (.invokevirtual 96, 3) := by decide +kernel
theorem dX3_beginnings_15 : decode cX3_beginnings 15 = .ok (.if_icmp .ge 45, 3) := by decide +kernel
theorem dX3_beginnings_18 : decode cX3_beginnings 18 = .ok (.aload_n 0, 1) := by decide +kernel
theorem dX3_beginnings_19 : decode cX3_beginnings 19 = .ok (.aload_n 0, 1) := by decide +kernel
theorem dX3_beginnings_20 : decode cX3_beginnings 20 = .ok (.getfield 37, 3) := by decide +kernel
theorem dX3_beginnings_23 : decode cX3_beginnings 23 = .ok (.iload_n 1, 1) := by decide +kernel
theorem dX3_beginnings_24 : decode cX3_beginnings 24 = .ok (.iload 4, 2) := by decide +kernel
theorem dX3_beginnings_26 : decode cX3_beginnings 26 = .ok (.invokevirtual 101, 3) := by decide +kernel
theorem dX3_beginnings_29 : decode cX3_beginnings 29 = .ok (.invokevirtual 72, 3) := by decide +kernel
theorem dX3_beginnings_32 : decode cX3_beginnings 32 = .ok (.istore 5, 2) := by decide +kernel
theorem dX3_beginnings_34 : decode cX3_beginnings 34 = .ok (.iload_n 3, 1) := by decide +kernel
theorem dX3_beginnings_35 : decode cX3_beginnings 35 = .ok (.iload 5, 2) := by decide +kernel
theorem dX3_beginnings_37 : decode cX3_beginnings 37 = .ok (.sipush 255, 3) := by decide +kernel
theorem dX3_beginnings_40 : decode cX3_beginnings 40 = .ok (.iand, 1) := by decide +kernel
theorem dX3_beginnings_41 : decode cX3_beginnings 41 = .ok (.ior, 1) := by decide +kernel
theorem dX3_beginnings_42 : decode cX3_beginnings 42 = .ok (.istore_n 3, 1) := by decide +kernel
theorem dX3_beginnings_43 : decode cX3_beginnings 43 = .ok (.iload 5, 2) := by decide +kernel
theorem dX3_beginnings_45 : decode cX3_beginnings 45 = .ok (.sipush 512, 3) := by decide +kernel
theorem dX3_beginnings_48 : decode cX3_beginnings 48 = .ok (.iand, 1) := by decide +kernel
theorem dX3_beginnings_49 : decode cX3_beginnings 49 = .ok (.ifCond .ne 5, 3) := by decide +kernel
theorem dX3_beginnings_52 : decode cX3_beginnings 52 = .ok (.iload_n 3, 1) := by decide +kernel
theorem dX3_beginnings_53 : decode cX3_beginnings 53 = .ok (.ireturn, 1) := by decide +kernel
theorem dX3_beginnings_54 : decode cX3_beginnings 54 = .ok (.iinc 4 1, 3) := by decide +kernel
theorem dX3_beginnings_57 : decode cX3_beginnings 57 = .ok (.goto (-52), 3) := by decide +kernel
theorem dX3_beginnings_60 : decode cX3_beginnings 60 = .ok (.iload_n 3, 1) := by decide +kernel
theorem dX3_beginnings_61 : decode cX3_beginnings 61 = .ok (.sipush 512, 3) := by decide +kernel
theorem dX3_beginnings_64 : decode cX3_beginnings 64 = .ok (.ior, 1) := by decide +kernel
theorem dX3_beginnings_65 : decode cX3_beginnings 65 = .ok (.ireturn, 1) := by decide +kernel
theorem dX3_widen_0 : decode cX3_widen 0 = .ok (.iload_n 1, 1) := by decide +kernel
theorem dX3_widen_1 : decode cX3_widen 1 = .ok (.ifCond .lt 20, 3) := by decide +kernel
theorem dX3_widen_4 : decode cX3_widen 4 = .ok (.iload_n 1, 1) := by decide +kernel
theorem dX3_widen_5 : decode cX3_widen 5 = .ok (.aload_n 0, 1) := by decide +kernel
theorem dX3_widen_6 : decode cX3_widen 6 = .ok (.arraylength, 1) := by decide +kernel
theorem dX3_widen_7 : decode cX3_widen 7 = .ok (.if_icmp .ge 14, 3) := by decide +kernel
theorem dX3_widen_10 : decode cX3_widen 10 = .ok (.aload_n 0, 1) := by decide +kernel
theorem dX3_widen_11 : decode cX3_widen 11 = .ok (.iload_n 1, 1) := by decide +kernel
theorem dX3_widen_12 : decode cX3_widen 12 = .ok (.iaload, 1) := by decide +kernel
theorem dX3_widen_13 : decode cX3_widen 13 = .ok (.iload_n 2, 1) := by decide +kernel
theorem dX3_widen_14 : decode cX3_widen 14 = .ok (.ior, 1) := by decide +kernel
theorem dX3_widen_15 : decode cX3_widen 15 = .ok (.aload_n 0, 1) := by decide +kernel
theorem dX3_widen_16 : decode cX3_widen 16 = .ok (.iload_n 1, 1) := by decide +kernel
theorem dX3_widen_17 : decode cX3_widen 17 = .ok (.iaload, 1) := by decide +kernel
theorem dX3_widen_18 : decode cX3_widen 18 = .ok (.if_icmp .ne 5, 3) := by decide +kernel
theorem dX3_widen_21 : decode cX3_widen 21 = .ok (.iconst 0, 1) := by decide +kernel
theorem dX3_widen_22 : decode cX3_widen 22 = .ok (.ireturn, 1) := by decide +kernel
theorem dX3_widen_23 : decode cX3_widen 23 = .ok (.aload_n 0, 1) := by decide +kernel
theorem dX3_widen_24 : decode cX3_widen 24 = .ok (.iload_n 1, 1) := by decide +kernel
theorem dX3_widen_25 : decode cX3_widen 25 = .ok (.dup2, 1) := by decide +kernel
theorem dX3_widen_26 : decode cX3_widen 26 = .ok (.iaload, 1) := by decide +kernel
theorem dX3_widen_27 : decode cX3_widen 27 = .ok (.iload_n 2, 1) := by decide +kernel
theorem dX3_widen_28 : decode cX3_widen 28 = .ok (.ior, 1) := by decide +kernel
theorem dX3_widen_29 : decode cX3_widen 29 = .ok (.iastore, 1) := by decide +kernel
theorem dX3_widen_30 : decode cX3_widen 30 = .ok (.iconst 1, 1) := by decide +kernel
theorem dX3_widen_31 : decode cX3_widen 31 = .ok (.ireturn, 1) := by decide +kernel
theorem dX3_findBeginnings_0 : decode cX3_findBeginnings 0 = .ok (.aload_n 0, 1) := by decide +kernel
theorem dX3_findBeginnings_1 : decode cX3_findBeginnings 1 = .ok (.getfield 9, 3) := by decide +kernel
theorem dX3_findBeginnings_4 : decode cX3_findBeginnings 4 = .ok (.iconst 0, 1) := by decide +kernel
theorem dX3_findBeginnings_5 : decode cX3_findBeginnings 5 = .ok (.invokestatic 105, 3) := by decide +kernel
theorem dX3_findBeginnings_8 : decode cX3_findBeginnings 8 = .ok (.iconst 0, 1) := by decide +kernel
theorem dX3_findBeginnings_9 : decode cX3_findBeginnings 9 = .ok (.istore_n 1, 1) := by decide +kernel
theorem dX3_findBeginnings_10 : decode cX3_findBeginnings 10 = .ok (.iload_n 1, 1) := by decide +kernel
theorem dX3_findBeginnings_11 : decode cX3_findBeginnings 11 = .ok (.bipush 8, 2) := by decide +kernel
theorem dX3_findBeginnings_13 : decode cX3_findBeginnings 13 = .ok (.if_icmp .ge 18, 3) := by decide +kernel
theorem dX3_findBeginnings_16 : decode cX3_findBeginnings 16 = .ok (.aload_n 0, 1) := by decide +kernel
theorem dX3_findBeginnings_17 : decode cX3_findBeginnings 17 = .ok (.getfield 9, 3) := by decide +kernel
theorem dX3_findBeginnings_20 : decode cX3_findBeginnings 20 = .ok (.iload_n 1, 1) := by decide +kernel
theorem dX3_findBeginnings_21 : decode cX3_findBeginnings 21 = .ok (.iconst 1, 1) := by decide +kernel
theorem dX3_findBeginnings_22 : decode cX3_findBeginnings 22 = .ok (.iload_n 1, 1) := by decide +kernel
theorem dX3_findBeginnings_23 : decode cX3_findBeginnings 23 = .ok (.ishl, 1) := by decide +kernel
theorem dX3_findBeginnings_24 : decode cX3_findBeginnings 24 = .ok (.iastore, 1) := by decide +kernel
theorem dX3_findBeginnings_25 : decode cX3_findBeginnings 25 = .ok (.iinc 1 1, 3) := by decide +kernel
theorem dX3_findBeginnings_28 : decode cX3_findBeginnings 28 = .ok (.goto (-18), 3) := by decide +kernel
theorem dX3_findBeginnings_31 : decode cX3_findBeginnings 31 = .ok (.iconst 1, 1) := by decide +kernel
theorem dX3_findBeginnings_32 : decode cX3_findBeginnings 32 = .ok (.istore_n 1, 1) := by decide +kernel
theorem dX3_findBeginnings_33 : decode cX3_findBeginnings 33 = .ok (.iconst 0, 1) := by decide +kernel
theorem dX3_findBeginnings_34 : decode cX3_findBeginnings 34 = .ok (.istore_n 2, 1) := by decide +kernel
theorem dX3_findBeginnings_35 : decode cX3_findBeginnings 35 = .ok (.iload_n 2, 1) := by decide +kernel
theorem dX3_findBeginnings_36 : decode cX3_findBeginnings 36 = .ok (.ldc 111, 2) := by decide +kernel
theorem dX3_findBeginnings_38 : decode cX3_findBeginnings 38 = .ok (.if_icmp .ge 65, 3) := by decide +kernel
theorem dX3_findBeginnings_41 : decode cX3_findBeginnings 41 = .ok (.iload_n 1, 1) := by decide +kernel
theorem dX3_findBeginnings_42 : decode cX3_findBeginnings 42 = .ok (.ifCond .eq 61, 3) := by decide +kernel
theorem dX3_findBeginnings_45 : decode cX3_findBeginnings 45 = .ok (.iconst 0, 1) := by decide +kernel
theorem dX3_findBeginnings_46 : decode cX3_findBeginnings 46 = .ok (.istore_n 1, 1) := by decide +kernel
theorem dX3_findBeginnings_47 : decode cX3_findBeginnings 47 = .ok (.iconst 0, 1) := by decide +kernel
theorem dX3_findBeginnings_48 : decode cX3_findBeginnings 48 = .ok (.istore_n 3, 1) := by decide +kernel
theorem dX3_findBeginnings_49 : decode cX3_findBeginnings 49 = .ok (.iload_n 3, 1) := by decide +kernel
theorem dX3_findBeginnings_50 : decode cX3_findBeginnings 50 = .ok (.aload_n 0, 1) := by decide +kernel
theorem dX3_findBeginnings_51 : decode cX3_findBeginnings 51 = .ok (.getfield 37, 3) := by decide +kernel
theorem dX3_findBeginnings_54 : decode cX3_findBeginnings 54 = .ok (.invokevirtual 112, 3) := by decide +kernel
theorem dX3_findBeginnings_57 : decode cX3_findBeginnings 57 = .ok (.if_icmp .ge 40, 3) := by decide +kernel
theorem dX3_findBeginnings_60 : decode cX3_findBeginnings 60 = .ok (.bipush 16, 2) := by decide +kernel
theorem dX3_findBeginnings_62 : decode cX3_findBeginnings 62 = .ok (.aload_n 0, 1) := by decide +kernel
theorem dX3_findBeginnings_63 : decode cX3_findBeginnings 63 = .ok (.getfield 37, 3) := by decide +kernel
theorem dX3_findBeginnings_66 : decode cX3_findBeginnings 66 = .ok (.iload_n 3, 1) := by decide +kernel
theorem dX3_findBeginnings_67 : decode cX3_findBeginnings 67 = .ok (.invokevirtual 116, 3) := by decide +kernel
theorem dX3_findBeginnings_70 : decode cX3_findBeginnings 70 = .ok (.iadd, 1) := by decide +kernel
theorem dX3_findBeginnings_71 : decode cX3_findBeginnings 71 = .ok (.istore 4, 2) := by decide +kernel
theorem dX3_findBeginnings_73 : decode cX3_findBeginnings 73 = .ok (.iload_n 1, 1) := by decide +kernel
theorem dX3_findBeginnings_74 : decode cX3_findBeginnings 74 = .ok (.aload_n 0, 1) := by decide +kernel
theorem dX3_findBeginnings_75 : decode cX3_findBeginnings 75 = .ok (.getfield 9, 3) := by decide +kernel
theorem dX3_findBeginnings_78 : decode cX3_findBeginnings 78 = .ok (.iload 4, 2) := by decide +kernel
theorem dX3_findBeginnings_80 : decode cX3_findBeginnings 80 = .ok (.aload_n 0, 1) := by decide +kernel
theorem dX3_findBeginnings_81 : decode cX3_findBeginnings 81 = .ok (.iload_n 3, 1) := by decide +kernel
theorem dX3_findBeginnings_82 : decode cX3_findBeginnings 82 = .ok (.iconst 0, 1) := by decide +kernel
theorem dX3_findBeginnings_83 : decode cX3_findBeginnings 83 = .ok (.invokevirtual 119, 3) := by decide +kernel
theorem dX3_findBeginnings_86 : decode cX3_findBeginnings 86 = .ok (.invokestatic 122, 3) := by decide +kernel
theorem dX3_findBeginnings_89 : decode cX3_findBeginnings 89 = .ok (.ior, 1) := by decide +kernel
theorem dX3_findBeginnings_90 : decode cX3_findBeginnings 90 = .ok (.istore_n 1, 1) := by decide +kernel
theorem dX3_findBeginnings_91 : decode cX3_findBeginnings 91 = .ok (.iinc 3 1, 3) := by decide +kernel
theorem dX3_findBeginnings_94 : decode cX3_findBeginnings 94 = .ok (.goto (-45), 3) := by decide +kernel
theorem dX3_findBeginnings_97 : decode cX3_findBeginnings 97 = .ok (.iinc 2 1, 3) := by decide +kernel
theorem dX3_findBeginnings_100 : decode cX3_findBeginnings 100 = .ok (.goto (-65), 3) := by decide +kernel
theorem dX3_findBeginnings_103 : decode cX3_findBeginnings 103 = .ok (.return_, 1) := by decide +kernel
theorem dX3_findBehinds_0 : decode cX3_findBehinds 0 = .ok (.aload_n 0, 1) := by decide +kernel
theorem dX3_findBehinds_1 : decode cX3_findBehinds 1 = .ok (.getfield 15, 3) := by decide +kernel
theorem dX3_findBehinds_4 : decode cX3_findBehinds 4 = .ok (.iconst 0, 1) := by decide +kernel
theorem dX3_findBehinds_5 : decode cX3_findBehinds 5 = .ok (.invokestatic 105, 3) := by decide +kernel
theorem dX3_findBehinds_8 : decode cX3_findBehinds 8 = .ok (.aload_n 0, 1) := by decide +kernel
theorem dX3_findBehinds_9 : decode cX3_findBehinds 9 = .ok (.getfield 15, 3) := by decide +kernel
theorem dX3_findBehinds_12 : decode cX3_findBehinds 12 = .ok (.aload_n 0, 1) := by decide +kernel
theorem dX3_findBehinds_13 : decode cX3_findBehinds 13 = .ok (.getfield 37, 3) := by decide +kernel
theorem dX3_findBehinds_16 : decode cX3_findBehinds 16 = .ok (.invokevirtual 126, 3) := by decide +kernel
theorem dX3_findBehinds_19 : decode cX3_findBehinds 19 = .ok (.sipush 256, 3) := by decide +kernel
theorem dX3_findBehinds_22 : decode cX3_findBehinds 22 = .ok (.invokestatic 122, 3) := by decide +kernel
theorem dX3_findBehinds_25 : decode cX3_findBehinds 25 = .ok (.pop, 1) := by decide +kernel
theorem dX3_findBehinds_26 : decode cX3_findBehinds 26 = .ok (.iconst 1, 1) := by decide +kernel
theorem dX3_findBehinds_27 : decode cX3_findBehinds 27 = .ok (.istore_n 1, 1) := by decide +kernel
theorem dX3_findBehinds_28 : decode cX3_findBehinds 28 = .ok (.iconst 0, 1) := by decide +kernel
theorem dX3_findBehinds_29 : decode cX3_findBehinds 29 = .ok (.istore_n 2, 1) := by decide +kernel
theorem dX3_findBehinds_30 : decode cX3_findBehinds 30 = .ok (.iload_n 2, 1) := by decide +kernel
theorem dX3_findBehinds_31 : decode cX3_findBehinds 31 = .ok (.ldc 111, 2) := by decide +kernel
theorem dX3_findBehinds_33 : decode cX3_findBehinds 33 = .ok (.if_icmp .ge 42, 3) := by decide +kernel
theorem dX3_findBehinds_36 : decode cX3_findBehinds 36 = .ok (.iload_n 1, 1) := by decide +kernel
theorem dX3_findBehinds_37 : decode cX3_findBehinds 37 = .ok (.ifCond .eq 38, 3) := by decide +kernel
theorem dX3_findBehinds_40 : decode cX3_findBehinds 40 = .ok (.iconst 0, 1) := by decide +kernel
theorem dX3_findBehinds_41 : decode cX3_findBehinds 41 = .ok (.istore_n 1, 1) := by decide +kernel
theorem dX3_findBehinds_42 : decode cX3_findBehinds 42 = .ok (.iconst 0, 1) := by decide +kernel
theorem dX3_findBehinds_43 : decode cX3_findBehinds 43 = .ok (.istore_n 3, 1) := by decide +kernel
theorem dX3_findBehinds_44 : decode cX3_findBehinds 44 = .ok (.iload_n 3, 1) := by decide +kernel
theorem dX3_findBehinds_45 : decode cX3_findBehinds 45 = .ok (.aload_n 0, 1) := by decide +kernel
theorem dX3_findBehinds_46 : decode cX3_findBehinds 46 = .ok (.getfield 37, 3) := by decide +kernel
theorem dX3_findBehinds_49 : decode cX3_findBehinds 49 = .ok (.invokevirtual 112, 3) := by decide +kernel
theorem dX3_findBehinds_52 : decode cX3_findBehinds 52 = .ok (.if_icmp .ge 17, 3) := by decide +kernel
theorem dX3_findBehinds_55 : decode cX3_findBehinds 55 = .ok (.iload_n 1, 1) := by decide +kernel
theorem dX3_findBehinds_56 : decode cX3_findBehinds 56 = .ok (.aload_n 0, 1) := by decide +kernel
theorem dX3_findBehinds_57 : decode cX3_findBehinds 57 = .ok (.iload_n 3, 1) := by decide +kernel
theorem dX3_findBehinds_58 : decode cX3_findBehinds 58 = .ok (.invokevirtual 129, 3) := by decide +kernel
theorem dX3_findBehinds_61 : decode cX3_findBehinds 61 = .ok (.ior, 1) := by decide +kernel
theorem dX3_findBehinds_62 : decode cX3_findBehinds 62 = .ok (.istore_n 1, 1) := by decide +kernel
theorem dX3_findBehinds_63 : decode cX3_findBehinds 63 = .ok (.iinc 3 1, 3) := by decide +kernel
theorem dX3_findBehinds_66 : decode cX3_findBehinds 66 = .ok (.goto (-22), 3) := by decide +kernel
theorem dX3_findBehinds_69 : decode cX3_findBehinds 69 = .ok (.iinc 2 1, 3) := by decide +kernel
theorem dX3_findBehinds_72 : decode cX3_findBehinds 72 = .ok (.goto (-42), 3) := by decide +kernel
theorem dX3_findBehinds_75 : decode cX3_findBehinds 75 = .ok (.return_, 1) := by decide +kernel
theorem dX3_widenBehinds_0 : decode cX3_widenBehinds 0 = .ok (.iconst 0, 1) := by decide +kernel
theorem dX3_widenBehinds_1 : decode cX3_widenBehinds 1 = .ok (.istore_n 2, 1) := by decide +kernel
theorem dX3_widenBehinds_2 : decode cX3_widenBehinds 2 = .ok (.iconst 0, 1) := by decide +kernel
theorem dX3_widenBehinds_3 : decode cX3_widenBehinds 3 = .ok (.istore_n 3, 1) := by decide +kernel
theorem dX3_widenBehinds_4 : decode cX3_widenBehinds 4 = .ok (.iload_n 3, 1) := by decide +kernel
theorem dX3_widenBehinds_5 : decode cX3_widenBehinds 5 = .ok (.aload_n 0, 1) := by decide +kernel
theorem dX3_widenBehinds_6 : decode cX3_widenBehinds 6 = .ok (.getfield 37, 3) := by decide +kernel
theorem dX3_widenBehinds_9 : decode cX3_widenBehinds 9 = .ok (.iload_n 1, 1) := by decide +kernel
theorem dX3_widenBehinds_10 : decode cX3_widenBehinds 10 = .ok (.invokevirtual 96, 3) := by decide +kernel
theorem dX3_widenBehinds_13 : decode cX3_widenBehinds 13 = .ok (.if_icmp .ge 74, 3) := by decide +kernel
theorem dX3_widenBehinds_16 : decode cX3_widenBehinds 16 = .ok (.aload_n 0, 1) := by decide +kernel
theorem dX3_widenBehinds_17 : decode cX3_widenBehinds 17 = .ok (.getfield 37, 3) := by decide +kernel
theorem dX3_widenBehinds_20 : decode cX3_widenBehinds 20 = .ok (.iload_n 1, 1) := by decide +kernel
theorem dX3_widenBehinds_21 : decode cX3_widenBehinds 21 = .ok (.iload_n 3, 1) := by decide +kernel
theorem dX3_widenBehinds_22 : decode cX3_widenBehinds 22 = .ok (.invokevirtual 101, 3) := by decide +kernel
theorem dX3_widenBehinds_25 : decode cX3_widenBehinds 25 = .ok (.istore 4, 2) := by decide +kernel
theorem dX3_widenBehinds_27 : decode cX3_widenBehinds 27 = .ok (.iload 4, 2) := by decide +kernel
theorem dX3_widenBehinds_29 : decode cX3_widenBehinds 29 = .ok (.invokestatic 133, 3) := by decide +kernel
theorem dX3_widenBehinds_32 : decode cX3_widenBehinds 32 = .ok (.ifCond .eq 49, 3) := by decide +kernel
theorem dX3_widenBehinds_35 : decode cX3_widenBehinds 35 = .ok (.aload_n 0, 1) := by decide +kernel
theorem dX3_widenBehinds_36 : decode cX3_widenBehinds 36 = .ok (.iload_n 1, 1) := by decide +kernel
theorem dX3_widenBehinds_37 : decode cX3_widenBehinds 37 = .ok (.iload_n 3, 1) := by decide +kernel
theorem dX3_widenBehinds_38 : decode cX3_widenBehinds 38 = .ok (.iconst 1, 1) := by decide +kernel
theorem dX3_widenBehinds_39 : decode cX3_widenBehinds 39 = .ok (.iadd, 1) := by decide +kernel
theorem dX3_widenBehinds_40 : decode cX3_widenBehinds 40 = .ok (.invokevirtual 119, 3) := by decide +kernel
theorem dX3_widenBehinds_43 : decode cX3_widenBehinds 43 = .ok (.istore 5, 2) := by decide +kernel
theorem dX3_widenBehinds_45 : decode cX3_widenBehinds 45 = .ok (.iload 5, 2) := by decide +kernel
theorem dX3_widenBehinds_47 : decode cX3_widenBehinds 47 = .ok (.aload_n 0, 1) := by decide +kernel
theorem dX3_widenBehinds_48 : decode cX3_widenBehinds 48 = .ok (.aload_n 0, 1) := by decide +kernel
theorem dX3_widenBehinds_49 : decode cX3_widenBehinds 49 = .ok (.getfield 37, 3) := by decide +kernel
theorem dX3_widenBehinds_52 : decode cX3_widenBehinds 52 = .ok (.iload_n 1, 1) := by decide +kernel
theorem dX3_widenBehinds_53 : decode cX3_widenBehinds 53 = .ok (.invokevirtual 116, 3) := by decide +kernel
theorem dX3_widenBehinds_56 : decode cX3_widenBehinds 56 = .ok (.invokevirtual 136, 3) := by decide +kernel
theorem dX3_widenBehinds_59 : decode cX3_widenBehinds 59 = .ok (.invokestatic 139, 3) := by decide +kernel
theorem dX3_widenBehinds_62 : decode cX3_widenBehinds 62 = .ok (.istore 6, 2) := by decide +kernel
theorem dX3_widenBehinds_64 : decode cX3_widenBehinds 64 = .ok (.iload_n 2, 1) := by decide +kernel
theorem dX3_widenBehinds_65 : decode cX3_widenBehinds 65 = .ok (.aload_n 0, 1) := by decide +kernel
theorem dX3_widenBehinds_66 : decode cX3_widenBehinds 66 = .ok (.getfield 15, 3) := by decide +kernel
theorem dX3_widenBehinds_69 : decode cX3_widenBehinds 69 = .ok (.iload 4, 2) := by decide +kernel
theorem dX3_widenBehinds_71 : decode cX3_widenBehinds 71 = .ok (.bipush 16, 2) := by decide +kernel
theorem dX3_widenBehinds_73 : decode cX3_widenBehinds 73 = .ok (.isub, 1) := by decide +kernel
theorem dX3_widenBehinds_74 : decode cX3_widenBehinds 74 = .ok (.iload 6, 2) := by decide +kernel
theorem dX3_widenBehinds_76 : decode cX3_widenBehinds 76 = .ok (.invokestatic 122, 3) := by decide +kernel
theorem dX3_widenBehinds_79 : decode cX3_widenBehinds 79 = .ok (.ior, 1) := by decide +kernel
theorem dX3_widenBehinds_80 : decode cX3_widenBehinds 80 = .ok (.istore_n 2, 1) := by decide +kernel
theorem dX3_widenBehinds_81 : decode cX3_widenBehinds 81 = .ok (.iinc 3 1, 3) := by decide +kernel
theorem dX3_widenBehinds_84 : decode cX3_widenBehinds 84 = .ok (.goto (-80), 3) := by decide +kernel
theorem dX3_widenBehinds_87 : decode cX3_widenBehinds 87 = .ok (.iload_n 2, 1) := by decide +kernel
theorem dX3_widenBehinds_88 : decode cX3_widenBehinds 88 = .ok (.ireturn, 1) := by decide +kernel
theorem dX3_findReached_0 : decode cX3_findReached 0 = .ok (.aload_n 0, 1) := by decide +kernel
theorem dX3_findReached_1 : decode cX3_findReached 1 = .ok (.getfield 28, 3) := by decide +kernel
theorem dX3_findReached_4 : decode cX3_findReached 4 = .ok (.iconst 0, 1) := by decide +kernel
theorem dX3_findReached_5 : decode cX3_findReached 5 = .ok (.invokestatic 105, 3) := by decide +kernel
theorem dX3_findReached_8 : decode cX3_findReached 8 = .ok (.iconst 0, 1) := by decide +kernel
theorem dX3_findReached_9 : decode cX3_findReached 9 = .ok (.istore_n 1, 1) := by decide +kernel
theorem dX3_findReached_10 : decode cX3_findReached 10 = .ok (.iload_n 1, 1) := by decide +kernel
theorem dX3_findReached_11 : decode cX3_findReached 11 = .ok (.aload_n 0, 1) := by decide +kernel
theorem dX3_findReached_12 : decode cX3_findReached 12 = .ok (.getfield 37, 3) := by decide +kernel
theorem dX3_findReached_15 : decode cX3_findReached 15 = .ok (.invokevirtual 112, 3) := by decide +kernel
theorem dX3_findReached_18 : decode cX3_findReached 18 = .ok (.if_icmp .ge 35, 3) := by decide +kernel
theorem dX3_findReached_21 : decode cX3_findReached 21 = .ok (.iconst 0, 1) := by decide +kernel
theorem dX3_findReached_22 : decode cX3_findReached 22 = .ok (.istore_n 2, 1) := by decide +kernel
theorem dX3_findReached_23 : decode cX3_findReached 23 = .ok (.iload_n 2, 1) := by decide +kernel
theorem dX3_findReached_24 : decode cX3_findReached 24 = .ok (.aload_n 0, 1) := by decide +kernel
theorem dX3_findReached_25 : decode cX3_findReached 25 = .ok (.getfield 37, 3) := by decide +kernel
theorem dX3_findReached_28 : decode cX3_findReached 28 = .ok (.iload_n 1, 1) := by decide +kernel
theorem dX3_findReached_29 : decode cX3_findReached 29 = .ok (.invokevirtual 96, 3) := by decide +kernel
theorem dX3_findReached_32 : decode cX3_findReached 32 = .ok (.if_icmp .ge 15, 3) := by decide +kernel
theorem dX3_findReached_35 : decode cX3_findReached 35 = .ok (.aload_n 0, 1) := by decide +kernel
theorem dX3_findReached_36 : decode cX3_findReached 36 = .ok (.iload_n 1, 1) := by decide +kernel
theorem dX3_findReached_37 : decode cX3_findReached 37 = .ok (.iload_n 2, 1) := by decide +kernel
theorem dX3_findReached_38 : decode cX3_findReached 38 = .ok (.invokevirtual 142, 3) := by decide +kernel
theorem dX3_findReached_41 : decode cX3_findReached 41 = .ok (.iinc 2 1, 3) := by decide +kernel
theorem dX3_findReached_44 : decode cX3_findReached 44 = .ok (.goto (-21), 3) := by decide +kernel
theorem dX3_findReached_47 : decode cX3_findReached 47 = .ok (.iinc 1 1, 3) := by decide +kernel
theorem dX3_findReached_50 : decode cX3_findReached 50 = .ok (.goto (-40), 3) := by decide +kernel
theorem dX3_findReached_53 : decode cX3_findReached 53 = .ok (.aload_n 0, 1) := by decide +kernel
theorem dX3_findReached_54 : decode cX3_findReached 54 = .ok (.invokevirtual 146, 3) := by decide +kernel
theorem dX3_findReached_57 : decode cX3_findReached 57 = .ok (.aload_n 0, 1) := by decide +kernel
theorem dX3_findReached_58 : decode cX3_findReached 58 = .ok (.getfield 37, 3) := by decide +kernel
theorem dX3_findReached_61 : decode cX3_findReached 61 = .ok (.invokevirtual 126, 3) := by decide +kernel
theorem dX3_findReached_64 : decode cX3_findReached 64 = .ok (.istore_n 1, 1) := by decide +kernel
theorem dX3_findReached_65 : decode cX3_findReached 65 = .ok (.aload_n 0, 1) := by decide +kernel
theorem dX3_findReached_66 : decode cX3_findReached 66 = .ok (.iconst 1, 1) := by decide +kernel
theorem dX3_findReached_67 : decode cX3_findReached 67 = .ok (.iload_n 1, 1) := by decide +kernel
theorem dX3_findReached_68 : decode cX3_findReached 68 = .ok (.ishl, 1) := by decide +kernel
theorem dX3_findReached_69 : decode cX3_findReached 69 = .ok (.putfield 79, 3) := by decide +kernel
theorem dX3_findReached_72 : decode cX3_findReached 72 = .ok (.iload_n 1, 1) := by decide +kernel
theorem dX3_findReached_73 : decode cX3_findReached 73 = .ok (.ifCond .lt 24, 3) := by decide +kernel
theorem dX3_findReached_76 : decode cX3_findReached 76 = .ok (.iload_n 1, 1) := by decide +kernel
theorem dX3_findReached_77 : decode cX3_findReached 77 = .ok (.bipush 16, 2) := by decide +kernel
theorem dX3_findReached_79 : decode cX3_findReached 79 = .ok (.if_icmp .ge 18, 3) := by decide +kernel
theorem dX3_findReached_82 : decode cX3_findReached 82 = .ok (.aload_n 0, 1) := by decide +kernel
theorem dX3_findReached_83 : decode cX3_findReached 83 = .ok (.dup, 1) := by decide +kernel
theorem dX3_findReached_84 : decode cX3_findReached 84 = .ok (.getfield 79, 3) := by decide +kernel
theorem dX3_findReached_87 : decode cX3_findReached 87 = .ok (.aload_n 0, 1) := by decide +kernel
theorem dX3_findReached_88 : decode cX3_findReached 88 = .ok (.getfield 28, 3) := by decide +kernel
theorem dX3_findReached_91 : decode cX3_findReached 91 = .ok (.iload_n 1, 1) := by decide +kernel
theorem dX3_findReached_92 : decode cX3_findReached 92 = .ok (.iaload, 1) := by decide +kernel
theorem dX3_findReached_93 : decode cX3_findReached 93 = .ok (.ior, 1) := by decide +kernel
theorem dX3_findReached_94 : decode cX3_findReached 94 = .ok (.putfield 79, 3) := by decide +kernel
theorem dX3_findReached_97 : decode cX3_findReached 97 = .ok (.return_, 1) := by decide +kernel
theorem dX3_findLeftRecursive_0 : decode cX3_findLeftRecursive 0 = .ok (.aload_n 0, 1) := by decide +kernel
theorem dX3_findLeftRecursive_1 : decode cX3_findLeftRecursive 1 = .ok (.getfield 28, 3) := by decide +kernel
theorem dX3_findLeftRecursive_4 : decode cX3_findLeftRecursive 4 = .ok (.iconst 0, 1) := by decide +kernel
theorem dX3_findLeftRecursive_5 : decode cX3_findLeftRecursive 5 = .ok (.invokestatic 105, 3) := by decide +kernel
theorem dX3_findLeftRecursive_8 : decode cX3_findLeftRecursive 8 = .ok (.iconst 0, 1) := by decide +kernel
theorem dX3_findLeftRecursive_9 : decode cX3_findLeftRecursive 9 = .ok (.istore_n 1, 1) := by decide +kernel
theorem dX3_findLeftRecursive_10 : decode cX3_findLeftRecursive 10 = .ok (.iload_n 1, 1) := by decide +kernel
theorem dX3_findLeftRecursive_11 : decode cX3_findLeftRecursive 11 = .ok (.aload_n 0, 1) := by decide +kernel
theorem dX3_findLeftRecursive_12 : decode cX3_findLeftRecursive 12 = .ok (.getfield 37, 3) := by decide +kernel
theorem dX3_findLeftRecursive_15 : decode cX3_findLeftRecursive 15 = .ok (.invokevirtual 112, 3) := by decide +kernel
theorem dX3_findLeftRecursive_18 : decode cX3_findLeftRecursive 18 = .ok (.if_icmp .ge 67, 3) := by decide +kernel
theorem dX3_findLeftRecursive_21 : decode cX3_findLeftRecursive 21 = .ok (.iconst 1, 1) := by decide +kernel
theorem dX3_findLeftRecursive_22 : decode cX3_findLeftRecursive 22 = .ok (.istore_n 2, 1) := by decide +kernel
theorem dX3_findLeftRecursive_23 : decode cX3_findLeftRecursive 23 = .ok (.iconst 0, 1) := by decide +kernel
theorem dX3_findLeftRecursive_24 : decode cX3_findLeftRecursive 24 = .ok (.istore_n 3, 1) := by decide +kernel
theorem dX3_findLeftRecursive_25 : decode cX3_findLeftRecursive 25 = .ok (.iload_n 3, 1) := by decide +kernel
theorem dX3_findLeftRecursive_26 : decode cX3_findLeftRecursive 26 = .ok (.aload_n 0, 1) := by decide +kernel
theorem dX3_findLeftRecursive_27 : decode cX3_findLeftRecursive 27 = .ok (.getfield 37, 3) := by decide +kernel
theorem dX3_findLeftRecursive_30 : decode cX3_findLeftRecursive 30 = .ok (.iload_n 1, 1) := by decide +kernel
theorem dX3_findLeftRecursive_31 : decode cX3_findLeftRecursive 31 = .ok (.invokevirtual 96, 3) := by decide +kernel
theorem dX3_findLeftRecursive_34 : decode cX3_findLeftRecursive 34 = .ok (.if_icmp .ge 45, 3) := by decide +kernel
theorem dX3_findLeftRecursive_37 : decode cX3_findLeftRecursive 37 = .ok (.iload_n 2, 1) := by decide +kernel
theorem dX3_findLeftRecursive_38 : decode cX3_findLeftRecursive 38 = .ok (.ifCond .eq 41, 3) := by decide +kernel
theorem dX3_findLeftRecursive_41 : decode cX3_findLeftRecursive 41 = .ok (.aload_n 0, 1) := by decide +kernel
theorem dX3_findLeftRecursive_42 : decode cX3_findLeftRecursive 42 = .ok (.iload_n 1, 1) := by decide +kernel
theorem dX3_findLeftRecursive_43 : decode cX3_findLeftRecursive 43 = .ok (.iload_n 3, 1) := by decide +kernel
theorem dX3_findLeftRecursive_44 : decode cX3_findLeftRecursive 44 = .ok (.invokevirtual 142, 3) := by decide +kernel
theorem dX3_findLeftRecursive_47 : decode cX3_findLeftRecursive 47 = .ok (.aload_n 0, 1) := by decide +kernel
theorem dX3_findLeftRecursive_48 : decode cX3_findLeftRecursive 48 = .ok (.aload_n 0, 1) := by decide +kernel
theorem dX3_findLeftRecursive_49 : decode cX3_findLeftRecursive 49 = .ok (.getfield 37, 3) := by decide +kernel
theorem dX3_findLeftRecursive_52 : decode cX3_findLeftRecursive 52 = .ok (.iload_n 1, 1) := by decide +kernel
theorem dX3_findLeftRecursive_53 : decode cX3_findLeftRecursive 53 = .ok (.iload_n 3, 1) := by decide +kernel
theorem dX3_findLeftRecursive_54 : decode cX3_findLeftRecursive 54 = .ok (.invokevirtual 101, 3) := by decide +kernel
theorem dX3_findLeftRecursive_57 : decode cX3_findLeftRecursive 57 = .ok (.invokevirtual 72, 3) := by decide +kernel
theorem dX3_findLeftRecursive_60 : decode cX3_findLeftRecursive 60 = .ok (.sipush 512, 3) := by decide +kernel
theorem dX3_findLeftRecursive_63 : decode cX3_findLeftRecursive 63 = .ok (.iand, 1) := by decide +kernel
theorem dX3_findLeftRecursive_64 : decode cX3_findLeftRecursive 64 = .ok (.ifCond .eq 7, 3) := by decide +kernel
theorem dX3_findLeftRecursive_67 : decode cX3_findLeftRecursive 67 = .ok (.iconst 1, 1) := by decide +kernel
theorem dX3_findLeftRecursive_68 : decode cX3_findLeftRecursive 68 = .ok (.goto 4, 3) := by decide +kernel
theorem dX3_findLeftRecursive_71 : decode cX3_findLeftRecursive 71 = .ok (.iconst 0, 1) := by decide +kernel
theorem dX3_findLeftRecursive_72 : decode cX3_findLeftRecursive 72 = .ok (.istore_n 2, 1) := by decide +kernel
theorem dX3_findLeftRecursive_73 : decode cX3_findLeftRecursive 73 = .ok (.iinc 3 1, 3) := by decide +kernel
theorem dX3_findLeftRecursive_76 : decode cX3_findLeftRecursive 76 = .ok (.goto (-51), 3) := by decide +kernel
theorem dX3_findLeftRecursive_79 : decode cX3_findLeftRecursive 79 = .ok (.iinc 1 1, 3) := by decide +kernel
theorem dX3_findLeftRecursive_82 : decode cX3_findLeftRecursive 82 = .ok (.goto (-72), 3) := by decide +kernel
theorem dX3_findLeftRecursive_85 : decode cX3_findLeftRecursive 85 = .ok (.aload_n 0, 1) := by decide +kernel
theorem dX3_findLeftRecursive_86 : decode cX3_findLeftRecursive 86 = .ok (.invokevirtual 146, 3) := by decide +kernel
theorem dX3_findLeftRecursive_89 : decode cX3_findLeftRecursive 89 = .ok (.aload_n 0, 1) := by decide +kernel
theorem dX3_findLeftRecursive_90 : decode cX3_findLeftRecursive 90 = .ok (.aload_n 0, 1) := by decide +kernel
theorem dX3_findLeftRecursive_91 : decode cX3_findLeftRecursive 91 = .ok (.invokevirtual 149, 3) := by decide +kernel
theorem dX3_findLeftRecursive_94 : decode cX3_findLeftRecursive 94 = .ok (.putfield 87, 3) := by decide +kernel
theorem dX3_findLeftRecursive_97 : decode cX3_findLeftRecursive 97 = .ok (.return_, 1) := by decide +kernel
theorem dX3_findCircular_0 : decode cX3_findCircular 0 = .ok (.aload_n 0, 1) := by decide +kernel
theorem dX3_findCircular_1 : decode cX3_findCircular 1 = .ok (.getfield 28, 3) := by decide +kernel
theorem dX3_findCircular_4 : decode cX3_findCircular 4 = .ok (.iconst 0, 1) := by decide +kernel
theorem dX3_findCircular_5 : decode cX3_findCircular 5 = .ok (.invokestatic 105, 3) := by decide +kernel
theorem dX3_findCircular_8 : decode cX3_findCircular 8 = .ok (.iconst 0, 1) := by decide +kernel
theorem dX3_findCircular_9 : decode cX3_findCircular 9 = .ok (.istore_n 1, 1) := by decide +kernel
theorem dX3_findCircular_10 : decode cX3_findCircular 10 = .ok (.iload_n 1, 1) := by decide +kernel
theorem dX3_findCircular_11 : decode cX3_findCircular 11 = .ok (.aload_n 0, 1) := by decide +kernel
theorem dX3_findCircular_12 : decode cX3_findCircular 12 = .ok (.getfield 37, 3) := by decide +kernel
theorem dX3_findCircular_15 : decode cX3_findCircular 15 = .ok (.invokevirtual 112, 3) := by decide +kernel
theorem dX3_findCircular_18 : decode cX3_findCircular 18 = .ok (.if_icmp .ge 82, 3) := by decide +kernel
theorem dX3_findCircular_21 : decode cX3_findCircular 21 = .ok (.iconst 1, 1) := by decide +kernel
theorem dX3_findCircular_22 : decode cX3_findCircular 22 = .ok (.istore_n 2, 1) := by decide +kernel
theorem dX3_findCircular_23 : decode cX3_findCircular 23 = .ok (.iconst 0, 1) := by decide +kernel
theorem dX3_findCircular_24 : decode cX3_findCircular 24 = .ok (.istore_n 3, 1) := by decide +kernel
theorem dX3_findCircular_25 : decode cX3_findCircular 25 = .ok (.iload_n 3, 1) := by decide +kernel
theorem dX3_findCircular_26 : decode cX3_findCircular 26 = .ok (.aload_n 0, 1) := by decide +kernel
theorem dX3_findCircular_27 : decode cX3_findCircular 27 = .ok (.getfield 37, 3) := by decide +kernel
theorem dX3_findCircular_30 : decode cX3_findCircular 30 = .ok (.iload_n 1, 1) := by decide +kernel
theorem dX3_findCircular_31 : decode cX3_findCircular 31 = .ok (.invokevirtual 96, 3) := by decide +kernel
theorem dX3_findCircular_34 : decode cX3_findCircular 34 = .ok (.if_icmp .ge 60, 3) := by decide +kernel
theorem dX3_findCircular_37 : decode cX3_findCircular 37 = .ok (.iload_n 2, 1) := by decide +kernel
theorem dX3_findCircular_38 : decode cX3_findCircular 38 = .ok (.ifCond .eq 56, 3) := by decide +kernel
theorem dX3_findCircular_41 : decode cX3_findCircular 41 = .ok (.aload_n 0, 1) := by decide +kernel
theorem dX3_findCircular_42 : decode cX3_findCircular 42 = .ok (.iload_n 1, 1) := by decide +kernel
theorem dX3_findCircular_43 : decode cX3_findCircular 43 = .ok (.iload_n 3, 1) := by decide +kernel
theorem dX3_findCircular_44 : decode cX3_findCircular 44 = .ok (.iconst 1, 1) := by decide +kernel
theorem dX3_findCircular_45 : decode cX3_findCircular 45 = .ok (.iadd, 1) := by decide +kernel
theorem dX3_findCircular_46 : decode cX3_findCircular 46 = .ok (.invokevirtual 119, 3) := by decide +kernel
theorem dX3_findCircular_49 : decode cX3_findCircular 49 = .ok (.sipush 512, 3) := by decide +kernel
theorem dX3_findCircular_52 : decode cX3_findCircular 52 = .ok (.iand, 1) := by decide +kernel
theorem dX3_findCircular_53 : decode cX3_findCircular 53 = .ok (.ifCond .eq 9, 3) := by decide +kernel
theorem dX3_findCircular_56 : decode cX3_findCircular 56 = .ok (.aload_n 0, 1) := by decide +kernel
theorem dX3_findCircular_57 : decode cX3_findCircular 57 = .ok (.iload_n 1, 1) := by decide +kernel
theorem dX3_findCircular_58 : decode cX3_findCircular 58 = .ok (.iload_n 3, 1) := by decide +kernel
theorem dX3_findCircular_59 : decode cX3_findCircular 59 = .ok (.invokevirtual 142, 3) := by decide +kernel
theorem dX3_findCircular_62 : decode cX3_findCircular 62 = .ok (.aload_n 0, 1) := by decide +kernel
theorem dX3_findCircular_63 : decode cX3_findCircular 63 = .ok (.aload_n 0, 1) := by decide +kernel
theorem dX3_findCircular_64 : decode cX3_findCircular 64 = .ok (.getfield 37, 3) := by decide +kernel
theorem dX3_findCircular_67 : decode cX3_findCircular 67 = .ok (.iload_n 1, 1) := by decide +kernel
theorem dX3_findCircular_68 : decode cX3_findCircular 68 = .ok (.iload_n 3, 1) := by decide +kernel
theorem dX3_findCircular_69 : decode cX3_findCircular 69 = .ok (.invokevirtual 101, 3) := by decide +kernel
theorem dX3_findCircular_72 : decode cX3_findCircular 72 = .ok (.invokevirtual 72, 3) := by decide +kernel
theorem dX3_findCircular_75 : decode cX3_findCircular 75 = .ok (.sipush 512, 3) := by decide +kernel
theorem dX3_findCircular_78 : decode cX3_findCircular 78 = .ok (.iand, 1) := by decide +kernel
theorem dX3_findCircular_79 : decode cX3_findCircular 79 = .ok (.ifCond .eq 7, 3) := by decide +kernel
theorem dX3_findCircular_82 : decode cX3_findCircular 82 = .ok (.iconst 1, 1) := by decide +kernel
theorem dX3_findCircular_83 : decode cX3_findCircular 83 = .ok (.goto 4, 3) := by decide +kernel
theorem dX3_findCircular_86 : decode cX3_findCircular 86 = .ok (.iconst 0, 1) := by decide +kernel
theorem dX3_findCircular_87 : decode cX3_findCircular 87 = .ok (.istore_n 2, 1) := by decide +kernel
theorem dX3_findCircular_88 : decode cX3_findCircular 88 = .ok (.iinc 3 1, 3) := by decide +kernel
theorem dX3_findCircular_91 : decode cX3_findCircular 91 = .ok (.goto (-66), 3) := by decide +kernel
theorem dX3_findCircular_94 : decode cX3_findCircular 94 = .ok (.iinc 1 1, 3) := by decide +kernel
theorem dX3_findCircular_97 : decode cX3_findCircular 97 = .ok (.goto (-87), 3) := by decide +kernel
theorem dX3_findCircular_100 : decode cX3_findCircular 100 = .ok (.aload_n 0, 1) := by decide +kernel
theorem dX3_findCircular_101 : decode cX3_findCircular 101 = .ok (.invokevirtual 146, 3) := by decide +kernel
theorem dX3_findCircular_104 : decode cX3_findCircular 104 = .ok (.aload_n 0, 1) := by decide +kernel
theorem dX3_findCircular_105 : decode cX3_findCircular 105 = .ok (.aload_n 0, 1) := by decide +kernel
theorem dX3_findCircular_106 : decode cX3_findCircular 106 = .ok (.invokevirtual 149, 3) := by decide +kernel
theorem dX3_findCircular_109 : decode cX3_findCircular 109 = .ok (.putfield 90, 3) := by decide +kernel
theorem dX3_findCircular_112 : decode cX3_findCircular 112 = .ok (.return_, 1) := by decide +kernel
theorem dX3_relate_0 : decode cX3_relate 0 = .ok (.aload_n 0, 1) := by decide +kernel
theorem dX3_relate_1 : decode cX3_relate 1 = .ok (.getfield 37, 3) := by decide +kernel
theorem dX3_relate_4 : decode cX3_relate 4 = .ok (.iload_n 1, 1) := by decide +kernel
theorem dX3_relate_5 : decode cX3_relate 5 = .ok (.iload_n 2, 1) := by decide +kernel
theorem dX3_relate_6 : decode cX3_relate 6 = .ok (.invokevirtual 101, 3) := by decide +kernel
theorem dX3_relate_9 : decode cX3_relate 9 = .ok (.istore_n 3, 1) := by decide +kernel
theorem dX3_relate_10 : decode cX3_relate 10 = .ok (.iload_n 3, 1) := by decide +kernel
theorem dX3_relate_11 : decode cX3_relate 11 = .ok (.invokestatic 133, 3) := by decide +kernel
theorem dX3_relate_14 : decode cX3_relate 14 = .ok (.ifCond .eq 25, 3) := by decide +kernel
theorem dX3_relate_17 : decode cX3_relate 17 = .ok (.aload_n 0, 1) := by decide +kernel
theorem dX3_relate_18 : decode cX3_relate 18 = .ok (.getfield 28, 3) := by decide +kernel
theorem dX3_relate_21 : decode cX3_relate 21 = .ok (.aload_n 0, 1) := by decide +kernel
theorem dX3_relate_22 : decode cX3_relate 22 = .ok (.getfield 37, 3) := by decide +kernel
theorem dX3_relate_25 : decode cX3_relate 25 = .ok (.iload_n 1, 1) := by decide +kernel
theorem dX3_relate_26 : decode cX3_relate 26 = .ok (.invokevirtual 116, 3) := by decide +kernel
theorem dX3_relate_29 : decode cX3_relate 29 = .ok (.iconst 1, 1) := by decide +kernel
theorem dX3_relate_30 : decode cX3_relate 30 = .ok (.iload_n 3, 1) := by decide +kernel
theorem dX3_relate_31 : decode cX3_relate 31 = .ok (.bipush 16, 2) := by decide +kernel
theorem dX3_relate_33 : decode cX3_relate 33 = .ok (.isub, 1) := by decide +kernel
theorem dX3_relate_34 : decode cX3_relate 34 = .ok (.ishl, 1) := by decide +kernel
theorem dX3_relate_35 : decode cX3_relate 35 = .ok (.invokestatic 122, 3) := by decide +kernel
theorem dX3_relate_38 : decode cX3_relate 38 = .ok (.pop, 1) := by decide +kernel
theorem dX3_relate_39 : decode cX3_relate 39 = .ok (.return_, 1) := by decide +kernel
theorem dX3_closeRelation_0 : decode cX3_closeRelation 0 = .ok (.iconst 0, 1) := by decide +kernel
theorem dX3_closeRelation_1 : decode cX3_closeRelation 1 = .ok (.istore_n 1, 1) := by decide +kernel
theorem dX3_closeRelation_2 : decode cX3_closeRelation 2 = .ok (.iload_n 1, 1) := by decide +kernel
theorem dX3_closeRelation_3 : decode cX3_closeRelation 3 = .ok (.bipush 16, 2) := by decide +kernel
theorem dX3_closeRelation_5 : decode cX3_closeRelation 5 = .ok (.if_icmp .ge 51, 3) := by decide +kernel
theorem dX3_closeRelation_8 : decode cX3_closeRelation 8 = .ok (.iconst 0, 1) := by decide +kernel
theorem dX3_closeRelation_9 : decode cX3_closeRelation 9 = .ok (.istore_n 2, 1) := by decide +kernel
theorem dX3_closeRelation_10 : decode cX3_closeRelation 10 = .ok (.iload_n 2, 1) := by decide +kernel
theorem dX3_closeRelation_11 : decode cX3_closeRelation 11 = .ok (.bipush 16, 2) := by decide +kernel
theorem dX3_closeRelation_13 : decode cX3_closeRelation 13 = .ok (.if_icmp .ge 37, 3) := by decide +kernel
theorem dX3_closeRelation_16 : decode cX3_closeRelation 16 = .ok (.aload_n 0, 1) := by decide +kernel
theorem dX3_closeRelation_17 : decode cX3_closeRelation 17 = .ok (.getfield 28, 3) := by decide +kernel
theorem dX3_closeRelation_20 : decode cX3_closeRelation 20 = .ok (.iload_n 2, 1) := by decide +kernel
theorem dX3_closeRelation_21 : decode cX3_closeRelation 21 = .ok (.iaload, 1) := by decide +kernel
theorem dX3_closeRelation_22 : decode cX3_closeRelation 22 = .ok (.iload_n 1, 1) := by decide +kernel
theorem dX3_closeRelation_23 : decode cX3_closeRelation 23 = .ok (.invokestatic 83, 3) := by decide +kernel
theorem dX3_closeRelation_26 : decode cX3_closeRelation 26 = .ok (.ifCond .eq 18, 3) := by decide +kernel
theorem dX3_closeRelation_29 : decode cX3_closeRelation 29 = .ok (.aload_n 0, 1) := by decide +kernel
theorem dX3_closeRelation_30 : decode cX3_closeRelation 30 = .ok (.getfield 28, 3) := by decide +kernel
theorem dX3_closeRelation_33 : decode cX3_closeRelation 33 = .ok (.iload_n 2, 1) := by decide +kernel
theorem dX3_closeRelation_34 : decode cX3_closeRelation 34 = .ok (.dup2, 1) := by decide +kernel
theorem dX3_closeRelation_35 : decode cX3_closeRelation 35 = .ok (.iaload, 1) := by decide +kernel
theorem dX3_closeRelation_36 : decode cX3_closeRelation 36 = .ok (.aload_n 0, 1) := by decide +kernel
theorem dX3_closeRelation_37 : decode cX3_closeRelation 37 = .ok (.getfield 28, 3) := by decide +kernel
theorem dX3_closeRelation_40 : decode cX3_closeRelation 40 = .ok (.iload_n 1, 1) := by decide +kernel
theorem dX3_closeRelation_41 : decode cX3_closeRelation 41 = .ok (.iaload, 1) := by decide +kernel
theorem dX3_closeRelation_42 : decode cX3_closeRelation 42 = .ok (.ior, 1) := by decide +kernel
theorem dX3_closeRelation_43 : decode cX3_closeRelation 43 = .ok (.iastore, 1) := by decide +kernel
theorem dX3_closeRelation_44 : decode cX3_closeRelation 44 = .ok (.iinc 2 1, 3) := by decide +kernel
theorem dX3_closeRelation_47 : decode cX3_closeRelation 47 = .ok (.goto (-37), 3) := by decide +kernel
theorem dX3_closeRelation_50 : decode cX3_closeRelation 50 = .ok (.iinc 1 1, 3) := by decide +kernel
theorem dX3_closeRelation_53 : decode cX3_closeRelation 53 = .ok (.goto (-51), 3) := by decide +kernel
theorem dX3_closeRelation_56 : decode cX3_closeRelation 56 = .ok (.return_, 1) := by decide +kernel
theorem dX3_relatedToThemselves_0 : decode cX3_relatedToThemselves 0 = .ok (.iconst 0, 1) := by decide +kernel
theorem dX3_relatedToThemselves_1 : decode cX3_relatedToThemselves 1 = .ok (.istore_n 1, 1) := by decide +kernel
theorem dX3_relatedToThemselves_2 : decode cX3_relatedToThemselves 2 = .ok (.iconst 0, 1) := by decide +kernel
theorem dX3_relatedToThemselves_3 : decode cX3_relatedToThemselves 3 = .ok (.istore_n 2, 1) := by decide +kernel
theorem dX3_relatedToThemselves_4 : decode cX3_relatedToThemselves 4 = .ok (.iload_n 2, 1) := by decide +kernel
theorem dX3_relatedToThemselves_5 : decode cX3_relatedToThemselves 5 = .ok (.bipush 16, 2) := by decide +kernel
theorem dX3_relatedToThemselves_7 : decode cX3_relatedToThemselves 7 = .ok (.if_icmp .ge 22, 3) := by decide +kernel
theorem dX3_relatedToThemselves_10 : decode cX3_relatedToThemselves 10 = .ok (.iload_n 1, 1) := by decide +kernel
theorem dX3_relatedToThemselves_11 : decode cX3_relatedToThemselves 11 = .ok (.aload_n 0, 1) := by decide +kernel
theorem dX3_relatedToThemselves_12 : decode cX3_relatedToThemselves 12 = .ok (.getfield 28, 3) := by decide +kernel
theorem dX3_relatedToThemselves_15 : decode cX3_relatedToThemselves 15 = .ok (.iload_n 2, 1) := by decide +kernel
theorem dX3_relatedToThemselves_16 : decode cX3_relatedToThemselves 16 = .ok (.iaload, 1) := by decide +kernel
theorem dX3_relatedToThemselves_17 : decode cX3_relatedToThemselves 17 = .ok (.iconst 1, 1) := by decide +kernel
theorem dX3_relatedToThemselves_18 : decode cX3_relatedToThemselves 18 = .ok (.iload_n 2, 1) := by decide +kernel
theorem dX3_relatedToThemselves_19 : decode cX3_relatedToThemselves 19 = .ok (.ishl, 1) := by decide +kernel
theorem dX3_relatedToThemselves_20 : decode cX3_relatedToThemselves 20 = .ok (.iand, 1) := by decide +kernel
theorem dX3_relatedToThemselves_21 : decode cX3_relatedToThemselves 21 = .ok (.ior, 1) := by decide +kernel
theorem dX3_relatedToThemselves_22 : decode cX3_relatedToThemselves 22 = .ok (.istore_n 1, 1) := by decide +kernel
theorem dX3_relatedToThemselves_23 : decode cX3_relatedToThemselves 23 = .ok (.iinc 2 1, 3) := by decide +kernel
theorem dX3_relatedToThemselves_26 : decode cX3_relatedToThemselves 26 = .ok (.goto (-22), 3) := by decide +kernel
theorem dX3_relatedToThemselves_29 : decode cX3_relatedToThemselves 29 = .ok (.iload_n 1, 1) := by decide +kernel
theorem dX3_relatedToThemselves_30 : decode cX3_relatedToThemselves 30 = .ok (.ireturn, 1) := by decide +kernel
theorem dX3_findLeasts_0 : decode cX3_findLeasts 0 = .ok (.aload_n 0, 1) := by decide +kernel
theorem dX3_findLeasts_1 : decode cX3_findLeasts 1 = .ok (.getfield 21, 3) := by decide +kernel
theorem dX3_findLeasts_4 : decode cX3_findLeasts 4 = .ok (.iconst (-1), 1) := by decide +kernel
theorem dX3_findLeasts_5 : decode cX3_findLeasts 5 = .ok (.invokestatic 105, 3) := by decide +kernel
theorem dX3_findLeasts_8 : decode cX3_findLeasts 8 = .ok (.iconst 0, 1) := by decide +kernel
theorem dX3_findLeasts_9 : decode cX3_findLeasts 9 = .ok (.istore_n 1, 1) := by decide +kernel
theorem dX3_findLeasts_10 : decode cX3_findLeasts 10 = .ok (.iload_n 1, 1) := by decide +kernel
theorem dX3_findLeasts_11 : decode cX3_findLeasts 11 = .ok (.bipush 8, 2) := by decide +kernel
theorem dX3_findLeasts_13 : decode cX3_findLeasts 13 = .ok (.if_icmp .ge 16, 3) := by decide +kernel
theorem dX3_findLeasts_16 : decode cX3_findLeasts 16 = .ok (.aload_n 0, 1) := by decide +kernel
theorem dX3_findLeasts_17 : decode cX3_findLeasts 17 = .ok (.getfield 21, 3) := by decide +kernel
theorem dX3_findLeasts_20 : decode cX3_findLeasts 20 = .ok (.iload_n 1, 1) := by decide +kernel
theorem dX3_findLeasts_21 : decode cX3_findLeasts 21 = .ok (.iconst 1, 1) := by decide +kernel
theorem dX3_findLeasts_22 : decode cX3_findLeasts 22 = .ok (.iastore, 1) := by decide +kernel
theorem dX3_findLeasts_23 : decode cX3_findLeasts 23 = .ok (.iinc 1 1, 3) := by decide +kernel
theorem dX3_findLeasts_26 : decode cX3_findLeasts 26 = .ok (.goto (-16), 3) := by decide +kernel
theorem dX3_findLeasts_29 : decode cX3_findLeasts 29 = .ok (.iconst 1, 1) := by decide +kernel
theorem dX3_findLeasts_30 : decode cX3_findLeasts 30 = .ok (.istore_n 1, 1) := by decide +kernel
theorem dX3_findLeasts_31 : decode cX3_findLeasts 31 = .ok (.iconst 0, 1) := by decide +kernel
theorem dX3_findLeasts_32 : decode cX3_findLeasts 32 = .ok (.istore_n 2, 1) := by decide +kernel
theorem dX3_findLeasts_33 : decode cX3_findLeasts 33 = .ok (.iload_n 2, 1) := by decide +kernel
theorem dX3_findLeasts_34 : decode cX3_findLeasts 34 = .ok (.ldc 111, 2) := by decide +kernel
theorem dX3_findLeasts_36 : decode cX3_findLeasts 36 = .ok (.if_icmp .ge 112, 3) := by decide +kernel
theorem dX3_findLeasts_39 : decode cX3_findLeasts 39 = .ok (.iload_n 1, 1) := by decide +kernel
theorem dX3_findLeasts_40 : decode cX3_findLeasts 40 = .ok (.ifCond .eq 108, 3) := by decide +kernel
theorem dX3_findLeasts_43 : decode cX3_findLeasts 43 = .ok (.iconst 0, 1) := by decide +kernel
theorem dX3_findLeasts_44 : decode cX3_findLeasts 44 = .ok (.istore_n 1, 1) := by decide +kernel
theorem dX3_findLeasts_45 : decode cX3_findLeasts 45 = .ok (.iconst 0, 1) := by decide +kernel
theorem dX3_findLeasts_46 : decode cX3_findLeasts 46 = .ok (.istore_n 3, 1) := by decide +kernel
theorem dX3_findLeasts_47 : decode cX3_findLeasts 47 = .ok (.iload_n 3, 1) := by decide +kernel
theorem dX3_findLeasts_48 : decode cX3_findLeasts 48 = .ok (.aload_n 0, 1) := by decide +kernel
theorem dX3_findLeasts_49 : decode cX3_findLeasts 49 = .ok (.getfield 37, 3) := by decide +kernel
theorem dX3_findLeasts_52 : decode cX3_findLeasts 52 = .ok (.invokevirtual 112, 3) := by decide +kernel
theorem dX3_findLeasts_55 : decode cX3_findLeasts 55 = .ok (.if_icmp .ge 87, 3) := by decide +kernel
theorem dX3_findLeasts_58 : decode cX3_findLeasts 58 = .ok (.bipush 16, 2) := by decide +kernel
theorem dX3_findLeasts_60 : decode cX3_findLeasts 60 = .ok (.aload_n 0, 1) := by decide +kernel
theorem dX3_findLeasts_61 : decode cX3_findLeasts 61 = .ok (.getfield 37, 3) := by decide +kernel
theorem dX3_findLeasts_64 : decode cX3_findLeasts 64 = .ok (.iload_n 3, 1) := by decide +kernel
theorem dX3_findLeasts_65 : decode cX3_findLeasts 65 = .ok (.invokevirtual 116, 3) := by decide +kernel
theorem dX3_findLeasts_68 : decode cX3_findLeasts 68 = .ok (.iadd, 1) := by decide +kernel
theorem dX3_findLeasts_69 : decode cX3_findLeasts 69 = .ok (.istore 4, 2) := by decide +kernel
theorem dX3_findLeasts_71 : decode cX3_findLeasts 71 = .ok (.aload_n 0, 1) := by decide +kernel
theorem dX3_findLeasts_72 : decode cX3_findLeasts 72 = .ok (.iload_n 3, 1) := by decide +kernel
theorem dX3_findLeasts_73 : decode cX3_findLeasts 73 = .ok (.invokevirtual 152, 3) := by decide +kernel
theorem dX3_findLeasts_76 : decode cX3_findLeasts 76 = .ok (.istore 5, 2) := by decide +kernel
theorem dX3_findLeasts_78 : decode cX3_findLeasts 78 = .ok (.aload_n 0, 1) := by decide +kernel
theorem dX3_findLeasts_79 : decode cX3_findLeasts 79 = .ok (.iload 4, 2) := by decide +kernel
theorem dX3_findLeasts_81 : decode cX3_findLeasts 81 = .ok (.invokevirtual 93, 3) := by decide +kernel
theorem dX3_findLeasts_84 : decode cX3_findLeasts 84 = .ok (.iconst (-1), 1) := by decide +kernel
theorem dX3_findLeasts_85 : decode cX3_findLeasts 85 = .ok (.if_icmp .eq 14, 3) := by decide +kernel
theorem dX3_findLeasts_88 : decode cX3_findLeasts 88 = .ok (.iload 5, 2) := by decide +kernel
theorem dX3_findLeasts_90 : decode cX3_findLeasts 90 = .ok (.aload_n 0, 1) := by decide +kernel
theorem dX3_findLeasts_91 : decode cX3_findLeasts 91 = .ok (.iload 4, 2) := by decide +kernel
theorem dX3_findLeasts_93 : decode cX3_findLeasts 93 = .ok (.invokevirtual 93, 3) := by decide +kernel
theorem dX3_findLeasts_96 : decode cX3_findLeasts 96 = .ok (.if_icmp .ge 7, 3) := by decide +kernel
theorem dX3_findLeasts_99 : decode cX3_findLeasts 99 = .ok (.iconst 1, 1) := by decide +kernel
theorem dX3_findLeasts_100 : decode cX3_findLeasts 100 = .ok (.goto 4, 3) := by decide +kernel
theorem dX3_findLeasts_103 : decode cX3_findLeasts 103 = .ok (.iconst 0, 1) := by decide +kernel
theorem dX3_findLeasts_104 : decode cX3_findLeasts 104 = .ok (.istore 6, 2) := by decide +kernel
theorem dX3_findLeasts_106 : decode cX3_findLeasts 106 = .ok (.iload 5, 2) := by decide +kernel
theorem dX3_findLeasts_108 : decode cX3_findLeasts 108 = .ok (.iconst (-1), 1) := by decide +kernel
theorem dX3_findLeasts_109 : decode cX3_findLeasts 109 = .ok (.if_icmp .eq 27, 3) := by decide +kernel
theorem dX3_findLeasts_112 : decode cX3_findLeasts 112 = .ok (.iload 6, 2) := by decide +kernel
theorem dX3_findLeasts_114 : decode cX3_findLeasts 114 = .ok (.ifCond .eq 22, 3) := by decide +kernel
theorem dX3_findLeasts_117 : decode cX3_findLeasts 117 = .ok (.iload 4, 2) := by decide +kernel
theorem dX3_findLeasts_119 : decode cX3_findLeasts 119 = .ok (.invokestatic 133, 3) := by decide +kernel
theorem dX3_findLeasts_122 : decode cX3_findLeasts 122 = .ok (.ifCond .eq 14, 3) := by decide +kernel
theorem dX3_findLeasts_125 : decode cX3_findLeasts 125 = .ok (.aload_n 0, 1) := by decide +kernel
theorem dX3_findLeasts_126 : decode cX3_findLeasts 126 = .ok (.getfield 21, 3) := by decide +kernel
theorem dX3_findLeasts_129 : decode cX3_findLeasts 129 = .ok (.iload 4, 2) := by decide +kernel
theorem dX3_findLeasts_131 : decode cX3_findLeasts 131 = .ok (.iload 5, 2) := by decide +kernel
theorem dX3_findLeasts_133 : decode cX3_findLeasts 133 = .ok (.iastore, 1) := by decide +kernel
theorem dX3_findLeasts_134 : decode cX3_findLeasts 134 = .ok (.iconst 1, 1) := by decide +kernel
theorem dX3_findLeasts_135 : decode cX3_findLeasts 135 = .ok (.istore_n 1, 1) := by decide +kernel
theorem dX3_findLeasts_136 : decode cX3_findLeasts 136 = .ok (.iinc 3 1, 3) := by decide +kernel
theorem dX3_findLeasts_139 : decode cX3_findLeasts 139 = .ok (.goto (-92), 3) := by decide +kernel
theorem dX3_findLeasts_142 : decode cX3_findLeasts 142 = .ok (.iinc 2 1, 3) := by decide +kernel
theorem dX3_findLeasts_145 : decode cX3_findLeasts 145 = .ok (.goto (-112), 3) := by decide +kernel
theorem dX3_findLeasts_148 : decode cX3_findLeasts 148 = .ok (.return_, 1) := by decide +kernel
theorem dX3_leastOfRight_0 : decode cX3_leastOfRight 0 = .ok (.iconst 0, 1) := by decide +kernel
theorem dX3_leastOfRight_1 : decode cX3_leastOfRight 1 = .ok (.istore_n 2, 1) := by decide +kernel
theorem dX3_leastOfRight_2 : decode cX3_leastOfRight 2 = .ok (.iconst 0, 1) := by decide +kernel
theorem dX3_leastOfRight_3 : decode cX3_leastOfRight 3 = .ok (.istore_n 3, 1) := by decide +kernel
theorem dX3_leastOfRight_4 : decode cX3_leastOfRight 4 = .ok (.iload_n 3, 1) := by decide +kernel
theorem dX3_leastOfRight_5 : decode cX3_leastOfRight 5 = .ok (.aload_n 0, 1) := by decide +kernel
theorem dX3_leastOfRight_6 : decode cX3_leastOfRight 6 = .ok (.getfield 37, 3) := by decide +kernel
theorem dX3_leastOfRight_9 : decode cX3_leastOfRight 9 = .ok (.iload_n 1, 1) := by decide +kernel
theorem dX3_leastOfRight_10 : decode cX3_leastOfRight 10 = .ok (.invokevirtual 96, 3) := by decide +kernel
theorem dX3_leastOfRight_13 : decode cX3_leastOfRight 13 = .ok (.if_icmp .ge 42, 3) := by decide +kernel
theorem dX3_leastOfRight_16 : decode cX3_leastOfRight 16 = .ok (.aload_n 0, 1) := by decide +kernel
theorem dX3_leastOfRight_17 : decode cX3_leastOfRight 17 = .ok (.aload_n 0, 1) := by decide +kernel
theorem dX3_leastOfRight_18 : decode cX3_leastOfRight 18 = .ok (.getfield 37, 3) := by decide +kernel
theorem dX3_leastOfRight_21 : decode cX3_leastOfRight 21 = .ok (.iload_n 1, 1) := by decide +kernel
theorem dX3_leastOfRight_22 : decode cX3_leastOfRight 22 = .ok (.iload_n 3, 1) := by decide +kernel
theorem dX3_leastOfRight_23 : decode cX3_leastOfRight 23 = .ok (.invokevirtual 101, 3) := by decide +kernel
theorem dX3_leastOfRight_26 : decode cX3_leastOfRight 26 = .ok (.invokevirtual 93, 3) := by decide +kernel
theorem dX3_leastOfRight_29 : decode cX3_leastOfRight 29 = .ok (.istore 4, 2) := by decide +kernel
