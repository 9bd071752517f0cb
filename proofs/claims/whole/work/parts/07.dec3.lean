theorem dX12_stands_10 : decode cX12_stands 10 = .ok (.iconst 0, 1) := by decide +kernel
theorem dX12_stands_11 : decode cX12_stands 11 = .ok (.ireturn, 1) := by decide +kernel
theorem dX12_stands_12 : decode cX12_stands 12 = .ok (.aload_n 0, 1) := by decide +kernel
theorem dX12_stands_13 : decode cX12_stands 13 = .ok (.getfield 46, 3) := by decide +kernel
theorem dX12_stands_16 : decode cX12_stands 16 = .ok (.aload_n 0, 1) := by decide +kernel
theorem dX12_stands_17 : decode cX12_stands 17 = .ok (.getfield 142, 3) := by decide +kernel
theorem dX12_stands_20 : decode cX12_stands 20 = .ok (.iconst 1, 1) := by decide +kernel
theorem dX12_stands_21 : decode cX12_stands 21 = .ok (.isub, 1) := by decide +kernel
theorem dX12_stands_22 : decode cX12_stands 22 = .ok (.iaload, 1) := by decide +kernel
theorem dX12_stands_23 : decode cX12_stands 23 = .ok (.istore 4, 2) := by decide +kernel
theorem dX12_stands_25 : decode cX12_stands 25 = .ok (.aload_n 0, 1) := by decide +kernel
theorem dX12_stands_26 : decode cX12_stands 26 = .ok (.getfield 142, 3) := by decide +kernel
theorem dX12_stands_29 : decode cX12_stands 29 = .ok (.istore 5, 2) := by decide +kernel
theorem dX12_stands_31 : decode cX12_stands 31 = .ok (.aload_n 0, 1) := by decide +kernel
theorem dX12_stands_32 : decode cX12_stands 32 = .ok (.getfield 46, 3) := by decide +kernel
theorem dX12_stands_35 : decode cX12_stands 35 = .ok (.iload 5, 2) := by decide +kernel
theorem dX12_stands_37 : decode cX12_stands 37 = .ok (.bipush 16, 2) := by decide +kernel
theorem dX12_stands_39 : decode cX12_stands 39 = .ok (.iload_n 3, 1) := by decide +kernel
theorem dX12_stands_40 : decode cX12_stands 40 = .ok (.iadd, 1) := by decide +kernel
theorem dX12_stands_41 : decode cX12_stands 41 = .ok (.iastore, 1) := by decide +kernel
theorem dX12_stands_42 : decode cX12_stands 42 = .ok (.aload_n 0, 1) := by decide +kernel
theorem dX12_stands_43 : decode cX12_stands 43 = .ok (.getfield 46, 3) := by decide +kernel
theorem dX12_stands_46 : decode cX12_stands 46 = .ok (.iload 5, 2) := by decide +kernel
theorem dX12_stands_48 : decode cX12_stands 48 = .ok (.iconst 1, 1) := by decide +kernel
theorem dX12_stands_49 : decode cX12_stands 49 = .ok (.iadd, 1) := by decide +kernel
theorem dX12_stands_50 : decode cX12_stands 50 = .ok (.iload_n 1, 1) := by decide +kernel
theorem dX12_stands_51 : decode cX12_stands 51 = .ok (.bipush 37, 2) := by decide +kernel
theorem dX12_stands_53 : decode cX12_stands 53 = .ok (.if_icmp .ne 7, 3) := by decide +kernel
theorem dX12_stands_56 : decode cX12_stands 56 = .ok (.iload_n 2, 1) := by decide +kernel
theorem dX12_stands_57 : decode cX12_stands 57 = .ok (.goto 5, 3) := by decide +kernel
theorem dX12_stands_60 : decode cX12_stands 60 = .ok (.iload 4, 2) := by decide +kernel
theorem dX12_stands_62 : decode cX12_stands 62 = .ok (.iastore, 1) := by decide +kernel
theorem dX12_stands_63 : decode cX12_stands 63 = .ok (.aload_n 0, 1) := by decide +kernel
theorem dX12_stands_64 : decode cX12_stands 64 = .ok (.getfield 46, 3) := by decide +kernel
theorem dX12_stands_67 : decode cX12_stands 67 = .ok (.iload 5, 2) := by decide +kernel
theorem dX12_stands_69 : decode cX12_stands 69 = .ok (.iconst 2, 1) := by decide +kernel
theorem dX12_stands_70 : decode cX12_stands 70 = .ok (.iadd, 1) := by decide +kernel
theorem dX12_stands_71 : decode cX12_stands 71 = .ok (.iload 4, 2) := by decide +kernel
theorem dX12_stands_73 : decode cX12_stands 73 = .ok (.iastore, 1) := by decide +kernel
theorem dX12_stands_74 : decode cX12_stands 74 = .ok (.aload_n 0, 1) := by decide +kernel
theorem dX12_stands_75 : decode cX12_stands 75 = .ok (.getfield 46, 3) := by decide +kernel
theorem dX12_stands_78 : decode cX12_stands 78 = .ok (.iload 5, 2) := by decide +kernel
theorem dX12_stands_80 : decode cX12_stands 80 = .ok (.iconst 3, 1) := by decide +kernel
theorem dX12_stands_81 : decode cX12_stands 81 = .ok (.iadd, 1) := by decide +kernel
theorem dX12_stands_82 : decode cX12_stands 82 = .ok (.iload 4, 2) := by decide +kernel
theorem dX12_stands_84 : decode cX12_stands 84 = .ok (.iastore, 1) := by decide +kernel
theorem dX12_stands_85 : decode cX12_stands 85 = .ok (.iload_n 1, 1) := by decide +kernel
theorem dX12_stands_86 : decode cX12_stands 86 = .ok (.bipush 63, 2) := by decide +kernel
theorem dX12_stands_88 : decode cX12_stands 88 = .ok (.if_icmp .eq 9, 3) := by decide +kernel
theorem dX12_stands_91 : decode cX12_stands 91 = .ok (.iload_n 1, 1) := by decide +kernel
theorem dX12_stands_92 : decode cX12_stands 92 = .ok (.bipush 42, 2) := by decide +kernel
theorem dX12_stands_94 : decode cX12_stands 94 = .ok (.if_icmp .ne 15, 3) := by decide +kernel
theorem dX12_stands_97 : decode cX12_stands 97 = .ok (.aload_n 0, 1) := by decide +kernel
theorem dX12_stands_98 : decode cX12_stands 98 = .ok (.iload_n 3, 1) := by decide +kernel
theorem dX12_stands_99 : decode cX12_stands 99 = .ok (.iload 5, 2) := by decide +kernel
theorem dX12_stands_101 : decode cX12_stands 101 = .ok (.iload 5, 2) := by decide +kernel
theorem dX12_stands_103 : decode cX12_stands 103 = .ok (.invokevirtual 145, 3) := by decide +kernel
theorem dX12_stands_106 : decode cX12_stands 106 = .ok (.goto 16, 3) := by decide +kernel
theorem dX12_stands_109 : decode cX12_stands 109 = .ok (.aload_n 0, 1) := by decide +kernel
theorem dX12_stands_110 : decode cX12_stands 110 = .ok (.iload_n 3, 1) := by decide +kernel
theorem dX12_stands_111 : decode cX12_stands 111 = .ok (.iload 5, 2) := by decide +kernel
theorem dX12_stands_113 : decode cX12_stands 113 = .ok (.iconst 3, 1) := by decide +kernel
theorem dX12_stands_114 : decode cX12_stands 114 = .ok (.iadd, 1) := by decide +kernel
theorem dX12_stands_115 : decode cX12_stands 115 = .ok (.iload 5, 2) := by decide +kernel
theorem dX12_stands_117 : decode cX12_stands 117 = .ok (.iconst 4, 1) := by decide +kernel
theorem dX12_stands_118 : decode cX12_stands 118 = .ok (.iadd, 1) := by decide +kernel
theorem dX12_stands_119 : decode cX12_stands 119 = .ok (.invokevirtual 145, 3) := by decide +kernel
theorem dX12_stands_122 : decode cX12_stands 122 = .ok (.istore 6, 2) := by decide +kernel
theorem dX12_stands_124 : decode cX12_stands 124 = .ok (.iload 6, 2) := by decide +kernel
theorem dX12_stands_126 : decode cX12_stands 126 = .ok (.ifCond .eq 59, 3) := by decide +kernel
theorem dX12_stands_129 : decode cX12_stands 129 = .ok (.iload_n 1, 1) := by decide +kernel
theorem dX12_stands_130 : decode cX12_stands 130 = .ok (.bipush 63, 2) := by decide +kernel
theorem dX12_stands_132 : decode cX12_stands 132 = .ok (.if_icmp .ne 22, 3) := by decide +kernel
theorem dX12_stands_135 : decode cX12_stands 135 = .ok (.aload_n 0, 1) := by decide +kernel
theorem dX12_stands_136 : decode cX12_stands 136 = .ok (.iload_n 3, 1) := by decide +kernel
theorem dX12_stands_137 : decode cX12_stands 137 = .ok (.iload 5, 2) := by decide +kernel
theorem dX12_stands_139 : decode cX12_stands 139 = .ok (.iconst 3, 1) := by decide +kernel
theorem dX12_stands_140 : decode cX12_stands 140 = .ok (.iadd, 1) := by decide +kernel
theorem dX12_stands_141 : decode cX12_stands 141 = .ok (.iload 5, 2) := by decide +kernel
theorem dX12_stands_143 : decode cX12_stands 143 = .ok (.iconst 4, 1) := by decide +kernel
theorem dX12_stands_144 : decode cX12_stands 144 = .ok (.iadd, 1) := by decide +kernel
theorem dX12_stands_145 : decode cX12_stands 145 = .ok (.invokevirtual 145, 3) := by decide +kernel
theorem dX12_stands_148 : decode cX12_stands 148 = .ok (.ifCond .eq 37, 3) := by decide +kernel
theorem dX12_stands_151 : decode cX12_stands 151 = .ok (.goto 30, 3) := by decide +kernel
theorem dX12_stands_154 : decode cX12_stands 154 = .ok (.aload_n 0, 1) := by decide +kernel
theorem dX12_stands_155 : decode cX12_stands 155 = .ok (.iload_n 3, 1) := by decide +kernel
theorem dX12_stands_156 : decode cX12_stands 156 = .ok (.iload 5, 2) := by decide +kernel
theorem dX12_stands_158 : decode cX12_stands 158 = .ok (.iload_n 1, 1) := by decide +kernel
theorem dX12_stands_159 : decode cX12_stands 159 = .ok (.bipush 37, 2) := by decide +kernel
theorem dX12_stands_161 : decode cX12_stands 161 = .ok (.if_icmp .ne 10, 3) := by decide +kernel
theorem dX12_stands_164 : decode cX12_stands 164 = .ok (.iload 5, 2) := by decide +kernel
theorem dX12_stands_166 : decode cX12_stands 166 = .ok (.iconst 3, 1) := by decide +kernel
theorem dX12_stands_167 : decode cX12_stands 167 = .ok (.iadd, 1) := by decide +kernel
theorem dX12_stands_168 : decode cX12_stands 168 = .ok (.goto 7, 3) := by decide +kernel
theorem dX12_stands_171 : decode cX12_stands 171 = .ok (.iload 5, 2) := by decide +kernel
theorem dX12_stands_173 : decode cX12_stands 173 = .ok (.iconst 2, 1) := by decide +kernel
theorem dX12_stands_174 : decode cX12_stands 174 = .ok (.iadd, 1) := by decide +kernel
theorem dX12_stands_175 : decode cX12_stands 175 = .ok (.invokevirtual 145, 3) := by decide +kernel
theorem dX12_stands_178 : decode cX12_stands 178 = .ok (.ifCond .eq 7, 3) := by decide +kernel
theorem dX12_stands_181 : decode cX12_stands 181 = .ok (.iconst 1, 1) := by decide +kernel
theorem dX12_stands_182 : decode cX12_stands 182 = .ok (.goto 4, 3) := by decide +kernel
theorem dX12_stands_185 : decode cX12_stands 185 = .ok (.iconst 0, 1) := by decide +kernel
theorem dX12_stands_186 : decode cX12_stands 186 = .ok (.istore 6, 2) := by decide +kernel
theorem dX12_stands_188 : decode cX12_stands 188 = .ok (.aload_n 0, 1) := by decide +kernel
theorem dX12_stands_189 : decode cX12_stands 189 = .ok (.getfield 46, 3) := by decide +kernel
theorem dX12_stands_192 : decode cX12_stands 192 = .ok (.aload_n 0, 1) := by decide +kernel
theorem dX12_stands_193 : decode cX12_stands 193 = .ok (.getfield 142, 3) := by decide +kernel
theorem dX12_stands_196 : decode cX12_stands 196 = .ok (.iconst 1, 1) := by decide +kernel
theorem dX12_stands_197 : decode cX12_stands 197 = .ok (.isub, 1) := by decide +kernel
theorem dX12_stands_198 : decode cX12_stands 198 = .ok (.bipush 16, 2) := by decide +kernel
theorem dX12_stands_200 : decode cX12_stands 200 = .ok (.iload_n 3, 1) := by decide +kernel
theorem dX12_stands_201 : decode cX12_stands 201 = .ok (.iadd, 1) := by decide +kernel
theorem dX12_stands_202 : decode cX12_stands 202 = .ok (.iastore, 1) := by decide +kernel
theorem dX12_stands_203 : decode cX12_stands 203 = .ok (.iload 6, 2) := by decide +kernel
theorem dX12_stands_205 : decode cX12_stands 205 = .ok (.ireturn, 1) := by decide +kernel
theorem dX12_closes_0 : decode cX12_closes 0 = .ok (.aload_n 0, 1) := by decide +kernel
theorem dX12_closes_1 : decode cX12_closes 1 = .ok (.getfield 142, 3) := by decide +kernel
theorem dX12_closes_4 : decode cX12_closes 4 = .ok (.istore_n 1, 1) := by decide +kernel
theorem dX12_closes_5 : decode cX12_closes 5 = .ok (.aload_n 0, 1) := by decide +kernel
theorem dX12_closes_6 : decode cX12_closes 6 = .ok (.getfield 46, 3) := by decide +kernel
theorem dX12_closes_9 : decode cX12_closes 9 = .ok (.iload_n 1, 1) := by decide +kernel
theorem dX12_closes_10 : decode cX12_closes 10 = .ok (.iconst 1, 1) := by decide +kernel
theorem dX12_closes_11 : decode cX12_closes 11 = .ok (.isub, 1) := by decide +kernel
theorem dX12_closes_12 : decode cX12_closes 12 = .ok (.iaload, 1) := by decide +kernel
theorem dX12_closes_13 : decode cX12_closes 13 = .ok (.iconst (-1), 1) := by decide +kernel
theorem dX12_closes_14 : decode cX12_closes 14 = .ok (.if_icmp .eq 9, 3) := by decide +kernel
theorem dX12_closes_17 : decode cX12_closes 17 = .ok (.iinc 1 (-1), 3) := by decide +kernel
theorem dX12_closes_20 : decode cX12_closes 20 = .ok (.goto (-15), 3) := by decide +kernel
theorem dX12_closes_23 : decode cX12_closes 23 = .ok (.aload_n 0, 1) := by decide +kernel
theorem dX12_closes_24 : decode cX12_closes 24 = .ok (.invokevirtual 149, 3) := by decide +kernel
theorem dX12_closes_27 : decode cX12_closes 27 = .ok (.istore_n 2, 1) := by decide +kernel
theorem dX12_closes_28 : decode cX12_closes 28 = .ok (.iload_n 2, 1) := by decide +kernel
theorem dX12_closes_29 : decode cX12_closes 29 = .ok (.iconst (-1), 1) := by decide +kernel
theorem dX12_closes_30 : decode cX12_closes 30 = .ok (.if_icmp .eq 12, 3) := by decide +kernel
theorem dX12_closes_33 : decode cX12_closes 33 = .ok (.aload_n 0, 1) := by decide +kernel
theorem dX12_closes_34 : decode cX12_closes 34 = .ok (.iload_n 2, 1) := by decide +kernel
theorem dX12_closes_35 : decode cX12_closes 35 = .ok (.iload_n 1, 1) := by decide +kernel
theorem dX12_closes_36 : decode cX12_closes 36 = .ok (.invokevirtual 152, 3) := by decide +kernel
theorem dX12_closes_39 : decode cX12_closes 39 = .ok (.ifCond .ne 5, 3) := by decide +kernel
theorem dX12_closes_42 : decode cX12_closes 42 = .ok (.iconst 0, 1) := by decide +kernel
theorem dX12_closes_43 : decode cX12_closes 43 = .ok (.ireturn, 1) := by decide +kernel
theorem dX12_closes_44 : decode cX12_closes 44 = .ok (.aload_n 0, 1) := by decide +kernel
theorem dX12_closes_45 : decode cX12_closes 45 = .ok (.iload_n 1, 1) := by decide +kernel
theorem dX12_closes_46 : decode cX12_closes 46 = .ok (.putfield 142, 3) := by decide +kernel
theorem dX12_closes_49 : decode cX12_closes 49 = .ok (.aload_n 0, 1) := by decide +kernel
theorem dX12_closes_50 : decode cX12_closes 50 = .ok (.getfield 46, 3) := by decide +kernel
theorem dX12_closes_53 : decode cX12_closes 53 = .ok (.aload_n 0, 1) := by decide +kernel
theorem dX12_closes_54 : decode cX12_closes 54 = .ok (.getfield 142, 3) := by decide +kernel
theorem dX12_closes_57 : decode cX12_closes 57 = .ok (.iconst 1, 1) := by decide +kernel
theorem dX12_closes_58 : decode cX12_closes 58 = .ok (.isub, 1) := by decide +kernel
theorem dX12_closes_59 : decode cX12_closes 59 = .ok (.bipush 16, 2) := by decide +kernel
theorem dX12_closes_61 : decode cX12_closes 61 = .ok (.iload_n 2, 1) := by decide +kernel
theorem dX12_closes_62 : decode cX12_closes 62 = .ok (.iadd, 1) := by decide +kernel
theorem dX12_closes_63 : decode cX12_closes 63 = .ok (.iastore, 1) := by decide +kernel
theorem dX12_closes_64 : decode cX12_closes 64 = .ok (.iconst 1, 1) := by decide +kernel
theorem dX12_closes_65 : decode cX12_closes 65 = .ok (.ireturn, 1) := by decide +kernel
theorem dX12_reads_0 : decode cX12_reads 0 = .ok (.aload_n 0, 1) := by decide +kernel
theorem dX12_reads_1 : decode cX12_reads 1 = .ok (.iconst 0, 1) := by decide +kernel
theorem dX12_reads_2 : decode cX12_reads 2 = .ok (.putfield 142, 3) := by decide +kernel
theorem dX12_reads_5 : decode cX12_reads 5 = .ok (.iconst 1, 1) := by decide +kernel
theorem dX12_reads_6 : decode cX12_reads 6 = .ok (.istore_n 1, 1) := by decide +kernel
theorem dX12_reads_7 : decode cX12_reads 7 = .ok (.iconst 2, 1) := by decide +kernel
theorem dX12_reads_8 : decode cX12_reads 8 = .ok (.istore_n 2, 1) := by decide +kernel
theorem dX12_reads_9 : decode cX12_reads 9 = .ok (.iload_n 2, 1) := by decide +kernel
theorem dX12_reads_10 : decode cX12_reads 10 = .ok (.aload_n 0, 1) := by decide +kernel
theorem dX12_reads_11 : decode cX12_reads 11 = .ok (.getfield 128, 3) := by decide +kernel
theorem dX12_reads_14 : decode cX12_reads 14 = .ok (.if_icmp .ge 141, 3) := by decide +kernel
theorem dX12_reads_17 : decode cX12_reads 17 = .ok (.iload_n 1, 1) := by decide +kernel
theorem dX12_reads_18 : decode cX12_reads 18 = .ok (.ifCond .eq 137, 3) := by decide +kernel
theorem dX12_reads_21 : decode cX12_reads 21 = .ok (.aload_n 0, 1) := by decide +kernel
theorem dX12_reads_22 : decode cX12_reads 22 = .ok (.getfield 43, 3) := by decide +kernel
theorem dX12_reads_25 : decode cX12_reads 25 = .ok (.iload_n 2, 1) := by decide +kernel
theorem dX12_reads_26 : decode cX12_reads 26 = .ok (.iaload, 1) := by decide +kernel
theorem dX12_reads_27 : decode cX12_reads 27 = .ok (.istore_n 3, 1) := by decide +kernel
theorem dX12_reads_28 : decode cX12_reads 28 = .ok (.iload_n 3, 1) := by decide +kernel
theorem dX12_reads_29 : decode cX12_reads 29 = .ok (.invokestatic 125, 3) := by decide +kernel
theorem dX12_reads_32 : decode cX12_reads 32 = .ok (.ifCond .eq 13, 3) := by decide +kernel
theorem dX12_reads_35 : decode cX12_reads 35 = .ok (.aload_n 0, 1) := by decide +kernel
theorem dX12_reads_36 : decode cX12_reads 36 = .ok (.iload_n 3, 1) := by decide +kernel
theorem dX12_reads_37 : decode cX12_reads 37 = .ok (.iconst 0, 1) := by decide +kernel
theorem dX12_reads_38 : decode cX12_reads 38 = .ok (.invokevirtual 156, 3) := by decide +kernel
theorem dX12_reads_41 : decode cX12_reads 41 = .ok (.istore_n 1, 1) := by decide +kernel
theorem dX12_reads_42 : decode cX12_reads 42 = .ok (.goto 107, 3) := by decide +kernel
theorem dX12_reads_45 : decode cX12_reads 45 = .ok (.iload_n 3, 1) := by decide +kernel
theorem dX12_reads_46 : decode cX12_reads 46 = .ok (.bipush 37, 2) := by decide +kernel
theorem dX12_reads_48 : decode cX12_reads 48 = .ok (.if_icmp .ne 26, 3) := by decide +kernel
theorem dX12_reads_51 : decode cX12_reads 51 = .ok (.aload_n 0, 1) := by decide +kernel
theorem dX12_reads_52 : decode cX12_reads 52 = .ok (.iload_n 3, 1) := by decide +kernel
theorem dX12_reads_53 : decode cX12_reads 53 = .ok (.aload_n 0, 1) := by decide +kernel
theorem dX12_reads_54 : decode cX12_reads 54 = .ok (.getfield 43, 3) := by decide +kernel
theorem dX12_reads_57 : decode cX12_reads 57 = .ok (.iload_n 2, 1) := by decide +kernel
theorem dX12_reads_58 : decode cX12_reads 58 = .ok (.iconst 1, 1) := by decide +kernel
theorem dX12_reads_59 : decode cX12_reads 59 = .ok (.iadd, 1) := by decide +kernel
theorem dX12_reads_60 : decode cX12_reads 60 = .ok (.iaload, 1) := by decide +kernel
theorem dX12_reads_61 : decode cX12_reads 61 = .ok (.bipush 97, 2) := by decide +kernel
theorem dX12_reads_63 : decode cX12_reads 63 = .ok (.isub, 1) := by decide +kernel
theorem dX12_reads_64 : decode cX12_reads 64 = .ok (.invokevirtual 156, 3) := by decide +kernel
theorem dX12_reads_67 : decode cX12_reads 67 = .ok (.istore_n 1, 1) := by decide +kernel
theorem dX12_reads_68 : decode cX12_reads 68 = .ok (.iinc 2 1, 3) := by decide +kernel
theorem dX12_reads_71 : decode cX12_reads 71 = .ok (.goto 78, 3) := by decide +kernel
theorem dX12_reads_74 : decode cX12_reads 74 = .ok (.iload_n 3, 1) := by decide +kernel
theorem dX12_reads_75 : decode cX12_reads 75 = .ok (.bipush 41, 2) := by decide +kernel
theorem dX12_reads_77 : decode cX12_reads 77 = .ok (.if_icmp .ne 11, 3) := by decide +kernel
theorem dX12_reads_80 : decode cX12_reads 80 = .ok (.aload_n 0, 1) := by decide +kernel
theorem dX12_reads_81 : decode cX12_reads 81 = .ok (.invokevirtual 159, 3) := by decide +kernel
theorem dX12_reads_84 : decode cX12_reads 84 = .ok (.istore_n 1, 1) := by decide +kernel
theorem dX12_reads_85 : decode cX12_reads 85 = .ok (.goto 64, 3) := by decide +kernel
theorem dX12_reads_88 : decode cX12_reads 88 = .ok (.aload_n 0, 1) := by decide +kernel
theorem dX12_reads_89 : decode cX12_reads 89 = .ok (.getfield 46, 3) := by decide +kernel
theorem dX12_reads_92 : decode cX12_reads 92 = .ok (.aload_n 0, 1) := by decide +kernel
theorem dX12_reads_93 : decode cX12_reads 93 = .ok (.getfield 142, 3) := by decide +kernel
theorem dX12_reads_96 : decode cX12_reads 96 = .ok (.iload_n 3, 1) := by decide +kernel
theorem dX12_reads_97 : decode cX12_reads 97 = .ok (.bipush 40, 2) := by decide +kernel
theorem dX12_reads_99 : decode cX12_reads 99 = .ok (.if_icmp .ne 7, 3) := by decide +kernel
theorem dX12_reads_102 : decode cX12_reads 102 = .ok (.iconst (-1), 1) := by decide +kernel
theorem dX12_reads_103 : decode cX12_reads 103 = .ok (.goto 35, 3) := by decide +kernel
theorem dX12_reads_106 : decode cX12_reads 106 = .ok (.iload_n 3, 1) := by decide +kernel
theorem dX12_reads_107 : decode cX12_reads 107 = .ok (.bipush 124, 2) := by decide +kernel
theorem dX12_reads_109 : decode cX12_reads 109 = .ok (.if_icmp .ne 8, 3) := by decide +kernel
theorem dX12_reads_112 : decode cX12_reads 112 = .ok (.bipush (-2), 2) := by decide +kernel
theorem dX12_reads_114 : decode cX12_reads 114 = .ok (.goto 24, 3) := by decide +kernel
theorem dX12_reads_117 : decode cX12_reads 117 = .ok (.iload_n 3, 1) := by decide +kernel
theorem dX12_reads_118 : decode cX12_reads 118 = .ok (.invokestatic 118, 3) := by decide +kernel
theorem dX12_reads_121 : decode cX12_reads 121 = .ok (.ifCond .eq 10, 3) := by decide +kernel
theorem dX12_reads_124 : decode cX12_reads 124 = .ok (.iload_n 3, 1) := by decide +kernel
theorem dX12_reads_125 : decode cX12_reads 125 = .ok (.bipush 97, 2) := by decide +kernel
theorem dX12_reads_127 : decode cX12_reads 127 = .ok (.isub, 1) := by decide +kernel
theorem dX12_reads_128 : decode cX12_reads 128 = .ok (.goto 10, 3) := by decide +kernel
theorem dX12_reads_131 : decode cX12_reads 131 = .ok (.bipush 16, 2) := by decide +kernel
theorem dX12_reads_133 : decode cX12_reads 133 = .ok (.iload_n 3, 1) := by decide +kernel
theorem dX12_reads_134 : decode cX12_reads 134 = .ok (.iadd, 1) := by decide +kernel
theorem dX12_reads_135 : decode cX12_reads 135 = .ok (.bipush 65, 2) := by decide +kernel
theorem dX12_reads_137 : decode cX12_reads 137 = .ok (.isub, 1) := by decide +kernel
theorem dX12_reads_138 : decode cX12_reads 138 = .ok (.iastore, 1) := by decide +kernel
theorem dX12_reads_139 : decode cX12_reads 139 = .ok (.aload_n 0, 1) := by decide +kernel
theorem dX12_reads_140 : decode cX12_reads 140 = .ok (.dup, 1) := by decide +kernel
theorem dX12_reads_141 : decode cX12_reads 141 = .ok (.getfield 142, 3) := by decide +kernel
theorem dX12_reads_144 : decode cX12_reads 144 = .ok (.iconst 1, 1) := by decide +kernel
theorem dX12_reads_145 : decode cX12_reads 145 = .ok (.iadd, 1) := by decide +kernel
theorem dX12_reads_146 : decode cX12_reads 146 = .ok (.putfield 142, 3) := by decide +kernel
theorem dX12_reads_149 : decode cX12_reads 149 = .ok (.iinc 2 1, 3) := by decide +kernel
theorem dX12_reads_152 : decode cX12_reads 152 = .ok (.goto (-143), 3) := by decide +kernel
theorem dX12_reads_155 : decode cX12_reads 155 = .ok (.iload_n 1, 1) := by decide +kernel
theorem dX12_reads_156 : decode cX12_reads 156 = .ok (.ifCond .eq 24, 3) := by decide +kernel
theorem dX12_reads_159 : decode cX12_reads 159 = .ok (.aload_n 0, 1) := by decide +kernel
theorem dX12_reads_160 : decode cX12_reads 160 = .ok (.aload_n 0, 1) := by decide +kernel
theorem dX12_reads_161 : decode cX12_reads 161 = .ok (.getfield 43, 3) := by decide +kernel
theorem dX12_reads_164 : decode cX12_reads 164 = .ok (.iconst 0, 1) := by decide +kernel
theorem dX12_reads_165 : decode cX12_reads 165 = .ok (.iaload, 1) := by decide +kernel
theorem dX12_reads_166 : decode cX12_reads 166 = .ok (.bipush 65, 2) := by decide +kernel
theorem dX12_reads_168 : decode cX12_reads 168 = .ok (.isub, 1) := by decide +kernel
theorem dX12_reads_169 : decode cX12_reads 169 = .ok (.iconst 0, 1) := by decide +kernel
theorem dX12_reads_170 : decode cX12_reads 170 = .ok (.invokevirtual 152, 3) := by decide +kernel
theorem dX12_reads_173 : decode cX12_reads 173 = .ok (.ifCond .eq 7, 3) := by decide +kernel
theorem dX12_reads_176 : decode cX12_reads 176 = .ok (.iconst 1, 1) := by decide +kernel
theorem dX12_reads_177 : decode cX12_reads 177 = .ok (.goto 4, 3) := by decide +kernel
theorem dX12_reads_180 : decode cX12_reads 180 = .ok (.iconst 0, 1) := by decide +kernel
theorem dX12_reads_181 : decode cX12_reads 181 = .ok (.ireturn, 1) := by decide +kernel
theorem dX12_enters_0 : decode cX12_enters 0 = .ok (.aload_n 0, 1) := by decide +kernel
theorem dX12_enters_1 : decode cX12_enters 1 = .ok (.getfield 19, 3) := by decide +kernel
theorem dX12_enters_4 : decode cX12_enters 4 = .ok (.aload_n 0, 1) := by decide +kernel
theorem dX12_enters_5 : decode cX12_enters 5 = .ok (.getfield 139, 3) := by decide +kernel
theorem dX12_enters_8 : decode cX12_enters 8 = .ok (.iaload, 1) := by decide +kernel
theorem dX12_enters_9 : decode cX12_enters 9 = .ok (.istore_n 1, 1) := by decide +kernel
theorem dX12_enters_10 : decode cX12_enters 10 = .ok (.aload_n 0, 1) := by decide +kernel
theorem dX12_enters_11 : decode cX12_enters 11 = .ok (.invokevirtual 163, 3) := by decide +kernel
theorem dX12_enters_14 : decode cX12_enters 14 = .ok (.ifCond .ne 15, 3) := by decide +kernel
theorem dX12_enters_17 : decode cX12_enters 17 = .ok (.aload_n 0, 1) := by decide +kernel
theorem dX12_enters_18 : decode cX12_enters 18 = .ok (.getfield 19, 3) := by decide +kernel
theorem dX12_enters_21 : decode cX12_enters 21 = .ok (.aload_n 0, 1) := by decide +kernel
theorem dX12_enters_22 : decode cX12_enters 22 = .ok (.getfield 139, 3) := by decide +kernel
theorem dX12_enters_25 : decode cX12_enters 25 = .ok (.iload_n 1, 1) := by decide +kernel
theorem dX12_enters_26 : decode cX12_enters 26 = .ok (.iastore, 1) := by decide +kernel
theorem dX12_enters_27 : decode cX12_enters 27 = .ok (.iconst 0, 1) := by decide +kernel
theorem dX12_enters_28 : decode cX12_enters 28 = .ok (.ireturn, 1) := by decide +kernel
theorem dX12_enters_29 : decode cX12_enters 29 = .ok (.bipush 24, 2) := by decide +kernel
theorem dX12_enters_31 : decode cX12_enters 31 = .ok (.aload_n 0, 1) := by decide +kernel
theorem dX12_enters_32 : decode cX12_enters 32 = .ok (.getfield 139, 3) := by decide +kernel
theorem dX12_enters_35 : decode cX12_enters 35 = .ok (.imul, 1) := by decide +kernel
theorem dX12_enters_36 : decode cX12_enters 36 = .ok (.aload_n 0, 1) := by decide +kernel
theorem dX12_enters_37 : decode cX12_enters 37 = .ok (.getfield 22, 3) := by decide +kernel
theorem dX12_enters_40 : decode cX12_enters 40 = .ok (.aload_n 0, 1) := by decide +kernel
theorem dX12_enters_41 : decode cX12_enters 41 = .ok (.getfield 139, 3) := by decide +kernel
theorem dX12_enters_44 : decode cX12_enters 44 = .ok (.iaload, 1) := by decide +kernel
theorem dX12_enters_45 : decode cX12_enters 45 = .ok (.iadd, 1) := by decide +kernel
theorem dX12_enters_46 : decode cX12_enters 46 = .ok (.istore_n 2, 1) := by decide +kernel
theorem dX12_enters_47 : decode cX12_enters 47 = .ok (.aload_n 0, 1) := by decide +kernel
theorem dX12_enters_48 : decode cX12_enters 48 = .ok (.getfield 25, 3) := by decide +kernel
theorem dX12_enters_51 : decode cX12_enters 51 = .ok (.iload_n 2, 1) := by decide +kernel
theorem dX12_enters_52 : decode cX12_enters 52 = .ok (.iload_n 1, 1) := by decide +kernel
theorem dX12_enters_53 : decode cX12_enters 53 = .ok (.iastore, 1) := by decide +kernel
theorem dX12_enters_54 : decode cX12_enters 54 = .ok (.aload_n 0, 1) := by decide +kernel
theorem dX12_enters_55 : decode cX12_enters 55 = .ok (.getfield 28, 3) := by decide +kernel
theorem dX12_enters_58 : decode cX12_enters 58 = .ok (.iload_n 2, 1) := by decide +kernel
theorem dX12_enters_59 : decode cX12_enters 59 = .ok (.aload_n 0, 1) := by decide +kernel
theorem dX12_enters_60 : decode cX12_enters 60 = .ok (.getfield 128, 3) := by decide +kernel
theorem dX12_enters_63 : decode cX12_enters 63 = .ok (.iastore, 1) := by decide +kernel
theorem dX12_enters_64 : decode cX12_enters 64 = .ok (.iconst 0, 1) := by decide +kernel
theorem dX12_enters_65 : decode cX12_enters 65 = .ok (.istore_n 3, 1) := by decide +kernel
theorem dX12_enters_66 : decode cX12_enters 66 = .ok (.iload_n 3, 1) := by decide +kernel
theorem dX12_enters_67 : decode cX12_enters 67 = .ok (.aload_n 0, 1) := by decide +kernel
theorem dX12_enters_68 : decode cX12_enters 68 = .ok (.getfield 128, 3) := by decide +kernel
theorem dX12_enters_71 : decode cX12_enters 71 = .ok (.if_icmp .ge 26, 3) := by decide +kernel
theorem dX12_enters_74 : decode cX12_enters 74 = .ok (.aload_n 0, 1) := by decide +kernel
theorem dX12_enters_75 : decode cX12_enters 75 = .ok (.getfield 31, 3) := by decide +kernel
theorem dX12_enters_78 : decode cX12_enters 78 = .ok (.bipush 24, 2) := by decide +kernel
theorem dX12_enters_80 : decode cX12_enters 80 = .ok (.iload_n 2, 1) := by decide +kernel
theorem dX12_enters_81 : decode cX12_enters 81 = .ok (.imul, 1) := by decide +kernel
theorem dX12_enters_82 : decode cX12_enters 82 = .ok (.iload_n 3, 1) := by decide +kernel
theorem dX12_enters_83 : decode cX12_enters 83 = .ok (.iadd, 1) := by decide +kernel
theorem dX12_enters_84 : decode cX12_enters 84 = .ok (.aload_n 0, 1) := by decide +kernel
theorem dX12_enters_85 : decode cX12_enters 85 = .ok (.getfield 43, 3) := by decide +kernel
theorem dX12_enters_88 : decode cX12_enters 88 = .ok (.iload_n 3, 1) := by decide +kernel
theorem dX12_enters_89 : decode cX12_enters 89 = .ok (.iaload, 1) := by decide +kernel
theorem dX12_enters_90 : decode cX12_enters 90 = .ok (.iastore, 1) := by decide +kernel
theorem dX12_enters_91 : decode cX12_enters 91 = .ok (.iinc 3 1, 3) := by decide +kernel
theorem dX12_enters_94 : decode cX12_enters 94 = .ok (.goto (-28), 3) := by decide +kernel
theorem dX12_enters_97 : decode cX12_enters 97 = .ok (.aload_n 0, 1) := by decide +kernel
theorem dX12_enters_98 : decode cX12_enters 98 = .ok (.getfield 22, 3) := by decide +kernel
theorem dX12_enters_101 : decode cX12_enters 101 = .ok (.aload_n 0, 1) := by decide +kernel
theorem dX12_enters_102 : decode cX12_enters 102 = .ok (.getfield 139, 3) := by decide +kernel
theorem dX12_enters_105 : decode cX12_enters 105 = .ok (.dup2, 1) := by decide +kernel
theorem dX12_enters_106 : decode cX12_enters 106 = .ok (.iaload, 1) := by decide +kernel
theorem dX12_enters_107 : decode cX12_enters 107 = .ok (.iconst 1, 1) := by decide +kernel
theorem dX12_enters_108 : decode cX12_enters 108 = .ok (.iadd, 1) := by decide +kernel
theorem dX12_enters_109 : decode cX12_enters 109 = .ok (.iastore, 1) := by decide +kernel
theorem dX12_enters_110 : decode cX12_enters 110 = .ok (.aload_n 0, 1) := by decide +kernel
theorem dX12_enters_111 : decode cX12_enters 111 = .ok (.invokevirtual 166, 3) := by decide +kernel
theorem dX12_enters_114 : decode cX12_enters 114 = .ok (.iconst 1, 1) := by decide +kernel
theorem dX12_enters_115 : decode cX12_enters 115 = .ok (.ireturn, 1) := by decide +kernel
theorem dX12_enter_0 : decode cX12_enter 0 = .ok (.aload_n 0, 1) := by decide +kernel
theorem dX12_enter_1 : decode cX12_enter 1 = .ok (.invokevirtual 135, 3) := by decide +kernel
theorem dX12_enter_4 : decode cX12_enter 4 = .ok (.iconst (-1), 1) := by decide +kernel
theorem dX12_enter_5 : decode cX12_enter 5 = .ok (.if_icmp .ne 7, 3) := by decide +kernel
theorem dX12_enter_8 : decode cX12_enter 8 = .ok (.iconst 1, 1) := by decide +kernel
theorem dX12_enter_9 : decode cX12_enter 9 = .ok (.goto 4, 3) := by decide +kernel
theorem dX12_enter_12 : decode cX12_enter 12 = .ok (.iconst 0, 1) := by decide +kernel
theorem dX12_enter_13 : decode cX12_enter 13 = .ok (.istore_n 1, 1) := by decide +kernel
theorem dX12_enter_14 : decode cX12_enter 14 = .ok (.aload_n 0, 1) := by decide +kernel
theorem dX12_enter_15 : decode cX12_enter 15 = .ok (.iload_n 1, 1) := by decide +kernel
theorem dX12_enter_16 : decode cX12_enter 16 = .ok (.iload_n 1, 1) := by decide +kernel
theorem dX12_enter_17 : decode cX12_enter 17 = .ok (.ifCond .eq 14, 3) := by decide +kernel
theorem dX12_enter_20 : decode cX12_enter 20 = .ok (.aload_n 0, 1) := by decide +kernel
theorem dX12_enter_21 : decode cX12_enter 21 = .ok (.invokevirtual 169, 3) := by decide +kernel
theorem dX12_enter_24 : decode cX12_enter 24 = .ok (.ifCond .eq 7, 3) := by decide +kernel
theorem dX12_enter_27 : decode cX12_enter 27 = .ok (.iconst 1, 1) := by decide +kernel
theorem dX12_enter_28 : decode cX12_enter 28 = .ok (.goto 4, 3) := by decide +kernel
theorem dX12_enter_31 : decode cX12_enter 31 = .ok (.iconst 0, 1) := by decide +kernel
theorem dX12_enter_32 : decode cX12_enter 32 = .ok (.iconst 1, 1) := by decide +kernel
theorem dX12_enter_33 : decode cX12_enter 33 = .ok (.invokevirtual 131, 3) := by decide +kernel
theorem dX12_enter_36 : decode cX12_enter 36 = .ok (.ifCond .eq 15, 3) := by decide +kernel
theorem dX12_enter_39 : decode cX12_enter 39 = .ok (.aload_n 0, 1) := by decide +kernel
theorem dX12_enter_40 : decode cX12_enter 40 = .ok (.getfield 19, 3) := by decide +kernel
theorem dX12_enter_43 : decode cX12_enter 43 = .ok (.aload_n 0, 1) := by decide +kernel
theorem dX12_enter_44 : decode cX12_enter 44 = .ok (.getfield 139, 3) := by decide +kernel
theorem dX12_enter_47 : decode cX12_enter 47 = .ok (.iaload, 1) := by decide +kernel
theorem dX12_enter_48 : decode cX12_enter 48 = .ok (.goto 4, 3) := by decide +kernel
theorem dX12_enter_51 : decode cX12_enter 51 = .ok (.iconst 0, 1) := by decide +kernel
theorem dX12_enter_52 : decode cX12_enter 52 = .ok (.ireturn, 1) := by decide +kernel
theorem dX12_undo_0 : decode cX12_undo 0 = .ok (.aload_n 0, 1) := by decide +kernel
theorem dX12_undo_1 : decode cX12_undo 1 = .ok (.aload_n 0, 1) := by decide +kernel
theorem dX12_undo_2 : decode cX12_undo 2 = .ok (.getfield 22, 3) := by decide +kernel
theorem dX12_undo_5 : decode cX12_undo 5 = .ok (.aload_n 0, 1) := by decide +kernel
theorem dX12_undo_6 : decode cX12_undo 6 = .ok (.getfield 139, 3) := by decide +kernel
theorem dX12_undo_9 : decode cX12_undo 9 = .ok (.iaload, 1) := by decide +kernel
theorem dX12_undo_10 : decode cX12_undo 10 = .ok (.ifCond .le 7, 3) := by decide +kernel
theorem dX12_undo_13 : decode cX12_undo 13 = .ok (.iconst 1, 1) := by decide +kernel
theorem dX12_undo_14 : decode cX12_undo 14 = .ok (.goto 4, 3) := by decide +kernel
theorem dX12_undo_17 : decode cX12_undo 17 = .ok (.iconst 0, 1) := by decide +kernel
theorem dX12_undo_18 : decode cX12_undo 18 = .ok (.iconst 1, 1) := by decide +kernel
theorem dX12_undo_19 : decode cX12_undo 19 = .ok (.iconst 1, 1) := by decide +kernel
theorem dX12_undo_20 : decode cX12_undo 20 = .ok (.invokevirtual 131, 3) := by decide +kernel
theorem dX12_undo_23 : decode cX12_undo 23 = .ok (.ifCond .ne 5, 3) := by decide +kernel
theorem dX12_undo_26 : decode cX12_undo 26 = .ok (.iconst 0, 1) := by decide +kernel
theorem dX12_undo_27 : decode cX12_undo 27 = .ok (.ireturn, 1) := by decide +kernel
theorem dX12_undo_28 : decode cX12_undo 28 = .ok (.aload_n 0, 1) := by decide +kernel
theorem dX12_undo_29 : decode cX12_undo 29 = .ok (.getfield 22, 3) := by decide +kernel
theorem dX12_undo_32 : decode cX12_undo 32 = .ok (.aload_n 0, 1) := by decide +kernel
theorem dX12_undo_33 : decode cX12_undo 33 = .ok (.getfield 139, 3) := by decide +kernel
theorem dX12_undo_36 : decode cX12_undo 36 = .ok (.dup2, 1) := by decide +kernel
theorem dX12_undo_37 : decode cX12_undo 37 = .ok (.iaload, 1) := by decide +kernel
theorem dX12_undo_38 : decode cX12_undo 38 = .ok (.iconst 1, 1) := by decide +kernel
theorem dX12_undo_39 : decode cX12_undo 39 = .ok (.isub, 1) := by decide +kernel
theorem dX12_undo_40 : decode cX12_undo 40 = .ok (.iastore, 1) := by decide +kernel
theorem dX12_undo_41 : decode cX12_undo 41 = .ok (.aload_n 0, 1) := by decide +kernel
theorem dX12_undo_42 : decode cX12_undo 42 = .ok (.getfield 19, 3) := by decide +kernel
theorem dX12_undo_45 : decode cX12_undo 45 = .ok (.aload_n 0, 1) := by decide +kernel
theorem dX12_undo_46 : decode cX12_undo 46 = .ok (.getfield 139, 3) := by decide +kernel
theorem dX12_undo_49 : decode cX12_undo 49 = .ok (.aload_n 0, 1) := by decide +kernel
theorem dX12_undo_50 : decode cX12_undo 50 = .ok (.getfield 25, 3) := by decide +kernel
theorem dX12_undo_53 : decode cX12_undo 53 = .ok (.bipush 24, 2) := by decide +kernel
theorem dX12_undo_55 : decode cX12_undo 55 = .ok (.aload_n 0, 1) := by decide +kernel
theorem dX12_undo_56 : decode cX12_undo 56 = .ok (.getfield 139, 3) := by decide +kernel
theorem dX12_undo_59 : decode cX12_undo 59 = .ok (.imul, 1) := by decide +kernel
theorem dX12_undo_60 : decode cX12_undo 60 = .ok (.aload_n 0, 1) := by decide +kernel
theorem dX12_undo_61 : decode cX12_undo 61 = .ok (.getfield 22, 3) := by decide +kernel
theorem dX12_undo_64 : decode cX12_undo 64 = .ok (.aload_n 0, 1) := by decide +kernel
theorem dX12_undo_65 : decode cX12_undo 65 = .ok (.getfield 139, 3) := by decide +kernel
theorem dX12_undo_68 : decode cX12_undo 68 = .ok (.iaload, 1) := by decide +kernel
theorem dX12_undo_69 : decode cX12_undo 69 = .ok (.iadd, 1) := by decide +kernel
theorem dX12_undo_70 : decode cX12_undo 70 = .ok (.iaload, 1) := by decide +kernel
theorem dX12_undo_71 : decode cX12_undo 71 = .ok (.iastore, 1) := by decide +kernel
theorem dX12_undo_72 : decode cX12_undo 72 = .ok (.aload_n 0, 1) := by decide +kernel
theorem dX12_undo_73 : decode cX12_undo 73 = .ok (.invokevirtual 166, 3) := by decide +kernel
theorem dX12_undo_76 : decode cX12_undo 76 = .ok (.aload_n 0, 1) := by decide +kernel
theorem dX12_undo_77 : decode cX12_undo 77 = .ok (.getfield 19, 3) := by decide +kernel
theorem dX12_undo_80 : decode cX12_undo 80 = .ok (.aload_n 0, 1) := by decide +kernel
theorem dX12_undo_81 : decode cX12_undo 81 = .ok (.getfield 139, 3) := by decide +kernel
theorem dX12_undo_84 : decode cX12_undo 84 = .ok (.iaload, 1) := by decide +kernel
theorem dX12_undo_85 : decode cX12_undo 85 = .ok (.ireturn, 1) := by decide +kernel
theorem dX12_use_0 : decode cX12_use 0 = .ok (.aload_n 0, 1) := by decide +kernel
theorem dX12_use_1 : decode cX12_use 1 = .ok (.iload_n 1, 1) := by decide +kernel
theorem dX12_use_2 : decode cX12_use 2 = .ok (.iconst 2, 1) := by decide +kernel
theorem dX12_use_3 : decode cX12_use 3 = .ok (.invokestatic 172, 3) := by decide +kernel
theorem dX12_use_6 : decode cX12_use 6 = .ok (.iconst 1, 1) := by decide +kernel
theorem dX12_use_7 : decode cX12_use 7 = .ok (.iconst 1, 1) := by decide +kernel
theorem dX12_use_8 : decode cX12_use 8 = .ok (.invokevirtual 131, 3) := by decide +kernel
theorem dX12_use_11 : decode cX12_use 11 = .ok (.ifCond .ne 5, 3) := by decide +kernel
theorem dX12_use_14 : decode cX12_use 14 = .ok (.iconst 0, 1) := by decide +kernel
theorem dX12_use_15 : decode cX12_use 15 = .ok (.ireturn, 1) := by decide +kernel
theorem dX12_use_16 : decode cX12_use 16 = .ok (.aload_n 0, 1) := by decide +kernel
theorem dX12_use_17 : decode cX12_use 17 = .ok (.getfield 139, 3) := by decide +kernel
theorem dX12_use_20 : decode cX12_use 20 = .ok (.istore_n 2, 1) := by decide +kernel
theorem dX12_use_21 : decode cX12_use 21 = .ok (.aload_n 0, 1) := by decide +kernel
theorem dX12_use_22 : decode cX12_use 22 = .ok (.iload_n 1, 1) := by decide +kernel
theorem dX12_use_23 : decode cX12_use 23 = .ok (.putfield 139, 3) := by decide +kernel
theorem dX12_use_26 : decode cX12_use 26 = .ok (.aload_n 0, 1) := by decide +kernel
theorem dX12_use_27 : decode cX12_use 27 = .ok (.invokevirtual 166, 3) := by decide +kernel
theorem dX12_use_30 : decode cX12_use 30 = .ok (.iload_n 2, 1) := by decide +kernel
theorem dX12_use_31 : decode cX12_use 31 = .ok (.ireturn, 1) := by decide +kernel
theorem dX12_brings_0 : decode cX12_brings 0 = .ok (.aload_n 0, 1) := by decide +kernel
theorem dX12_brings_1 : decode cX12_brings 1 = .ok (.aload_n 0, 1) := by decide +kernel
theorem dX12_brings_2 : decode cX12_brings 2 = .ok (.getfield 28, 3) := by decide +kernel
theorem dX12_brings_5 : decode cX12_brings 5 = .ok (.iload_n 1, 1) := by decide +kernel
theorem dX12_brings_6 : decode cX12_brings 6 = .ok (.iaload, 1) := by decide +kernel
theorem dX12_brings_7 : decode cX12_brings 7 = .ok (.putfield 128, 3) := by decide +kernel
theorem dX12_brings_10 : decode cX12_brings 10 = .ok (.iconst 0, 1) := by decide +kernel
theorem dX12_brings_11 : decode cX12_brings 11 = .ok (.istore_n 3, 1) := by decide +kernel
theorem dX12_brings_12 : decode cX12_brings 12 = .ok (.iload_n 3, 1) := by decide +kernel
theorem dX12_brings_13 : decode cX12_brings 13 = .ok (.aload_n 0, 1) := by decide +kernel
theorem dX12_brings_14 : decode cX12_brings 14 = .ok (.getfield 128, 3) := by decide +kernel
theorem dX12_brings_17 : decode cX12_brings 17 = .ok (.if_icmp .ge 54, 3) := by decide +kernel
theorem dX12_brings_20 : decode cX12_brings 20 = .ok (.aload_n 0, 1) := by decide +kernel
theorem dX12_brings_21 : decode cX12_brings 21 = .ok (.getfield 31, 3) := by decide +kernel
theorem dX12_brings_24 : decode cX12_brings 24 = .ok (.bipush 24, 2) := by decide +kernel
theorem dX12_brings_26 : decode cX12_brings 26 = .ok (.iload_n 1, 1) := by decide +kernel
theorem dX12_brings_27 : decode cX12_brings 27 = .ok (.imul, 1) := by decide +kernel
theorem dX12_brings_28 : decode cX12_brings 28 = .ok (.iload_n 3, 1) := by decide +kernel
theorem dX12_brings_29 : decode cX12_brings 29 = .ok (.iadd, 1) := by decide +kernel
theorem dX12_brings_30 : decode cX12_brings 30 = .ok (.iaload, 1) := by decide +kernel
theorem dX12_brings_31 : decode cX12_brings 31 = .ok (.istore 4, 2) := by decide +kernel
theorem dX12_brings_33 : decode cX12_brings 33 = .ok (.aload_n 0, 1) := by decide +kernel
theorem dX12_brings_34 : decode cX12_brings 34 = .ok (.getfield 43, 3) := by decide +kernel
theorem dX12_brings_37 : decode cX12_brings 37 = .ok (.iload_n 3, 1) := by decide +kernel
theorem dX12_brings_38 : decode cX12_brings 38 = .ok (.iload 4, 2) := by decide +kernel
theorem dX12_brings_40 : decode cX12_brings 40 = .ok (.invokestatic 122, 3) := by decide +kernel
theorem dX12_brings_43 : decode cX12_brings 43 = .ok (.ifCond .eq 19, 3) := by decide +kernel
theorem dX12_brings_46 : decode cX12_brings 46 = .ok (.bipush 65, 2) := by decide +kernel
theorem dX12_brings_48 : decode cX12_brings 48 = .ok (.iload 4, 2) := by decide +kernel
theorem dX12_brings_50 : decode cX12_brings 50 = .ok (.bipush 65, 2) := by decide +kernel
theorem dX12_brings_52 : decode cX12_brings 52 = .ok (.isub, 1) := by decide +kernel
theorem dX12_brings_53 : decode cX12_brings 53 = .ok (.iload_n 2, 1) := by decide +kernel
theorem dX12_brings_54 : decode cX12_brings 54 = .ok (.iadd, 1) := by decide +kernel
theorem dX12_brings_55 : decode cX12_brings 55 = .ok (.bipush 8, 2) := by decide +kernel
theorem dX12_brings_57 : decode cX12_brings 57 = .ok (.irem, 1) := by decide +kernel
theorem dX12_brings_58 : decode cX12_brings 58 = .ok (.iadd, 1) := by decide +kernel
theorem dX12_brings_59 : decode cX12_brings 59 = .ok (.goto 5, 3) := by decide +kernel
theorem dX12_brings_62 : decode cX12_brings 62 = .ok (.iload 4, 2) := by decide +kernel
theorem dX12_brings_64 : decode cX12_brings 64 = .ok (.iastore, 1) := by decide +kernel
theorem dX12_brings_65 : decode cX12_brings 65 = .ok (.iinc 3 1, 3) := by decide +kernel
theorem dX12_brings_68 : decode cX12_brings 68 = .ok (.goto (-56), 3) := by decide +kernel
theorem dX12_brings_71 : decode cX12_brings 71 = .ok (.return_, 1) := by decide +kernel
theorem dX12_bringsAll_0 : decode cX12_bringsAll 0 = .ok (.aload_n 0, 1) := by decide +kernel
theorem dX12_bringsAll_1 : decode cX12_bringsAll 1 = .ok (.getfield 22, 3) := by decide +kernel
theorem dX12_bringsAll_4 : decode cX12_bringsAll 4 = .ok (.aload_n 0, 1) := by decide +kernel
theorem dX12_bringsAll_5 : decode cX12_bringsAll 5 = .ok (.getfield 139, 3) := by decide +kernel
theorem dX12_bringsAll_8 : decode cX12_bringsAll 8 = .ok (.iaload, 1) := by decide +kernel
theorem dX12_bringsAll_9 : decode cX12_bringsAll 9 = .ok (.istore_n 2, 1) := by decide +kernel
theorem dX12_bringsAll_10 : decode cX12_bringsAll 10 = .ok (.aload_n 0, 1) := by decide +kernel
theorem dX12_bringsAll_11 : decode cX12_bringsAll 11 = .ok (.getfield 19, 3) := by decide +kernel
theorem dX12_bringsAll_14 : decode cX12_bringsAll 14 = .ok (.aload_n 0, 1) := by decide +kernel
theorem dX12_bringsAll_15 : decode cX12_bringsAll 15 = .ok (.getfield 139, 3) := by decide +kernel
theorem dX12_bringsAll_18 : decode cX12_bringsAll 18 = .ok (.iaload, 1) := by decide +kernel
theorem dX12_bringsAll_19 : decode cX12_bringsAll 19 = .ok (.istore_n 3, 1) := by decide +kernel
theorem dX12_bringsAll_20 : decode cX12_bringsAll 20 = .ok (.iconst 1, 1) := by decide +kernel
theorem dX12_bringsAll_21 : decode cX12_bringsAll 21 = .ok (.istore 4, 2) := by decide +kernel
theorem dX12_bringsAll_23 : decode cX12_bringsAll 23 = .ok (.iconst 0, 1) := by decide +kernel
theorem dX12_bringsAll_24 : decode cX12_bringsAll 24 = .ok (.istore 5, 2) := by decide +kernel
theorem dX12_bringsAll_26 : decode cX12_bringsAll 26 = .ok (.iload 5, 2) := by decide +kernel
theorem dX12_bringsAll_28 : decode cX12_bringsAll 28 = .ok (.aload_n 0, 1) := by decide +kernel
theorem dX12_bringsAll_29 : decode cX12_bringsAll 29 = .ok (.getfield 22, 3) := by decide +kernel
theorem dX12_bringsAll_32 : decode cX12_bringsAll 32 = .ok (.iconst 1, 1) := by decide +kernel
theorem dX12_bringsAll_33 : decode cX12_bringsAll 33 = .ok (.aload_n 0, 1) := by decide +kernel
theorem dX12_bringsAll_34 : decode cX12_bringsAll 34 = .ok (.getfield 139, 3) := by decide +kernel
theorem dX12_bringsAll_37 : decode cX12_bringsAll 37 = .ok (.isub, 1) := by decide +kernel
theorem dX12_bringsAll_38 : decode cX12_bringsAll 38 = .ok (.iaload, 1) := by decide +kernel
theorem dX12_bringsAll_39 : decode cX12_bringsAll 39 = .ok (.if_icmp .ge 37, 3) := by decide +kernel
theorem dX12_bringsAll_42 : decode cX12_bringsAll 42 = .ok (.iload 4, 2) := by decide +kernel
theorem dX12_bringsAll_44 : decode cX12_bringsAll 44 = .ok (.ifCond .eq 32, 3) := by decide +kernel
theorem dX12_bringsAll_47 : decode cX12_bringsAll 47 = .ok (.aload_n 0, 1) := by decide +kernel
theorem dX12_bringsAll_48 : decode cX12_bringsAll 48 = .ok (.bipush 24, 2) := by decide +kernel
theorem dX12_bringsAll_50 : decode cX12_bringsAll 50 = .ok (.iconst 1, 1) := by decide +kernel
theorem dX12_bringsAll_51 : decode cX12_bringsAll 51 = .ok (.aload_n 0, 1) := by decide +kernel
theorem dX12_bringsAll_52 : decode cX12_bringsAll 52 = .ok (.getfield 139, 3) := by decide +kernel
theorem dX12_bringsAll_55 : decode cX12_bringsAll 55 = .ok (.isub, 1) := by decide +kernel
theorem dX12_bringsAll_56 : decode cX12_bringsAll 56 = .ok (.imul, 1) := by decide +kernel
theorem dX12_bringsAll_57 : decode cX12_bringsAll 57 = .ok (.iload 5, 2) := by decide +kernel
theorem dX12_bringsAll_59 : decode cX12_bringsAll 59 = .ok (.iadd, 1) := by decide +kernel
theorem dX12_bringsAll_60 : decode cX12_bringsAll 60 = .ok (.iload_n 1, 1) := by decide +kernel
theorem dX12_bringsAll_61 : decode cX12_bringsAll 61 = .ok (.invokevirtual 175, 3) := by decide +kernel
theorem dX12_bringsAll_64 : decode cX12_bringsAll 64 = .ok (.aload_n 0, 1) := by decide +kernel
theorem dX12_bringsAll_65 : decode cX12_bringsAll 65 = .ok (.invokevirtual 169, 3) := by decide +kernel
theorem dX12_bringsAll_68 : decode cX12_bringsAll 68 = .ok (.istore 4, 2) := by decide +kernel
theorem dX12_bringsAll_70 : decode cX12_bringsAll 70 = .ok (.iinc 5 1, 3) := by decide +kernel
theorem dX12_bringsAll_73 : decode cX12_bringsAll 73 = .ok (.goto (-47), 3) := by decide +kernel
theorem dX12_bringsAll_76 : decode cX12_bringsAll 76 = .ok (.aload_n 0, 1) := by decide +kernel
theorem dX12_bringsAll_77 : decode cX12_bringsAll 77 = .ok (.getfield 22, 3) := by decide +kernel
theorem dX12_bringsAll_80 : decode cX12_bringsAll 80 = .ok (.aload_n 0, 1) := by decide +kernel
theorem dX12_bringsAll_81 : decode cX12_bringsAll 81 = .ok (.getfield 139, 3) := by decide +kernel
theorem dX12_bringsAll_84 : decode cX12_bringsAll 84 = .ok (.iload 4, 2) := by decide +kernel
theorem dX12_bringsAll_86 : decode cX12_bringsAll 86 = .ok (.ifCond .eq 15, 3) := by decide +kernel
theorem dX12_bringsAll_89 : decode cX12_bringsAll 89 = .ok (.aload_n 0, 1) := by decide +kernel
theorem dX12_bringsAll_90 : decode cX12_bringsAll 90 = .ok (.getfield 22, 3) := by decide +kernel
theorem dX12_bringsAll_93 : decode cX12_bringsAll 93 = .ok (.aload_n 0, 1) := by decide +kernel
theorem dX12_bringsAll_94 : decode cX12_bringsAll 94 = .ok (.getfield 139, 3) := by decide +kernel
theorem dX12_bringsAll_97 : decode cX12_bringsAll 97 = .ok (.iaload, 1) := by decide +kernel
theorem dX12_bringsAll_98 : decode cX12_bringsAll 98 = .ok (.goto 4, 3) := by decide +kernel
theorem dX12_bringsAll_101 : decode cX12_bringsAll 101 = .ok (.iload_n 2, 1) := by decide +kernel
theorem dX12_bringsAll_102 : decode cX12_bringsAll 102 = .ok (.iastore, 1) := by decide +kernel
theorem dX12_bringsAll_103 : decode cX12_bringsAll 103 = .ok (.aload_n 0, 1) := by decide +kernel
theorem dX12_bringsAll_104 : decode cX12_bringsAll 104 = .ok (.getfield 19, 3) := by decide +kernel
theorem dX12_bringsAll_107 : decode cX12_bringsAll 107 = .ok (.aload_n 0, 1) := by decide +kernel
theorem dX12_bringsAll_108 : decode cX12_bringsAll 108 = .ok (.getfield 139, 3) := by decide +kernel
theorem dX12_bringsAll_111 : decode cX12_bringsAll 111 = .ok (.iload 4, 2) := by decide +kernel
theorem dX12_bringsAll_113 : decode cX12_bringsAll 113 = .ok (.ifCond .eq 15, 3) := by decide +kernel
theorem dX12_bringsAll_116 : decode cX12_bringsAll 116 = .ok (.aload_n 0, 1) := by decide +kernel
theorem dX12_bringsAll_117 : decode cX12_bringsAll 117 = .ok (.getfield 19, 3) := by decide +kernel
theorem dX12_bringsAll_120 : decode cX12_bringsAll 120 = .ok (.aload_n 0, 1) := by decide +kernel
theorem dX12_bringsAll_121 : decode cX12_bringsAll 121 = .ok (.getfield 139, 3) := by decide +kernel
theorem dX12_bringsAll_124 : decode cX12_bringsAll 124 = .ok (.iaload, 1) := by decide +kernel
theorem dX12_bringsAll_125 : decode cX12_bringsAll 125 = .ok (.goto 4, 3) := by decide +kernel
theorem dX12_bringsAll_128 : decode cX12_bringsAll 128 = .ok (.iload_n 3, 1) := by decide +kernel
theorem dX12_bringsAll_129 : decode cX12_bringsAll 129 = .ok (.iastore, 1) := by decide +kernel
theorem dX12_bringsAll_130 : decode cX12_bringsAll 130 = .ok (.aload_n 0, 1) := by decide +kernel
theorem dX12_bringsAll_131 : decode cX12_bringsAll 131 = .ok (.invokevirtual 166, 3) := by decide +kernel
theorem dX12_bringsAll_134 : decode cX12_bringsAll 134 = .ok (.iload 4, 2) := by decide +kernel
theorem dX12_bringsAll_136 : decode cX12_bringsAll 136 = .ok (.ireturn, 1) := by decide +kernel
theorem dX12_bring_0 : decode cX12_bring 0 = .ok (.aload_n 0, 1) := by decide +kernel
theorem dX12_bring_1 : decode cX12_bring 1 = .ok (.getfield 128, 3) := by decide +kernel
theorem dX12_bring_4 : decode cX12_bring 4 = .ok (.istore_n 2, 1) := by decide +kernel
theorem dX12_bring_5 : decode cX12_bring 5 = .ok (.iconst 0, 1) := by decide +kernel
theorem dX12_bring_6 : decode cX12_bring 6 = .ok (.istore_n 3, 1) := by decide +kernel
theorem dX12_bring_7 : decode cX12_bring 7 = .ok (.iload_n 3, 1) := by decide +kernel
theorem dX12_bring_8 : decode cX12_bring 8 = .ok (.aload_n 0, 1) := by decide +kernel
theorem dX12_bring_9 : decode cX12_bring 9 = .ok (.getfield 128, 3) := by decide +kernel
theorem dX12_bring_12 : decode cX12_bring 12 = .ok (.if_icmp .ge 21, 3) := by decide +kernel
theorem dX12_bring_15 : decode cX12_bring 15 = .ok (.aload_n 0, 1) := by decide +kernel
theorem dX12_bring_16 : decode cX12_bring 16 = .ok (.getfield 92, 3) := by decide +kernel
theorem dX12_bring_19 : decode cX12_bring 19 = .ok (.iload_n 3, 1) := by decide +kernel
theorem dX12_bring_20 : decode cX12_bring 20 = .ok (.aload_n 0, 1) := by decide +kernel
theorem dX12_bring_21 : decode cX12_bring 21 = .ok (.getfield 43, 3) := by decide +kernel
theorem dX12_bring_24 : decode cX12_bring 24 = .ok (.iload_n 3, 1) := by decide +kernel
theorem dX12_bring_25 : decode cX12_bring 25 = .ok (.iaload, 1) := by decide +kernel
theorem dX12_bring_26 : decode cX12_bring 26 = .ok (.iastore, 1) := by decide +kernel
theorem dX12_bring_27 : decode cX12_bring 27 = .ok (.iinc 3 1, 3) := by decide +kernel
theorem dX12_bring_30 : decode cX12_bring 30 = .ok (.goto (-23), 3) := by decide +kernel
theorem dX12_bring_33 : decode cX12_bring 33 = .ok (.iload_n 1, 1) := by decide +kernel
theorem dX12_bring_34 : decode cX12_bring 34 = .ok (.bipush 8, 2) := by decide +kernel
theorem dX12_bring_36 : decode cX12_bring 36 = .ok (.invokestatic 172, 3) := by decide +kernel
theorem dX12_bring_39 : decode cX12_bring 39 = .ok (.istore_n 3, 1) := by decide +kernel
theorem dX12_bring_40 : decode cX12_bring 40 = .ok (.iload_n 3, 1) := by decide +kernel
theorem dX12_bring_41 : decode cX12_bring 41 = .ok (.ifCond .eq 15, 3) := by decide +kernel
theorem dX12_bring_44 : decode cX12_bring 44 = .ok (.aload_n 0, 1) := by decide +kernel
theorem dX12_bring_45 : decode cX12_bring 45 = .ok (.iload_n 1, 1) := by decide +kernel
theorem dX12_bring_46 : decode cX12_bring 46 = .ok (.invokevirtual 179, 3) := by decide +kernel
theorem dX12_bring_49 : decode cX12_bring 49 = .ok (.ifCond .eq 7, 3) := by decide +kernel
theorem dX12_bring_52 : decode cX12_bring 52 = .ok (.iconst 1, 1) := by decide +kernel
theorem dX12_bring_53 : decode cX12_bring 53 = .ok (.goto 4, 3) := by decide +kernel
theorem dX12_bring_56 : decode cX12_bring 56 = .ok (.iconst 0, 1) := by decide +kernel
theorem dX12_bring_57 : decode cX12_bring 57 = .ok (.istore 4, 2) := by decide +kernel
theorem dX12_bring_59 : decode cX12_bring 59 = .ok (.aload_n 0, 1) := by decide +kernel
theorem dX12_bring_60 : decode cX12_bring 60 = .ok (.iload_n 2, 1) := by decide +kernel
theorem dX12_bring_61 : decode cX12_bring 61 = .ok (.putfield 128, 3) := by decide +kernel
theorem dX12_bring_64 : decode cX12_bring 64 = .ok (.iconst 0, 1) := by decide +kernel
theorem dX12_bring_65 : decode cX12_bring 65 = .ok (.istore 5, 2) := by decide +kernel
theorem dX12_bring_67 : decode cX12_bring 67 = .ok (.iload 5, 2) := by decide +kernel
theorem dX12_bring_69 : decode cX12_bring 69 = .ok (.aload_n 0, 1) := by decide +kernel
theorem dX12_bring_70 : decode cX12_bring 70 = .ok (.getfield 128, 3) := by decide +kernel
theorem dX12_bring_73 : decode cX12_bring 73 = .ok (.if_icmp .ge 23, 3) := by decide +kernel
theorem dX12_bring_76 : decode cX12_bring 76 = .ok (.aload_n 0, 1) := by decide +kernel
theorem dX12_bring_77 : decode cX12_bring 77 = .ok (.getfield 43, 3) := by decide +kernel
theorem dX12_bring_80 : decode cX12_bring 80 = .ok (.iload 5, 2) := by decide +kernel
theorem dX12_bring_82 : decode cX12_bring 82 = .ok (.aload_n 0, 1) := by decide +kernel
theorem dX12_bring_83 : decode cX12_bring 83 = .ok (.getfield 92, 3) := by decide +kernel
theorem dX12_bring_86 : decode cX12_bring 86 = .ok (.iload 5, 2) := by decide +kernel
theorem dX12_bring_88 : decode cX12_bring 88 = .ok (.iaload, 1) := by decide +kernel
theorem dX12_bring_89 : decode cX12_bring 89 = .ok (.iastore, 1) := by decide +kernel
theorem dX12_bring_90 : decode cX12_bring 90 = .ok (.iinc 5 1, 3) := by decide +kernel
theorem dX12_bring_93 : decode cX12_bring 93 = .ok (.goto (-26), 3) := by decide +kernel
theorem dX12_bring_96 : decode cX12_bring 96 = .ok (.aload_n 0, 1) := by decide +kernel
theorem dX12_bring_97 : decode cX12_bring 97 = .ok (.iload_n 3, 1) := by decide +kernel
theorem dX12_bring_98 : decode cX12_bring 98 = .ok (.iload 4, 2) := by decide +kernel
theorem dX12_bring_100 : decode cX12_bring 100 = .ok (.iconst 1, 1) := by decide +kernel
theorem dX12_bring_101 : decode cX12_bring 101 = .ok (.invokevirtual 131, 3) := by decide +kernel
theorem dX12_bring_104 : decode cX12_bring 104 = .ok (.ifCond .eq 17, 3) := by decide +kernel
theorem dX12_bring_107 : decode cX12_bring 107 = .ok (.aload_n 0, 1) := by decide +kernel
theorem dX12_bring_108 : decode cX12_bring 108 = .ok (.getfield 22, 3) := by decide +kernel
theorem dX12_bring_111 : decode cX12_bring 111 = .ok (.iconst 1, 1) := by decide +kernel
theorem dX12_bring_112 : decode cX12_bring 112 = .ok (.aload_n 0, 1) := by decide +kernel
theorem dX12_bring_113 : decode cX12_bring 113 = .ok (.getfield 139, 3) := by decide +kernel
theorem dX12_bring_116 : decode cX12_bring 116 = .ok (.isub, 1) := by decide +kernel
theorem dX12_bring_117 : decode cX12_bring 117 = .ok (.iaload, 1) := by decide +kernel
theorem dX12_bring_118 : decode cX12_bring 118 = .ok (.goto 4, 3) := by decide +kernel
theorem dX12_bring_121 : decode cX12_bring 121 = .ok (.iconst 0, 1) := by decide +kernel
theorem dX12_bring_122 : decode cX12_bring 122 = .ok (.ireturn, 1) := by decide +kernel
theorem dX12_start_0 : decode cX12_start 0 = .ok (.aload_n 0, 1) := by decide +kernel
theorem dX12_start_1 : decode cX12_start 1 = .ok (.iload_n 1, 1) := by decide +kernel
theorem dX12_start_2 : decode cX12_start 2 = .ok (.bipush 8, 2) := by decide +kernel
theorem dX12_start_4 : decode cX12_start 4 = .ok (.invokestatic 172, 3) := by decide +kernel
theorem dX12_start_7 : decode cX12_start 7 = .ok (.iconst 1, 1) := by decide +kernel
theorem dX12_start_8 : decode cX12_start 8 = .ok (.iconst 1, 1) := by decide +kernel
theorem dX12_start_9 : decode cX12_start 9 = .ok (.invokevirtual 131, 3) := by decide +kernel
theorem dX12_start_12 : decode cX12_start 12 = .ok (.ifCond .ne 5, 3) := by decide +kernel
theorem dX12_start_15 : decode cX12_start 15 = .ok (.iconst 0, 1) := by decide +kernel
theorem dX12_start_16 : decode cX12_start 16 = .ok (.ireturn, 1) := by decide +kernel
theorem dX12_start_17 : decode cX12_start 17 = .ok (.aload_n 0, 1) := by decide +kernel
theorem dX12_start_18 : decode cX12_start 18 = .ok (.getfield 34, 3) := by decide +kernel
theorem dX12_start_21 : decode cX12_start 21 = .ok (.aload_n 0, 1) := by decide +kernel
theorem dX12_start_22 : decode cX12_start 22 = .ok (.getfield 139, 3) := by decide +kernel
theorem dX12_start_25 : decode cX12_start 25 = .ok (.iaload, 1) := by decide +kernel
theorem dX12_start_26 : decode cX12_start 26 = .ok (.istore_n 2, 1) := by decide +kernel
theorem dX12_start_27 : decode cX12_start 27 = .ok (.aload_n 0, 1) := by decide +kernel
theorem dX12_start_28 : decode cX12_start 28 = .ok (.getfield 34, 3) := by decide +kernel
theorem dX12_start_31 : decode cX12_start 31 = .ok (.aload_n 0, 1) := by decide +kernel
theorem dX12_start_32 : decode cX12_start 32 = .ok (.getfield 139, 3) := by decide +kernel
theorem dX12_start_35 : decode cX12_start 35 = .ok (.iload_n 1, 1) := by decide +kernel
theorem dX12_start_36 : decode cX12_start 36 = .ok (.iastore, 1) := by decide +kernel
theorem dX12_start_37 : decode cX12_start 37 = .ok (.aload_n 0, 1) := by decide +kernel
theorem dX12_start_38 : decode cX12_start 38 = .ok (.invokevirtual 166, 3) := by decide +kernel
theorem dX12_start_41 : decode cX12_start 41 = .ok (.iload_n 2, 1) := by decide +kernel
theorem dX12_start_42 : decode cX12_start 42 = .ok (.ireturn, 1) := by decide +kernel
theorem dX12_level_0 : decode cX12_level 0 = .ok (.aload_n 0, 1) := by decide +kernel
theorem dX12_level_1 : decode cX12_level 1 = .ok (.iload_n 1, 1) := by decide +kernel
theorem dX12_level_2 : decode cX12_level 2 = .ok (.bipush 8, 2) := by decide +kernel
theorem dX12_level_4 : decode cX12_level 4 = .ok (.invokestatic 172, 3) := by decide +kernel
theorem dX12_level_7 : decode cX12_level 7 = .ok (.ifCond .eq 16, 3) := by decide +kernel
theorem dX12_level_10 : decode cX12_level 10 = .ok (.iload_n 3, 1) := by decide +kernel
theorem dX12_level_11 : decode cX12_level 11 = .ok (.ifCond .lt 12, 3) := by decide +kernel
theorem dX12_level_14 : decode cX12_level 14 = .ok (.iload_n 3, 1) := by decide +kernel
theorem dX12_level_15 : decode cX12_level 15 = .ok (.iconst 2, 1) := by decide +kernel
theorem dX12_level_16 : decode cX12_level 16 = .ok (.if_icmp .gt 7, 3) := by decide +kernel
theorem dX12_level_19 : decode cX12_level 19 = .ok (.iconst 1, 1) := by decide +kernel
theorem dX12_level_20 : decode cX12_level 20 = .ok (.goto 4, 3) := by decide +kernel
theorem dX12_level_23 : decode cX12_level 23 = .ok (.iconst 0, 1) := by decide +kernel
theorem dX12_level_24 : decode cX12_level 24 = .ok (.iload_n 2, 1) := by decide +kernel
theorem dX12_level_25 : decode cX12_level 25 = .ok (.ifCond .lt 12, 3) := by decide +kernel
theorem dX12_level_28 : decode cX12_level 28 = .ok (.iload_n 2, 1) := by decide +kernel
theorem dX12_level_29 : decode cX12_level 29 = .ok (.iconst 5, 1) := by decide +kernel
theorem dX12_level_30 : decode cX12_level 30 = .ok (.if_icmp .gt 7, 3) := by decide +kernel
theorem dX12_level_33 : decode cX12_level 33 = .ok (.iconst 1, 1) := by decide +kernel
theorem dX12_level_34 : decode cX12_level 34 = .ok (.goto 4, 3) := by decide +kernel
theorem dX12_level_37 : decode cX12_level 37 = .ok (.iconst 0, 1) := by decide +kernel
theorem dX12_level_38 : decode cX12_level 38 = .ok (.iconst 1, 1) := by decide +kernel
theorem dX12_level_39 : decode cX12_level 39 = .ok (.invokevirtual 131, 3) := by decide +kernel
theorem dX12_level_42 : decode cX12_level 42 = .ok (.ifCond .ne 5, 3) := by decide +kernel
theorem dX12_level_45 : decode cX12_level 45 = .ok (.iconst 0, 1) := by decide +kernel
theorem dX12_level_46 : decode cX12_level 46 = .ok (.ireturn, 1) := by decide +kernel
theorem dX12_level_47 : decode cX12_level 47 = .ok (.aload_n 0, 1) := by decide +kernel
theorem dX12_level_48 : decode cX12_level 48 = .ok (.getfield 37, 3) := by decide +kernel
theorem dX12_level_51 : decode cX12_level 51 = .ok (.iload_n 1, 1) := by decide +kernel
theorem dX12_level_52 : decode cX12_level 52 = .ok (.iaload, 1) := by decide +kernel
theorem dX12_level_53 : decode cX12_level 53 = .ok (.istore 4, 2) := by decide +kernel
theorem dX12_level_55 : decode cX12_level 55 = .ok (.aload_n 0, 1) := by decide +kernel
theorem dX12_level_56 : decode cX12_level 56 = .ok (.getfield 37, 3) := by decide +kernel
theorem dX12_level_59 : decode cX12_level 59 = .ok (.iload_n 1, 1) := by decide +kernel
theorem dX12_level_60 : decode cX12_level 60 = .ok (.iload_n 2, 1) := by decide +kernel
theorem dX12_level_61 : decode cX12_level 61 = .ok (.iastore, 1) := by decide +kernel
theorem dX12_level_62 : decode cX12_level 62 = .ok (.aload_n 0, 1) := by decide +kernel
theorem dX12_level_63 : decode cX12_level 63 = .ok (.getfield 40, 3) := by decide +kernel
theorem dX12_level_66 : decode cX12_level 66 = .ok (.iload_n 1, 1) := by decide +kernel
theorem dX12_level_67 : decode cX12_level 67 = .ok (.iload_n 3, 1) := by decide +kernel
theorem dX12_level_68 : decode cX12_level 68 = .ok (.iastore, 1) := by decide +kernel
theorem dX12_level_69 : decode cX12_level 69 = .ok (.iload 4, 2) := by decide +kernel
theorem dX12_level_71 : decode cX12_level 71 = .ok (.ireturn, 1) := by decide +kernel
theorem dX12_productions_0 : decode cX12_productions 0 = .ok (.aload_n 0, 1) := by decide +kernel
theorem dX12_productions_1 : decode cX12_productions 1 = .ok (.iconst 0, 1) := by decide +kernel
theorem dX12_productions_2 : decode cX12_productions 2 = .ok (.putfield 104, 3) := by decide +kernel
theorem dX12_productions_5 : decode cX12_productions 5 = .ok (.aload_n 0, 1) := by decide +kernel
theorem dX12_productions_6 : decode cX12_productions 6 = .ok (.getfield 19, 3) := by decide +kernel
theorem dX12_productions_9 : decode cX12_productions 9 = .ok (.aload_n 0, 1) := by decide +kernel
theorem dX12_productions_10 : decode cX12_productions 10 = .ok (.getfield 139, 3) := by decide +kernel
theorem dX12_productions_13 : decode cX12_productions 13 = .ok (.iaload, 1) := by decide +kernel
theorem dX12_productions_14 : decode cX12_productions 14 = .ok (.ireturn, 1) := by decide +kernel
theorem dX12_left_0 : decode cX12_left 0 = .ok (.aload_n 0, 1) := by decide +kernel
theorem dX12_left_1 : decode cX12_left 1 = .ok (.iload_n 1, 1) := by decide +kernel
theorem dX12_left_2 : decode cX12_left 2 = .ok (.aload_n 0, 1) := by decide +kernel
theorem dX12_left_3 : decode cX12_left 3 = .ok (.getfield 19, 3) := by decide +kernel
theorem dX12_left_6 : decode cX12_left 6 = .ok (.aload_n 0, 1) := by decide +kernel
theorem dX12_left_7 : decode cX12_left 7 = .ok (.getfield 139, 3) := by decide +kernel
theorem dX12_left_10 : decode cX12_left 10 = .ok (.iaload, 1) := by decide +kernel
theorem dX12_left_11 : decode cX12_left 11 = .ok (.invokestatic 172, 3) := by decide +kernel
theorem dX12_left_14 : decode cX12_left 14 = .ok (.iconst 1, 1) := by decide +kernel
theorem dX12_left_15 : decode cX12_left 15 = .ok (.iconst 1, 1) := by decide +kernel
theorem dX12_left_16 : decode cX12_left 16 = .ok (.invokevirtual 131, 3) := by decide +kernel
theorem dX12_left_19 : decode cX12_left 19 = .ok (.ifCond .eq 20, 3) := by decide +kernel
theorem dX12_left_22 : decode cX12_left 22 = .ok (.aload_n 0, 1) := by decide +kernel
theorem dX12_left_23 : decode cX12_left 23 = .ok (.getfield 7, 3) := by decide +kernel
theorem dX12_left_26 : decode cX12_left 26 = .ok (.bipush 24, 2) := by decide +kernel
theorem dX12_left_28 : decode cX12_left 28 = .ok (.aload_n 0, 1) := by decide +kernel
theorem dX12_left_29 : decode cX12_left 29 = .ok (.getfield 139, 3) := by decide +kernel
theorem dX12_left_32 : decode cX12_left 32 = .ok (.imul, 1) := by decide +kernel
theorem dX12_left_33 : decode cX12_left 33 = .ok (.iload_n 1, 1) := by decide +kernel
theorem dX12_left_34 : decode cX12_left 34 = .ok (.iadd, 1) := by decide +kernel
theorem dX12_left_35 : decode cX12_left 35 = .ok (.iaload, 1) := by decide +kernel
theorem dX12_left_36 : decode cX12_left 36 = .ok (.goto 4, 3) := by decide +kernel
theorem dX12_left_39 : decode cX12_left 39 = .ok (.iconst 0, 1) := by decide +kernel
theorem dX12_left_40 : decode cX12_left 40 = .ok (.ireturn, 1) := by decide +kernel
theorem dX12_right_0 : decode cX12_right 0 = .ok (.aload_n 0, 1) := by decide +kernel
theorem dX12_right_1 : decode cX12_right 1 = .ok (.iload_n 1, 1) := by decide +kernel
theorem dX12_right_2 : decode cX12_right 2 = .ok (.aload_n 0, 1) := by decide +kernel
theorem dX12_right_3 : decode cX12_right 3 = .ok (.getfield 19, 3) := by decide +kernel
theorem dX12_right_6 : decode cX12_right 6 = .ok (.aload_n 0, 1) := by decide +kernel
theorem dX12_right_7 : decode cX12_right 7 = .ok (.getfield 139, 3) := by decide +kernel
theorem dX12_right_10 : decode cX12_right 10 = .ok (.iaload, 1) := by decide +kernel
theorem dX12_right_11 : decode cX12_right 11 = .ok (.invokestatic 172, 3) := by decide +kernel
theorem dX12_right_14 : decode cX12_right 14 = .ok (.ifCond .eq 15, 3) := by decide +kernel
theorem dX12_right_17 : decode cX12_right 17 = .ok (.iload_n 2, 1) := by decide +kernel
theorem dX12_right_18 : decode cX12_right 18 = .ok (.iconst 5, 1) := by decide +kernel
theorem dX12_right_19 : decode cX12_right 19 = .ok (.invokestatic 172, 3) := by decide +kernel
theorem dX12_right_22 : decode cX12_right 22 = .ok (.ifCond .eq 7, 3) := by decide +kernel
theorem dX12_right_25 : decode cX12_right 25 = .ok (.iconst 1, 1) := by decide +kernel
theorem dX12_right_26 : decode cX12_right 26 = .ok (.goto 4, 3) := by decide +kernel
theorem dX12_right_29 : decode cX12_right 29 = .ok (.iconst 0, 1) := by decide +kernel
theorem dX12_right_30 : decode cX12_right 30 = .ok (.iconst 1, 1) := by decide +kernel
theorem dX12_right_31 : decode cX12_right 31 = .ok (.iconst 1, 1) := by decide +kernel
theorem dX12_right_32 : decode cX12_right 32 = .ok (.invokevirtual 131, 3) := by decide +kernel
theorem dX12_right_35 : decode cX12_right 35 = .ok (.ifCond .ne 5, 3) := by decide +kernel
theorem dX12_right_38 : decode cX12_right 38 = .ok (.iconst 0, 1) := by decide +kernel
theorem dX12_right_39 : decode cX12_right 39 = .ok (.ireturn, 1) := by decide +kernel
theorem dX12_right_40 : decode cX12_right 40 = .ok (.aload_n 0, 1) := by decide +kernel
theorem dX12_right_41 : decode cX12_right 41 = .ok (.iload_n 1, 1) := by decide +kernel
theorem dX12_right_42 : decode cX12_right 42 = .ok (.iload_n 2, 1) := by decide +kernel
theorem dX12_right_43 : decode cX12_right 43 = .ok (.invokevirtual 182, 3) := by decide +kernel
theorem dX12_right_46 : decode cX12_right 46 = .ok (.ireturn, 1) := by decide +kernel
theorem dX12_sizeOf_0 : decode cX12_sizeOf 0 = .ok (.iload_n 1, 1) := by decide +kernel
theorem dX12_sizeOf_1 : decode cX12_sizeOf 1 = .ok (.bipush 24, 2) := by decide +kernel
theorem dX12_sizeOf_3 : decode cX12_sizeOf 3 = .ok (.if_icmp .ne 7, 3) := by decide +kernel
theorem dX12_sizeOf_6 : decode cX12_sizeOf 6 = .ok (.iconst 1, 1) := by decide +kernel
theorem dX12_sizeOf_7 : decode cX12_sizeOf 7 = .ok (.goto 17, 3) := by decide +kernel
theorem dX12_sizeOf_10 : decode cX12_sizeOf 10 = .ok (.aload_n 0, 1) := by decide +kernel
theorem dX12_sizeOf_11 : decode cX12_sizeOf 11 = .ok (.getfield 13, 3) := by decide +kernel
theorem dX12_sizeOf_14 : decode cX12_sizeOf 14 = .ok (.bipush 24, 2) := by decide +kernel
theorem dX12_sizeOf_16 : decode cX12_sizeOf 16 = .ok (.aload_n 0, 1) := by decide +kernel
theorem dX12_sizeOf_17 : decode cX12_sizeOf 17 = .ok (.getfield 139, 3) := by decide +kernel
theorem dX12_sizeOf_20 : decode cX12_sizeOf 20 = .ok (.imul, 1) := by decide +kernel
theorem dX12_sizeOf_21 : decode cX12_sizeOf 21 = .ok (.iload_n 1, 1) := by decide +kernel
theorem dX12_sizeOf_22 : decode cX12_sizeOf 22 = .ok (.iadd, 1) := by decide +kernel
theorem dX12_sizeOf_23 : decode cX12_sizeOf 23 = .ok (.iaload, 1) := by decide +kernel
theorem dX12_sizeOf_24 : decode cX12_sizeOf 24 = .ok (.ireturn, 1) := by decide +kernel
theorem dX12_lead_0 : decode cX12_lead 0 = .ok (.aload_n 0, 1) := by decide +kernel
theorem dX12_lead_1 : decode cX12_lead 1 = .ok (.getfield 7, 3) := by decide +kernel
theorem dX12_lead_4 : decode cX12_lead 4 = .ok (.bipush 24, 2) := by decide +kernel
theorem dX12_lead_6 : decode cX12_lead 6 = .ok (.aload_n 0, 1) := by decide +kernel
theorem dX12_lead_7 : decode cX12_lead 7 = .ok (.getfield 139, 3) := by decide +kernel
theorem dX12_lead_10 : decode cX12_lead 10 = .ok (.imul, 1) := by decide +kernel
theorem dX12_lead_11 : decode cX12_lead 11 = .ok (.iload_n 1, 1) := by decide +kernel
theorem dX12_lead_12 : decode cX12_lead 12 = .ok (.iadd, 1) := by decide +kernel
theorem dX12_lead_13 : decode cX12_lead 13 = .ok (.iaload, 1) := by decide +kernel
theorem dX12_lead_14 : decode cX12_lead 14 = .ok (.ireturn, 1) := by decide +kernel
theorem dX12_symbol_0 : decode cX12_symbol 0 = .ok (.iload_n 2, 1) := by decide +kernel
theorem dX12_symbol_1 : decode cX12_symbol 1 = .ok (.aload_n 0, 1) := by decide +kernel
theorem dX12_symbol_2 : decode cX12_symbol 2 = .ok (.iload_n 1, 1) := by decide +kernel
theorem dX12_symbol_3 : decode cX12_symbol 3 = .ok (.invokevirtual 186, 3) := by decide +kernel
theorem dX12_symbol_6 : decode cX12_symbol 6 = .ok (.if_icmp .lt 5, 3) := by decide +kernel
theorem dX12_symbol_9 : decode cX12_symbol 9 = .ok (.iconst (-1), 1) := by decide +kernel
theorem dX12_symbol_10 : decode cX12_symbol 10 = .ok (.ireturn, 1) := by decide +kernel
theorem dX12_symbol_11 : decode cX12_symbol 11 = .ok (.iload_n 1, 1) := by decide +kernel
theorem dX12_symbol_12 : decode cX12_symbol 12 = .ok (.bipush 24, 2) := by decide +kernel
theorem dX12_symbol_14 : decode cX12_symbol 14 = .ok (.if_icmp .ne 18, 3) := by decide +kernel
theorem dX12_symbol_17 : decode cX12_symbol 17 = .ok (.bipush 16, 2) := by decide +kernel
theorem dX12_symbol_19 : decode cX12_symbol 19 = .ok (.aload_n 0, 1) := by decide +kernel
theorem dX12_symbol_20 : decode cX12_symbol 20 = .ok (.getfield 34, 3) := by decide +kernel
theorem dX12_symbol_23 : decode cX12_symbol 23 = .ok (.aload_n 0, 1) := by decide +kernel
theorem dX12_symbol_24 : decode cX12_symbol 24 = .ok (.getfield 139, 3) := by decide +kernel
theorem dX12_symbol_27 : decode cX12_symbol 27 = .ok (.iaload, 1) := by decide +kernel
theorem dX12_symbol_28 : decode cX12_symbol 28 = .ok (.iadd, 1) := by decide +kernel
theorem dX12_symbol_29 : decode cX12_symbol 29 = .ok (.goto 21, 3) := by decide +kernel
theorem dX12_symbol_32 : decode cX12_symbol 32 = .ok (.aload_n 0, 1) := by decide +kernel
theorem dX12_symbol_33 : decode cX12_symbol 33 = .ok (.getfield 16, 3) := by decide +kernel
theorem dX12_symbol_36 : decode cX12_symbol 36 = .ok (.iconst 5, 1) := by decide +kernel
theorem dX12_symbol_37 : decode cX12_symbol 37 = .ok (.bipush 24, 2) := by decide +kernel
theorem dX12_symbol_39 : decode cX12_symbol 39 = .ok (.aload_n 0, 1) := by decide +kernel
theorem dX12_symbol_40 : decode cX12_symbol 40 = .ok (.getfield 139, 3) := by decide +kernel
theorem dX12_symbol_43 : decode cX12_symbol 43 = .ok (.imul, 1) := by decide +kernel
theorem dX12_symbol_44 : decode cX12_symbol 44 = .ok (.iload_n 1, 1) := by decide +kernel
theorem dX12_symbol_45 : decode cX12_symbol 45 = .ok (.iadd, 1) := by decide +kernel
theorem dX12_symbol_46 : decode cX12_symbol 46 = .ok (.imul, 1) := by decide +kernel
theorem dX12_symbol_47 : decode cX12_symbol 47 = .ok (.iload_n 2, 1) := by decide +kernel
theorem dX12_symbol_48 : decode cX12_symbol 48 = .ok (.iadd, 1) := by decide +kernel
theorem dX12_symbol_49 : decode cX12_symbol 49 = .ok (.iaload, 1) := by decide +kernel
theorem dX12_symbol_50 : decode cX12_symbol 50 = .ok (.ireturn, 1) := by decide +kernel
theorem dX12_isEmptyFrom_0 : decode cX12_isEmptyFrom 0 = .ok (.iconst 1, 1) := by decide +kernel
theorem dX12_isEmptyFrom_1 : decode cX12_isEmptyFrom 1 = .ok (.istore_n 3, 1) := by decide +kernel
theorem dX12_isEmptyFrom_2 : decode cX12_isEmptyFrom 2 = .ok (.iload_n 2, 1) := by decide +kernel
theorem dX12_isEmptyFrom_3 : decode cX12_isEmptyFrom 3 = .ok (.istore 4, 2) := by decide +kernel
theorem dX12_isEmptyFrom_5 : decode cX12_isEmptyFrom 5 = .ok (.iload 4, 2) := by decide +kernel
theorem dX12_isEmptyFrom_7 : decode cX12_isEmptyFrom 7 = .ok (.aload_n 0, 1) := by decide +kernel
theorem dX12_isEmptyFrom_8 : decode cX12_isEmptyFrom 8 = .ok (.iload_n 1, 1) := by decide +kernel
theorem dX12_isEmptyFrom_9 : decode cX12_isEmptyFrom 9 = .ok (.invokevirtual 186, 3) := by decide +kernel
theorem dX12_isEmptyFrom_12 : decode cX12_isEmptyFrom 12 = .ok (.if_icmp .ge 51, 3) := by decide +kernel
theorem dX12_isEmptyFrom_15 : decode cX12_isEmptyFrom 15 = .ok (.aload_n 0, 1) := by decide +kernel
theorem dX12_isEmptyFrom_16 : decode cX12_isEmptyFrom 16 = .ok (.iload_n 1, 1) := by decide +kernel
theorem dX12_isEmptyFrom_17 : decode cX12_isEmptyFrom 17 = .ok (.iload 4, 2) := by decide +kernel
theorem dX12_isEmptyFrom_19 : decode cX12_isEmptyFrom 19 = .ok (.invokevirtual 182, 3) := by decide +kernel
theorem dX12_isEmptyFrom_22 : decode cX12_isEmptyFrom 22 = .ok (.istore 5, 2) := by decide +kernel
theorem dX12_isEmptyFrom_24 : decode cX12_isEmptyFrom 24 = .ok (.iload_n 3, 1) := by decide +kernel
theorem dX12_isEmptyFrom_25 : decode cX12_isEmptyFrom 25 = .ok (.ifCond .eq 30, 3) := by decide +kernel
theorem dX12_isEmptyFrom_28 : decode cX12_isEmptyFrom 28 = .ok (.iload 5, 2) := by decide +kernel
theorem dX12_isEmptyFrom_30 : decode cX12_isEmptyFrom 30 = .ok (.bipush 16, 2) := by decide +kernel
theorem dX12_isEmptyFrom_32 : decode cX12_isEmptyFrom 32 = .ok (.if_icmp .lt 23, 3) := by decide +kernel
theorem dX12_isEmptyFrom_35 : decode cX12_isEmptyFrom 35 = .ok (.aload_n 0, 1) := by decide +kernel
theorem dX12_isEmptyFrom_36 : decode cX12_isEmptyFrom 36 = .ok (.getfield 190, 3) := by decide +kernel
theorem dX12_isEmptyFrom_39 : decode cX12_isEmptyFrom 39 = .ok (.iload 5, 2) := by decide +kernel
theorem dX12_isEmptyFrom_41 : decode cX12_isEmptyFrom 41 = .ok (.bipush 16, 2) := by decide +kernel
theorem dX12_isEmptyFrom_43 : decode cX12_isEmptyFrom 43 = .ok (.isub, 1) := by decide +kernel
theorem dX12_isEmptyFrom_44 : decode cX12_isEmptyFrom 44 = .ok (.ishr, 1) := by decide +kernel
theorem dX12_isEmptyFrom_45 : decode cX12_isEmptyFrom 45 = .ok (.iconst 1, 1) := by decide +kernel
theorem dX12_isEmptyFrom_46 : decode cX12_isEmptyFrom 46 = .ok (.iand, 1) := by decide +kernel
theorem dX12_isEmptyFrom_47 : decode cX12_isEmptyFrom 47 = .ok (.iconst 1, 1) := by decide +kernel
theorem dX12_isEmptyFrom_48 : decode cX12_isEmptyFrom 48 = .ok (.if_icmp .ne 7, 3) := by decide +kernel
theorem dX12_isEmptyFrom_51 : decode cX12_isEmptyFrom 51 = .ok (.iconst 1, 1) := by decide +kernel
theorem dX12_isEmptyFrom_52 : decode cX12_isEmptyFrom 52 = .ok (.goto 4, 3) := by decide +kernel
theorem dX12_isEmptyFrom_55 : decode cX12_isEmptyFrom 55 = .ok (.iconst 0, 1) := by decide +kernel
theorem dX12_isEmptyFrom_56 : decode cX12_isEmptyFrom 56 = .ok (.istore_n 3, 1) := by decide +kernel
theorem dX12_isEmptyFrom_57 : decode cX12_isEmptyFrom 57 = .ok (.iinc 4 1, 3) := by decide +kernel
theorem dX12_isEmptyFrom_60 : decode cX12_isEmptyFrom 60 = .ok (.goto (-55), 3) := by decide +kernel
theorem dX12_isEmptyFrom_63 : decode cX12_isEmptyFrom 63 = .ok (.iload_n 3, 1) := by decide +kernel
theorem dX12_isEmptyFrom_64 : decode cX12_isEmptyFrom 64 = .ok (.ireturn, 1) := by decide +kernel
theorem dX12_firstFrom_0 : decode cX12_firstFrom 0 = .ok (.iconst 0, 1) := by decide +kernel
theorem dX12_firstFrom_1 : decode cX12_firstFrom 1 = .ok (.istore_n 3, 1) := by decide +kernel
theorem dX12_firstFrom_2 : decode cX12_firstFrom 2 = .ok (.iconst 1, 1) := by decide +kernel
theorem dX12_firstFrom_3 : decode cX12_firstFrom 3 = .ok (.istore 4, 2) := by decide +kernel
theorem dX12_firstFrom_5 : decode cX12_firstFrom 5 = .ok (.iload_n 2, 1) := by decide +kernel
theorem dX12_firstFrom_6 : decode cX12_firstFrom 6 = .ok (.istore 5, 2) := by decide +kernel
theorem dX12_firstFrom_8 : decode cX12_firstFrom 8 = .ok (.iload 5, 2) := by decide +kernel
theorem dX12_firstFrom_10 : decode cX12_firstFrom 10 = .ok (.aload_n 0, 1) := by decide +kernel
theorem dX12_firstFrom_11 : decode cX12_firstFrom 11 = .ok (.iload_n 1, 1) := by decide +kernel
theorem dX12_firstFrom_12 : decode cX12_firstFrom 12 = .ok (.invokevirtual 186, 3) := by decide +kernel
theorem dX12_firstFrom_15 : decode cX12_firstFrom 15 = .ok (.if_icmp .ge 80, 3) := by decide +kernel
theorem dX12_firstFrom_18 : decode cX12_firstFrom 18 = .ok (.iload 4, 2) := by decide +kernel
theorem dX12_firstFrom_20 : decode cX12_firstFrom 20 = .ok (.ifCond .eq 75, 3) := by decide +kernel
theorem dX12_firstFrom_23 : decode cX12_firstFrom 23 = .ok (.aload_n 0, 1) := by decide +kernel
theorem dX12_firstFrom_24 : decode cX12_firstFrom 24 = .ok (.iload_n 1, 1) := by decide +kernel
theorem dX12_firstFrom_25 : decode cX12_firstFrom 25 = .ok (.iload 5, 2) := by decide +kernel
theorem dX12_firstFrom_27 : decode cX12_firstFrom 27 = .ok (.invokevirtual 182, 3) := by decide +kernel
theorem dX12_firstFrom_30 : decode cX12_firstFrom 30 = .ok (.istore 6, 2) := by decide +kernel
theorem dX12_firstFrom_32 : decode cX12_firstFrom 32 = .ok (.iload_n 3, 1) := by decide +kernel
theorem dX12_firstFrom_33 : decode cX12_firstFrom 33 = .ok (.iload 6, 2) := by decide +kernel
theorem dX12_firstFrom_35 : decode cX12_firstFrom 35 = .ok (.bipush 16, 2) := by decide +kernel
theorem dX12_firstFrom_37 : decode cX12_firstFrom 37 = .ok (.if_icmp .ge 10, 3) := by decide +kernel
theorem dX12_firstFrom_40 : decode cX12_firstFrom 40 = .ok (.iconst 1, 1) := by decide +kernel
theorem dX12_firstFrom_41 : decode cX12_firstFrom 41 = .ok (.iload 6, 2) := by decide +kernel
theorem dX12_firstFrom_43 : decode cX12_firstFrom 43 = .ok (.ishl, 1) := by decide +kernel
theorem dX12_firstFrom_44 : decode cX12_firstFrom 44 = .ok (.goto 13, 3) := by decide +kernel
theorem dX12_firstFrom_47 : decode cX12_firstFrom 47 = .ok (.aload_n 0, 1) := by decide +kernel
theorem dX12_firstFrom_48 : decode cX12_firstFrom 48 = .ok (.getfield 52, 3) := by decide +kernel
theorem dX12_firstFrom_51 : decode cX12_firstFrom 51 = .ok (.iload 6, 2) := by decide +kernel
theorem dX12_firstFrom_53 : decode cX12_firstFrom 53 = .ok (.bipush 16, 2) := by decide +kernel
theorem dX12_firstFrom_55 : decode cX12_firstFrom 55 = .ok (.isub, 1) := by decide +kernel
theorem dX12_firstFrom_56 : decode cX12_firstFrom 56 = .ok (.iaload, 1) := by decide +kernel
theorem dX12_firstFrom_57 : decode cX12_firstFrom 57 = .ok (.ior, 1) := by decide +kernel
theorem dX12_firstFrom_58 : decode cX12_firstFrom 58 = .ok (.istore_n 3, 1) := by decide +kernel
theorem dX12_firstFrom_59 : decode cX12_firstFrom 59 = .ok (.iload 6, 2) := by decide +kernel
theorem dX12_firstFrom_61 : decode cX12_firstFrom 61 = .ok (.bipush 16, 2) := by decide +kernel
theorem dX12_firstFrom_63 : decode cX12_firstFrom 63 = .ok (.if_icmp .lt 23, 3) := by decide +kernel
theorem dX12_firstFrom_66 : decode cX12_firstFrom 66 = .ok (.aload_n 0, 1) := by decide +kernel
theorem dX12_firstFrom_67 : decode cX12_firstFrom 67 = .ok (.getfield 190, 3) := by decide +kernel
theorem dX12_firstFrom_70 : decode cX12_firstFrom 70 = .ok (.iload 6, 2) := by decide +kernel
theorem dX12_firstFrom_72 : decode cX12_firstFrom 72 = .ok (.bipush 16, 2) := by decide +kernel
theorem dX12_firstFrom_74 : decode cX12_firstFrom 74 = .ok (.isub, 1) := by decide +kernel
theorem dX12_firstFrom_75 : decode cX12_firstFrom 75 = .ok (.ishr, 1) := by decide +kernel
theorem dX12_firstFrom_76 : decode cX12_firstFrom 76 = .ok (.iconst 1, 1) := by decide +kernel
theorem dX12_firstFrom_77 : decode cX12_firstFrom 77 = .ok (.iand, 1) := by decide +kernel
theorem dX12_firstFrom_78 : decode cX12_firstFrom 78 = .ok (.iconst 1, 1) := by decide +kernel
theorem dX12_firstFrom_79 : decode cX12_firstFrom 79 = .ok (.if_icmp .ne 7, 3) := by decide +kernel
theorem dX12_firstFrom_82 : decode cX12_firstFrom 82 = .ok (.iconst 1, 1) := by decide +kernel
theorem dX12_firstFrom_83 : decode cX12_firstFrom 83 = .ok (.goto 4, 3) := by decide +kernel
theorem dX12_firstFrom_86 : decode cX12_firstFrom 86 = .ok (.iconst 0, 1) := by decide +kernel
theorem dX12_firstFrom_87 : decode cX12_firstFrom 87 = .ok (.istore 4, 2) := by decide +kernel
theorem dX12_firstFrom_89 : decode cX12_firstFrom 89 = .ok (.iinc 5 1, 3) := by decide +kernel
theorem dX12_firstFrom_92 : decode cX12_firstFrom 92 = .ok (.goto (-84), 3) := by decide +kernel
theorem dX12_firstFrom_95 : decode cX12_firstFrom 95 = .ok (.iload_n 3, 1) := by decide +kernel
theorem dX12_firstFrom_96 : decode cX12_firstFrom 96 = .ok (.ireturn, 1) := by decide +kernel
theorem dX12_findsMore_0 : decode cX12_findsMore 0 = .ok (.iconst 0, 1) := by decide +kernel
theorem dX12_findsMore_1 : decode cX12_findsMore 1 = .ok (.istore_n 1, 1) := by decide +kernel
theorem dX12_findsMore_2 : decode cX12_findsMore 2 = .ok (.iconst 0, 1) := by decide +kernel
theorem dX12_findsMore_3 : decode cX12_findsMore 3 = .ok (.istore_n 2, 1) := by decide +kernel
theorem dX12_findsMore_4 : decode cX12_findsMore 4 = .ok (.iload_n 2, 1) := by decide +kernel
theorem dX12_findsMore_5 : decode cX12_findsMore 5 = .ok (.aload_n 0, 1) := by decide +kernel
theorem dX12_findsMore_6 : decode cX12_findsMore 6 = .ok (.getfield 19, 3) := by decide +kernel
theorem dX12_findsMore_9 : decode cX12_findsMore 9 = .ok (.aload_n 0, 1) := by decide +kernel
theorem dX12_findsMore_10 : decode cX12_findsMore 10 = .ok (.getfield 139, 3) := by decide +kernel
theorem dX12_findsMore_13 : decode cX12_findsMore 13 = .ok (.iaload, 1) := by decide +kernel
theorem dX12_findsMore_14 : decode cX12_findsMore 14 = .ok (.if_icmp .ge 100, 3) := by decide +kernel
theorem dX12_findsMore_17 : decode cX12_findsMore 17 = .ok (.aload_n 0, 1) := by decide +kernel
theorem dX12_findsMore_18 : decode cX12_findsMore 18 = .ok (.iload_n 2, 1) := by decide +kernel
theorem dX12_findsMore_19 : decode cX12_findsMore 19 = .ok (.invokevirtual 193, 3) := by decide +kernel
theorem dX12_findsMore_22 : decode cX12_findsMore 22 = .ok (.istore_n 3, 1) := by decide +kernel
theorem dX12_findsMore_23 : decode cX12_findsMore 23 = .ok (.aload_n 0, 1) := by decide +kernel
theorem dX12_findsMore_24 : decode cX12_findsMore 24 = .ok (.getfield 52, 3) := by decide +kernel
theorem dX12_findsMore_27 : decode cX12_findsMore 27 = .ok (.iload_n 3, 1) := by decide +kernel
theorem dX12_findsMore_28 : decode cX12_findsMore 28 = .ok (.iaload, 1) := by decide +kernel
theorem dX12_findsMore_29 : decode cX12_findsMore 29 = .ok (.aload_n 0, 1) := by decide +kernel
theorem dX12_findsMore_30 : decode cX12_findsMore 30 = .ok (.iload_n 2, 1) := by decide +kernel
theorem dX12_findsMore_31 : decode cX12_findsMore 31 = .ok (.iconst 0, 1) := by decide +kernel
theorem dX12_findsMore_32 : decode cX12_findsMore 32 = .ok (.invokevirtual 196, 3) := by decide +kernel
theorem dX12_findsMore_35 : decode cX12_findsMore 35 = .ok (.ior, 1) := by decide +kernel
theorem dX12_findsMore_36 : decode cX12_findsMore 36 = .ok (.istore 4, 2) := by decide +kernel
theorem dX12_findsMore_38 : decode cX12_findsMore 38 = .ok (.aload_n 0, 1) := by decide +kernel
theorem dX12_findsMore_39 : decode cX12_findsMore 39 = .ok (.iload_n 2, 1) := by decide +kernel
theorem dX12_findsMore_40 : decode cX12_findsMore 40 = .ok (.iconst 0, 1) := by decide +kernel
theorem dX12_findsMore_41 : decode cX12_findsMore 41 = .ok (.invokevirtual 199, 3) := by decide +kernel
theorem dX12_findsMore_44 : decode cX12_findsMore 44 = .ok (.ifCond .eq 14, 3) := by decide +kernel
theorem dX12_findsMore_47 : decode cX12_findsMore 47 = .ok (.aload_n 0, 1) := by decide +kernel
theorem dX12_findsMore_48 : decode cX12_findsMore 48 = .ok (.getfield 190, 3) := by decide +kernel
theorem dX12_findsMore_51 : decode cX12_findsMore 51 = .ok (.iconst 1, 1) := by decide +kernel
theorem dX12_findsMore_52 : decode cX12_findsMore 52 = .ok (.iload_n 3, 1) := by decide +kernel
theorem dX12_findsMore_53 : decode cX12_findsMore 53 = .ok (.ishl, 1) := by decide +kernel
theorem dX12_findsMore_54 : decode cX12_findsMore 54 = .ok (.ior, 1) := by decide +kernel
theorem dX12_findsMore_55 : decode cX12_findsMore 55 = .ok (.goto 7, 3) := by decide +kernel
theorem dX12_findsMore_58 : decode cX12_findsMore 58 = .ok (.aload_n 0, 1) := by decide +kernel
theorem dX12_findsMore_59 : decode cX12_findsMore 59 = .ok (.getfield 190, 3) := by decide +kernel
theorem dX12_findsMore_62 : decode cX12_findsMore 62 = .ok (.istore 5, 2) := by decide +kernel
theorem dX12_findsMore_64 : decode cX12_findsMore 64 = .ok (.iload_n 1, 1) := by decide +kernel
theorem dX12_findsMore_65 : decode cX12_findsMore 65 = .ok (.ifCond .ne 23, 3) := by decide +kernel
theorem dX12_findsMore_68 : decode cX12_findsMore 68 = .ok (.iload 4, 2) := by decide +kernel
theorem dX12_findsMore_70 : decode cX12_findsMore 70 = .ok (.aload_n 0, 1) := by decide +kernel
theorem dX12_findsMore_71 : decode cX12_findsMore 71 = .ok (.getfield 52, 3) := by decide +kernel
theorem dX12_findsMore_74 : decode cX12_findsMore 74 = .ok (.iload_n 3, 1) := by decide +kernel
theorem dX12_findsMore_75 : decode cX12_findsMore 75 = .ok (.iaload, 1) := by decide +kernel
theorem dX12_findsMore_76 : decode cX12_findsMore 76 = .ok (.if_icmp .ne 12, 3) := by decide +kernel
theorem dX12_findsMore_79 : decode cX12_findsMore 79 = .ok (.iload 5, 2) := by decide +kernel
theorem dX12_findsMore_81 : decode cX12_findsMore 81 = .ok (.aload_n 0, 1) := by decide +kernel
theorem dX12_findsMore_82 : decode cX12_findsMore 82 = .ok (.getfield 190, 3) := by decide +kernel
theorem dX12_findsMore_85 : decode cX12_findsMore 85 = .ok (.if_icmp .eq 7, 3) := by decide +kernel
theorem dX12_findsMore_88 : decode cX12_findsMore 88 = .ok (.iconst 1, 1) := by decide +kernel
theorem dX12_findsMore_89 : decode cX12_findsMore 89 = .ok (.goto 4, 3) := by decide +kernel
theorem dX12_findsMore_92 : decode cX12_findsMore 92 = .ok (.iconst 0, 1) := by decide +kernel
theorem dX12_findsMore_93 : decode cX12_findsMore 93 = .ok (.istore_n 1, 1) := by decide +kernel
theorem dX12_findsMore_94 : decode cX12_findsMore 94 = .ok (.aload_n 0, 1) := by decide +kernel
theorem dX12_findsMore_95 : decode cX12_findsMore 95 = .ok (.getfield 52, 3) := by decide +kernel
theorem dX12_findsMore_98 : decode cX12_findsMore 98 = .ok (.iload_n 3, 1) := by decide +kernel
theorem dX12_findsMore_99 : decode cX12_findsMore 99 = .ok (.iload 4, 2) := by decide +kernel
theorem dX12_findsMore_101 : decode cX12_findsMore 101 = .ok (.iastore, 1) := by decide +kernel
theorem dX12_findsMore_102 : decode cX12_findsMore 102 = .ok (.aload_n 0, 1) := by decide +kernel
theorem dX12_findsMore_103 : decode cX12_findsMore 103 = .ok (.iload 5, 2) := by decide +kernel
theorem dX12_findsMore_105 : decode cX12_findsMore 105 = .ok (.putfield 190, 3) := by decide +kernel
theorem dX12_findsMore_108 : decode cX12_findsMore 108 = .ok (.iinc 2 1, 3) := by decide +kernel
theorem dX12_findsMore_111 : decode cX12_findsMore 111 = .ok (.goto (-107), 3) := by decide +kernel
theorem dX12_findsMore_114 : decode cX12_findsMore 114 = .ok (.iload_n 1, 1) := by decide +kernel
theorem dX12_findsMore_115 : decode cX12_findsMore 115 = .ok (.ireturn, 1) := by decide +kernel
theorem dX12_findsBehind_0 : decode cX12_findsBehind 0 = .ok (.iconst 0, 1) := by decide +kernel
theorem dX12_findsBehind_1 : decode cX12_findsBehind 1 = .ok (.istore_n 1, 1) := by decide +kernel
theorem dX12_findsBehind_2 : decode cX12_findsBehind 2 = .ok (.iconst 0, 1) := by decide +kernel
theorem dX12_findsBehind_3 : decode cX12_findsBehind 3 = .ok (.istore_n 2, 1) := by decide +kernel
theorem dX12_findsBehind_4 : decode cX12_findsBehind 4 = .ok (.iload_n 2, 1) := by decide +kernel
theorem dX12_findsBehind_5 : decode cX12_findsBehind 5 = .ok (.aload_n 0, 1) := by decide +kernel
theorem dX12_findsBehind_6 : decode cX12_findsBehind 6 = .ok (.getfield 19, 3) := by decide +kernel
theorem dX12_findsBehind_9 : decode cX12_findsBehind 9 = .ok (.aload_n 0, 1) := by decide +kernel
theorem dX12_findsBehind_10 : decode cX12_findsBehind 10 = .ok (.getfield 139, 3) := by decide +kernel
theorem dX12_findsBehind_13 : decode cX12_findsBehind 13 = .ok (.iaload, 1) := by decide +kernel
theorem dX12_findsBehind_14 : decode cX12_findsBehind 14 = .ok (.if_icmp .ge 112, 3) := by decide +kernel
theorem dX12_findsBehind_17 : decode cX12_findsBehind 17 = .ok (.iconst 0, 1) := by decide +kernel
theorem dX12_findsBehind_18 : decode cX12_findsBehind 18 = .ok (.istore_n 3, 1) := by decide +kernel
theorem dX12_findsBehind_19 : decode cX12_findsBehind 19 = .ok (.iload_n 3, 1) := by decide +kernel
theorem dX12_findsBehind_20 : decode cX12_findsBehind 20 = .ok (.aload_n 0, 1) := by decide +kernel
theorem dX12_findsBehind_21 : decode cX12_findsBehind 21 = .ok (.iload_n 2, 1) := by decide +kernel
theorem dX12_findsBehind_22 : decode cX12_findsBehind 22 = .ok (.invokevirtual 186, 3) := by decide +kernel
theorem dX12_findsBehind_25 : decode cX12_findsBehind 25 = .ok (.if_icmp .ge 95, 3) := by decide +kernel
theorem dX12_findsBehind_28 : decode cX12_findsBehind 28 = .ok (.aload_n 0, 1) := by decide +kernel
theorem dX12_findsBehind_29 : decode cX12_findsBehind 29 = .ok (.iload_n 2, 1) := by decide +kernel
theorem dX12_findsBehind_30 : decode cX12_findsBehind 30 = .ok (.iload_n 3, 1) := by decide +kernel
theorem dX12_findsBehind_31 : decode cX12_findsBehind 31 = .ok (.invokevirtual 182, 3) := by decide +kernel
theorem dX12_findsBehind_34 : decode cX12_findsBehind 34 = .ok (.bipush 16, 2) := by decide +kernel
theorem dX12_findsBehind_36 : decode cX12_findsBehind 36 = .ok (.isub, 1) := by decide +kernel
theorem dX12_findsBehind_37 : decode cX12_findsBehind 37 = .ok (.istore 4, 2) := by decide +kernel
theorem dX12_findsBehind_39 : decode cX12_findsBehind 39 = .ok (.aload_n 0, 1) := by decide +kernel
theorem dX12_findsBehind_40 : decode cX12_findsBehind 40 = .ok (.iload_n 2, 1) := by decide +kernel
theorem dX12_findsBehind_41 : decode cX12_findsBehind 41 = .ok (.iload_n 3, 1) := by decide +kernel
theorem dX12_findsBehind_42 : decode cX12_findsBehind 42 = .ok (.iconst 1, 1) := by decide +kernel
theorem dX12_findsBehind_43 : decode cX12_findsBehind 43 = .ok (.iadd, 1) := by decide +kernel
theorem dX12_findsBehind_44 : decode cX12_findsBehind 44 = .ok (.invokevirtual 196, 3) := by decide +kernel
theorem dX12_findsBehind_47 : decode cX12_findsBehind 47 = .ok (.aload_n 0, 1) := by decide +kernel
theorem dX12_findsBehind_48 : decode cX12_findsBehind 48 = .ok (.iload_n 2, 1) := by decide +kernel
theorem dX12_findsBehind_49 : decode cX12_findsBehind 49 = .ok (.iload_n 3, 1) := by decide +kernel
theorem dX12_findsBehind_50 : decode cX12_findsBehind 50 = .ok (.iconst 1, 1) := by decide +kernel
theorem dX12_findsBehind_51 : decode cX12_findsBehind 51 = .ok (.iadd, 1) := by decide +kernel
theorem dX12_findsBehind_52 : decode cX12_findsBehind 52 = .ok (.invokevirtual 199, 3) := by decide +kernel
theorem dX12_findsBehind_55 : decode cX12_findsBehind 55 = .ok (.ifCond .eq 16, 3) := by decide +kernel
theorem dX12_findsBehind_58 : decode cX12_findsBehind 58 = .ok (.aload_n 0, 1) := by decide +kernel
theorem dX12_findsBehind_59 : decode cX12_findsBehind 59 = .ok (.getfield 55, 3) := by decide +kernel
theorem dX12_findsBehind_62 : decode cX12_findsBehind 62 = .ok (.aload_n 0, 1) := by decide +kernel
theorem dX12_findsBehind_63 : decode cX12_findsBehind 63 = .ok (.iload_n 2, 1) := by decide +kernel
theorem dX12_findsBehind_64 : decode cX12_findsBehind 64 = .ok (.invokevirtual 193, 3) := by decide +kernel
theorem dX12_findsBehind_67 : decode cX12_findsBehind 67 = .ok (.iaload, 1) := by decide +kernel
theorem dX12_findsBehind_68 : decode cX12_findsBehind 68 = .ok (.goto 4, 3) := by decide +kernel
theorem dX12_findsBehind_71 : decode cX12_findsBehind 71 = .ok (.iconst 0, 1) := by decide +kernel
theorem dX12_findsBehind_72 : decode cX12_findsBehind 72 = .ok (.ior, 1) := by decide +kernel
theorem dX12_findsBehind_73 : decode cX12_findsBehind 73 = .ok (.istore 5, 2) := by decide +kernel
theorem dX12_findsBehind_75 : decode cX12_findsBehind 75 = .ok (.iload 4, 2) := by decide +kernel
theorem dX12_findsBehind_77 : decode cX12_findsBehind 77 = .ok (.ifCond .lt 37, 3) := by decide +kernel
theorem dX12_findsBehind_80 : decode cX12_findsBehind 80 = .ok (.aload_n 0, 1) := by decide +kernel
theorem dX12_findsBehind_81 : decode cX12_findsBehind 81 = .ok (.getfield 55, 3) := by decide +kernel
theorem dX12_findsBehind_84 : decode cX12_findsBehind 84 = .ok (.iload 4, 2) := by decide +kernel
theorem dX12_findsBehind_86 : decode cX12_findsBehind 86 = .ok (.iaload, 1) := by decide +kernel
theorem dX12_findsBehind_87 : decode cX12_findsBehind 87 = .ok (.iload 5, 2) := by decide +kernel
theorem dX12_findsBehind_89 : decode cX12_findsBehind 89 = .ok (.ior, 1) := by decide +kernel
theorem dX12_findsBehind_90 : decode cX12_findsBehind 90 = .ok (.aload_n 0, 1) := by decide +kernel
theorem dX12_findsBehind_91 : decode cX12_findsBehind 91 = .ok (.getfield 55, 3) := by decide +kernel
theorem dX12_findsBehind_94 : decode cX12_findsBehind 94 = .ok (.iload 4, 2) := by decide +kernel
theorem dX12_findsBehind_96 : decode cX12_findsBehind 96 = .ok (.iaload, 1) := by decide +kernel
theorem dX12_findsBehind_97 : decode cX12_findsBehind 97 = .ok (.if_icmp .eq 17, 3) := by decide +kernel
theorem dX12_findsBehind_100 : decode cX12_findsBehind 100 = .ok (.aload_n 0, 1) := by decide +kernel
theorem dX12_findsBehind_101 : decode cX12_findsBehind 101 = .ok (.getfield 55, 3) := by decide +kernel
theorem dX12_findsBehind_104 : decode cX12_findsBehind 104 = .ok (.iload 4, 2) := by decide +kernel
theorem dX12_findsBehind_106 : decode cX12_findsBehind 106 = .ok (.dup2, 1) := by decide +kernel
theorem dX12_findsBehind_107 : decode cX12_findsBehind 107 = .ok (.iaload, 1) := by decide +kernel
theorem dX12_findsBehind_108 : decode cX12_findsBehind 108 = .ok (.iload 5, 2) := by decide +kernel
theorem dX12_findsBehind_110 : decode cX12_findsBehind 110 = .ok (.ior, 1) := by decide +kernel
theorem dX12_findsBehind_111 : decode cX12_findsBehind 111 = .ok (.iastore, 1) := by decide +kernel
theorem dX12_findsBehind_112 : decode cX12_findsBehind 112 = .ok (.iconst 1, 1) := by decide +kernel
theorem dX12_findsBehind_113 : decode cX12_findsBehind 113 = .ok (.istore_n 1, 1) := by decide +kernel
theorem dX12_findsBehind_114 : decode cX12_findsBehind 114 = .ok (.iinc 3 1, 3) := by decide +kernel
theorem dX12_findsBehind_117 : decode cX12_findsBehind 117 = .ok (.goto (-98), 3) := by decide +kernel
theorem dX12_findsBehind_120 : decode cX12_findsBehind 120 = .ok (.iinc 2 1, 3) := by decide +kernel
theorem dX12_findsBehind_123 : decode cX12_findsBehind 123 = .ok (.goto (-119), 3) := by decide +kernel
theorem dX12_findsBehind_126 : decode cX12_findsBehind 126 = .ok (.iload_n 1, 1) := by decide +kernel
theorem dX12_findsBehind_127 : decode cX12_findsBehind 127 = .ok (.ireturn, 1) := by decide +kernel
theorem dX12_findsShort_0 : decode cX12_findsShort 0 = .ok (.iconst 0, 1) := by decide +kernel
theorem dX12_findsShort_1 : decode cX12_findsShort 1 = .ok (.istore_n 2, 1) := by decide +kernel
theorem dX12_findsShort_2 : decode cX12_findsShort 2 = .ok (.lconst 0, 1) := by decide +kernel
theorem dX12_findsShort_3 : decode cX12_findsShort 3 = .ok (.lstore_n 3, 1) := by decide +kernel
theorem dX12_findsShort_4 : decode cX12_findsShort 4 = .ok (.iconst 0, 1) := by decide +kernel
theorem dX12_findsShort_5 : decode cX12_findsShort 5 = .ok (.istore 5, 2) := by decide +kernel
theorem dX12_findsShort_7 : decode cX12_findsShort 7 = .ok (.iload 5, 2) := by decide +kernel
theorem dX12_findsShort_9 : decode cX12_findsShort 9 = .ok (.aload_n 0, 1) := by decide +kernel
theorem dX12_findsShort_10 : decode cX12_findsShort 10 = .ok (.iload_n 1, 1) := by decide +kernel
theorem dX12_findsShort_11 : decode cX12_findsShort 11 = .ok (.invokevirtual 186, 3) := by decide +kernel
theorem dX12_findsShort_14 : decode cX12_findsShort 14 = .ok (.if_icmp .ge 116, 3) := by decide +kernel
theorem dX12_findsShort_17 : decode cX12_findsShort 17 = .ok (.aload_n 0, 1) := by decide +kernel
theorem dX12_findsShort_18 : decode cX12_findsShort 18 = .ok (.iload_n 1, 1) := by decide +kernel
theorem dX12_findsShort_19 : decode cX12_findsShort 19 = .ok (.iload 5, 2) := by decide +kernel
theorem dX12_findsShort_21 : decode cX12_findsShort 21 = .ok (.invokevirtual 182, 3) := by decide +kernel
theorem dX12_findsShort_24 : decode cX12_findsShort 24 = .ok (.istore 6, 2) := by decide +kernel
theorem dX12_findsShort_26 : decode cX12_findsShort 26 = .ok (.iload 6, 2) := by decide +kernel
theorem dX12_findsShort_28 : decode cX12_findsShort 28 = .ok (.bipush 16, 2) := by decide +kernel
theorem dX12_findsShort_30 : decode cX12_findsShort 30 = .ok (.if_icmp .ge 7, 3) := by decide +kernel
theorem dX12_findsShort_33 : decode cX12_findsShort 33 = .ok (.iconst 1, 1) := by decide +kernel
theorem dX12_findsShort_34 : decode cX12_findsShort 34 = .ok (.goto 13, 3) := by decide +kernel
theorem dX12_findsShort_37 : decode cX12_findsShort 37 = .ok (.aload_n 0, 1) := by decide +kernel
theorem dX12_findsShort_38 : decode cX12_findsShort 38 = .ok (.getfield 58, 3) := by decide +kernel
theorem dX12_findsShort_41 : decode cX12_findsShort 41 = .ok (.iload 6, 2) := by decide +kernel
theorem dX12_findsShort_43 : decode cX12_findsShort 43 = .ok (.bipush 16, 2) := by decide +kernel
theorem dX12_findsShort_45 : decode cX12_findsShort 45 = .ok (.isub, 1) := by decide +kernel
theorem dX12_findsShort_46 : decode cX12_findsShort 46 = .ok (.iaload, 1) := by decide +kernel
theorem dX12_findsShort_47 : decode cX12_findsShort 47 = .ok (.istore 7, 2) := by decide +kernel
theorem dX12_findsShort_49 : decode cX12_findsShort 49 = .ok (.iload 7, 2) := by decide +kernel
theorem dX12_findsShort_51 : decode cX12_findsShort 51 = .ok (.bipush 100, 2) := by decide +kernel
theorem dX12_findsShort_53 : decode cX12_findsShort 53 = .ok (.if_icmp .le 5, 3) := by decide +kernel
theorem dX12_findsShort_56 : decode cX12_findsShort 56 = .ok (.iconst 0, 1) := by decide +kernel
theorem dX12_findsShort_57 : decode cX12_findsShort 57 = .ok (.ireturn, 1) := by decide +kernel
theorem dX12_findsShort_58 : decode cX12_findsShort 58 = .ok (.iload_n 2, 1) := by decide +kernel
theorem dX12_findsShort_59 : decode cX12_findsShort 59 = .ok (.iload 7, 2) := by decide +kernel
theorem dX12_findsShort_61 : decode cX12_findsShort 61 = .ok (.iadd, 1) := by decide +kernel
theorem dX12_findsShort_62 : decode cX12_findsShort 62 = .ok (.bipush 100, 2) := by decide +kernel
theorem dX12_findsShort_64 : decode cX12_findsShort 64 = .ok (.if_icmp .le 8, 3) := by decide +kernel
theorem dX12_findsShort_67 : decode cX12_findsShort 67 = .ok (.bipush 100, 2) := by decide +kernel
theorem dX12_findsShort_69 : decode cX12_findsShort 69 = .ok (.goto 7, 3) := by decide +kernel
theorem dX12_findsShort_72 : decode cX12_findsShort 72 = .ok (.iload_n 2, 1) := by decide +kernel
theorem dX12_findsShort_73 : decode cX12_findsShort 73 = .ok (.iload 7, 2) := by decide +kernel
theorem dX12_findsShort_75 : decode cX12_findsShort 75 = .ok (.iadd, 1) := by decide +kernel
theorem dX12_findsShort_76 : decode cX12_findsShort 76 = .ok (.istore_n 2, 1) := by decide +kernel
theorem dX12_findsShort_77 : decode cX12_findsShort 77 = .ok (.iload_n 2, 1) := by decide +kernel
theorem dX12_findsShort_78 : decode cX12_findsShort 78 = .ok (.bipush 20, 2) := by decide +kernel
theorem dX12_findsShort_80 : decode cX12_findsShort 80 = .ok (.if_icmp .le 7, 3) := by decide +kernel
theorem dX12_findsShort_83 : decode cX12_findsShort 83 = .ok (.lconst 0, 1) := by decide +kernel
theorem dX12_findsShort_84 : decode cX12_findsShort 84 = .ok (.goto 39, 3) := by decide +kernel
theorem dX12_findsShort_87 : decode cX12_findsShort 87 = .ok (.iload 6, 2) := by decide +kernel
theorem dX12_findsShort_89 : decode cX12_findsShort 89 = .ok (.bipush 16, 2) := by decide +kernel
theorem dX12_findsShort_91 : decode cX12_findsShort 91 = .ok (.if_icmp .ge 15, 3) := by decide +kernel
theorem dX12_findsShort_94 : decode cX12_findsShort 94 = .ok (.lload_n 3, 1) := by decide +kernel
theorem dX12_findsShort_95 : decode cX12_findsShort 95 = .ok (.ldc2_w 202, 3) := by decide +kernel
theorem dX12_findsShort_98 : decode cX12_findsShort 98 = .ok (.lmul, 1) := by decide +kernel
theorem dX12_findsShort_99 : decode cX12_findsShort 99 = .ok (.iload 6, 2) := by decide +kernel
theorem dX12_findsShort_101 : decode cX12_findsShort 101 = .ok (.i2l, 1) := by decide +kernel
theorem dX12_findsShort_102 : decode cX12_findsShort 102 = .ok (.ladd, 1) := by decide +kernel
theorem dX12_findsShort_103 : decode cX12_findsShort 103 = .ok (.goto 20, 3) := by decide +kernel
theorem dX12_findsShort_106 : decode cX12_findsShort 106 = .ok (.lload_n 3, 1) := by decide +kernel
theorem dX12_findsShort_107 : decode cX12_findsShort 107 = .ok (.iconst 3, 1) := by decide +kernel
theorem dX12_findsShort_108 : decode cX12_findsShort 108 = .ok (.iload 7, 2) := by decide +kernel
theorem dX12_findsShort_110 : decode cX12_findsShort 110 = .ok (.imul, 1) := by decide +kernel
theorem dX12_findsShort_111 : decode cX12_findsShort 111 = .ok (.lshl, 1) := by decide +kernel
theorem dX12_findsShort_112 : decode cX12_findsShort 112 = .ok (.aload_n 0, 1) := by decide +kernel
theorem dX12_findsShort_113 : decode cX12_findsShort 113 = .ok (.getfield 61, 3) := by decide +kernel
theorem dX12_findsShort_116 : decode cX12_findsShort 116 = .ok (.iload 6, 2) := by decide +kernel
theorem dX12_findsShort_118 : decode cX12_findsShort 118 = .ok (.bipush 16, 2) := by decide +kernel
theorem dX12_findsShort_120 : decode cX12_findsShort 120 = .ok (.isub, 1) := by decide +kernel
theorem dX12_findsShort_121 : decode cX12_findsShort 121 = .ok (.laload, 1) := by decide +kernel
theorem dX12_findsShort_122 : decode cX12_findsShort 122 = .ok (.ladd, 1) := by decide +kernel
theorem dX12_findsShort_123 : decode cX12_findsShort 123 = .ok (.lstore_n 3, 1) := by decide +kernel
theorem dX12_findsShort_124 : decode cX12_findsShort 124 = .ok (.iinc 5 1, 3) := by decide +kernel
theorem dX12_findsShort_127 : decode cX12_findsShort 127 = .ok (.goto (-120), 3) := by decide +kernel
theorem dX12_findsShort_130 : decode cX12_findsShort 130 = .ok (.aload_n 0, 1) := by decide +kernel
theorem dX12_findsShort_131 : decode cX12_findsShort 131 = .ok (.iload_n 1, 1) := by decide +kernel
theorem dX12_findsShort_132 : decode cX12_findsShort 132 = .ok (.invokevirtual 193, 3) := by decide +kernel
theorem dX12_findsShort_135 : decode cX12_findsShort 135 = .ok (.istore 5, 2) := by decide +kernel
theorem dX12_findsShort_137 : decode cX12_findsShort 137 = .ok (.iload_n 2, 1) := by decide +kernel
theorem dX12_findsShort_138 : decode cX12_findsShort 138 = .ok (.aload_n 0, 1) := by decide +kernel
theorem dX12_findsShort_139 : decode cX12_findsShort 139 = .ok (.getfield 58, 3) := by decide +kernel
theorem dX12_findsShort_142 : decode cX12_findsShort 142 = .ok (.iload 5, 2) := by decide +kernel
theorem dX12_findsShort_144 : decode cX12_findsShort 144 = .ok (.iaload, 1) := by decide +kernel
theorem dX12_findsShort_145 : decode cX12_findsShort 145 = .ok (.if_icmp .lt 26, 3) := by decide +kernel
theorem dX12_findsShort_148 : decode cX12_findsShort 148 = .ok (.iload_n 2, 1) := by decide +kernel
theorem dX12_findsShort_149 : decode cX12_findsShort 149 = .ok (.aload_n 0, 1) := by decide +kernel
theorem dX12_findsShort_150 : decode cX12_findsShort 150 = .ok (.getfield 58, 3) := by decide +kernel
theorem dX12_findsShort_153 : decode cX12_findsShort 153 = .ok (.iload 5, 2) := by decide +kernel
theorem dX12_findsShort_155 : decode cX12_findsShort 155 = .ok (.iaload, 1) := by decide +kernel
theorem dX12_findsShort_156 : decode cX12_findsShort 156 = .ok (.if_icmp .ne 19, 3) := by decide +kernel
theorem dX12_findsShort_159 : decode cX12_findsShort 159 = .ok (.lload_n 3, 1) := by decide +kernel
theorem dX12_findsShort_160 : decode cX12_findsShort 160 = .ok (.aload_n 0, 1) := by decide +kernel
theorem dX12_findsShort_161 : decode cX12_findsShort 161 = .ok (.getfield 61, 3) := by decide +kernel
theorem dX12_findsShort_164 : decode cX12_findsShort 164 = .ok (.iload 5, 2) := by decide +kernel
theorem dX12_findsShort_166 : decode cX12_findsShort 166 = .ok (.laload, 1) := by decide +kernel
theorem dX12_findsShort_167 : decode cX12_findsShort 167 = .ok (.lcmp, 1) := by decide +kernel
theorem dX12_findsShort_168 : decode cX12_findsShort 168 = .ok (.ifCond .ge 7, 3) := by decide +kernel
theorem dX12_findsShort_171 : decode cX12_findsShort 171 = .ok (.iconst 1, 1) := by decide +kernel
theorem dX12_findsShort_172 : decode cX12_findsShort 172 = .ok (.goto 4, 3) := by decide +kernel
theorem dX12_findsShort_175 : decode cX12_findsShort 175 = .ok (.iconst 0, 1) := by decide +kernel
theorem dX12_findsShort_176 : decode cX12_findsShort 176 = .ok (.istore 6, 2) := by decide +kernel
theorem dX12_findsShort_178 : decode cX12_findsShort 178 = .ok (.aload_n 0, 1) := by decide +kernel
theorem dX12_findsShort_179 : decode cX12_findsShort 179 = .ok (.getfield 58, 3) := by decide +kernel
theorem dX12_findsShort_182 : decode cX12_findsShort 182 = .ok (.iload 5, 2) := by decide +kernel
theorem dX12_findsShort_184 : decode cX12_findsShort 184 = .ok (.iload 6, 2) := by decide +kernel
theorem dX12_findsShort_186 : decode cX12_findsShort 186 = .ok (.ifCond .eq 7, 3) := by decide +kernel
theorem dX12_findsShort_189 : decode cX12_findsShort 189 = .ok (.iload_n 2, 1) := by decide +kernel
theorem dX12_findsShort_190 : decode cX12_findsShort 190 = .ok (.goto 10, 3) := by decide +kernel
theorem dX12_findsShort_193 : decode cX12_findsShort 193 = .ok (.aload_n 0, 1) := by decide +kernel
theorem dX12_findsShort_194 : decode cX12_findsShort 194 = .ok (.getfield 58, 3) := by decide +kernel
theorem dX12_findsShort_197 : decode cX12_findsShort 197 = .ok (.iload 5, 2) := by decide +kernel
theorem dX12_findsShort_199 : decode cX12_findsShort 199 = .ok (.iaload, 1) := by decide +kernel
theorem dX12_findsShort_200 : decode cX12_findsShort 200 = .ok (.iastore, 1) := by decide +kernel
theorem dX12_findsShort_201 : decode cX12_findsShort 201 = .ok (.aload_n 0, 1) := by decide +kernel
theorem dX12_findsShort_202 : decode cX12_findsShort 202 = .ok (.getfield 61, 3) := by decide +kernel
theorem dX12_findsShort_205 : decode cX12_findsShort 205 = .ok (.iload 5, 2) := by decide +kernel
theorem dX12_findsShort_207 : decode cX12_findsShort 207 = .ok (.iload 6, 2) := by decide +kernel
theorem dX12_findsShort_209 : decode cX12_findsShort 209 = .ok (.ifCond .eq 7, 3) := by decide +kernel
theorem dX12_findsShort_212 : decode cX12_findsShort 212 = .ok (.lload_n 3, 1) := by decide +kernel
theorem dX12_findsShort_213 : decode cX12_findsShort 213 = .ok (.goto 10, 3) := by decide +kernel
theorem dX12_findsShort_216 : decode cX12_findsShort 216 = .ok (.aload_n 0, 1) := by decide +kernel
theorem dX12_findsShort_217 : decode cX12_findsShort 217 = .ok (.getfield 61, 3) := by decide +kernel
theorem dX12_findsShort_220 : decode cX12_findsShort 220 = .ok (.iload 5, 2) := by decide +kernel
theorem dX12_findsShort_222 : decode cX12_findsShort 222 = .ok (.laload, 1) := by decide +kernel
theorem dX12_findsShort_223 : decode cX12_findsShort 223 = .ok (.lastore, 1) := by decide +kernel
theorem dX12_findsShort_224 : decode cX12_findsShort 224 = .ok (.iload 6, 2) := by decide +kernel
theorem dX12_findsShort_226 : decode cX12_findsShort 226 = .ok (.ireturn, 1) := by decide +kernel
theorem dX12_finds_0 : decode cX12_finds 0 = .ok (.aload_n 0, 1) := by decide +kernel
theorem dX12_finds_1 : decode cX12_finds 1 = .ok (.getfield 108, 3) := by decide +kernel
theorem dX12_finds_4 : decode cX12_finds 4 = .ok (.ifCond .eq 4, 3) := by decide +kernel
theorem dX12_finds_7 : decode cX12_finds 7 = .ok (.return_, 1) := by decide +kernel
theorem dX12_finds_8 : decode cX12_finds 8 = .ok (.aload_n 0, 1) := by decide +kernel
theorem dX12_finds_9 : decode cX12_finds 9 = .ok (.iconst 1, 1) := by decide +kernel
theorem dX12_finds_10 : decode cX12_finds 10 = .ok (.putfield 108, 3) := by decide +kernel
theorem dX12_finds_13 : decode cX12_finds 13 = .ok (.aload_n 0, 1) := by decide +kernel
theorem dX12_finds_14 : decode cX12_finds 14 = .ok (.iconst 0, 1) := by decide +kernel
theorem dX12_finds_15 : decode cX12_finds 15 = .ok (.putfield 190, 3) := by decide +kernel
theorem dX12_finds_18 : decode cX12_finds 18 = .ok (.iconst 0, 1) := by decide +kernel
theorem dX12_finds_19 : decode cX12_finds 19 = .ok (.istore_n 1, 1) := by decide +kernel
theorem dX12_finds_20 : decode cX12_finds 20 = .ok (.iload_n 1, 1) := by decide +kernel
theorem dX12_finds_21 : decode cX12_finds 21 = .ok (.bipush 16, 2) := by decide +kernel
theorem dX12_finds_23 : decode cX12_finds 23 = .ok (.if_icmp .ge 64, 3) := by decide +kernel
theorem dX12_finds_26 : decode cX12_finds 26 = .ok (.aload_n 0, 1) := by decide +kernel
theorem dX12_finds_27 : decode cX12_finds 27 = .ok (.getfield 52, 3) := by decide +kernel
theorem dX12_finds_30 : decode cX12_finds 30 = .ok (.iload_n 1, 1) := by decide +kernel
theorem dX12_finds_31 : decode cX12_finds 31 = .ok (.iconst 0, 1) := by decide +kernel
theorem dX12_finds_32 : decode cX12_finds 32 = .ok (.iastore, 1) := by decide +kernel
theorem dX12_finds_33 : decode cX12_finds 33 = .ok (.aload_n 0, 1) := by decide +kernel
theorem dX12_finds_34 : decode cX12_finds 34 = .ok (.getfield 55, 3) := by decide +kernel
theorem dX12_finds_37 : decode cX12_finds 37 = .ok (.iload_n 1, 1) := by decide +kernel
theorem dX12_finds_38 : decode cX12_finds 38 = .ok (.iload_n 1, 1) := by decide +kernel
theorem dX12_finds_39 : decode cX12_finds 39 = .ok (.aload_n 0, 1) := by decide +kernel
theorem dX12_finds_40 : decode cX12_finds 40 = .ok (.getfield 34, 3) := by decide +kernel
theorem dX12_finds_43 : decode cX12_finds 43 = .ok (.aload_n 0, 1) := by decide +kernel
theorem dX12_finds_44 : decode cX12_finds 44 = .ok (.getfield 139, 3) := by decide +kernel
theorem dX12_finds_47 : decode cX12_finds 47 = .ok (.iaload, 1) := by decide +kernel
theorem dX12_finds_48 : decode cX12_finds 48 = .ok (.if_icmp .ne 9, 3) := by decide +kernel
theorem dX12_finds_51 : decode cX12_finds 51 = .ok (.sipush 256, 3) := by decide +kernel
theorem dX12_finds_54 : decode cX12_finds 54 = .ok (.goto 4, 3) := by decide +kernel
theorem dX12_finds_57 : decode cX12_finds 57 = .ok (.iconst 0, 1) := by decide +kernel
theorem dX12_finds_58 : decode cX12_finds 58 = .ok (.iastore, 1) := by decide +kernel
theorem dX12_finds_59 : decode cX12_finds 59 = .ok (.aload_n 0, 1) := by decide +kernel
theorem dX12_finds_60 : decode cX12_finds 60 = .ok (.getfield 58, 3) := by decide +kernel
theorem dX12_finds_63 : decode cX12_finds 63 = .ok (.iload_n 1, 1) := by decide +kernel
theorem dX12_finds_64 : decode cX12_finds 64 = .ok (.bipush 101, 2) := by decide +kernel
theorem dX12_finds_66 : decode cX12_finds 66 = .ok (.iastore, 1) := by decide +kernel
theorem dX12_finds_67 : decode cX12_finds 67 = .ok (.aload_n 0, 1) := by decide +kernel
theorem dX12_finds_68 : decode cX12_finds 68 = .ok (.getfield 61, 3) := by decide +kernel
theorem dX12_finds_71 : decode cX12_finds 71 = .ok (.iload_n 1, 1) := by decide +kernel
theorem dX12_finds_72 : decode cX12_finds 72 = .ok (.lconst 0, 1) := by decide +kernel
theorem dX12_finds_73 : decode cX12_finds 73 = .ok (.lastore, 1) := by decide +kernel
theorem dX12_finds_74 : decode cX12_finds 74 = .ok (.aload_n 0, 1) := by decide +kernel
theorem dX12_finds_75 : decode cX12_finds 75 = .ok (.getfield 65, 3) := by decide +kernel
theorem dX12_finds_78 : decode cX12_finds 78 = .ok (.iload_n 1, 1) := by decide +kernel
theorem dX12_finds_79 : decode cX12_finds 79 = .ok (.iconst 0, 1) := by decide +kernel
theorem dX12_finds_80 : decode cX12_finds 80 = .ok (.iastore, 1) := by decide +kernel
theorem dX12_finds_81 : decode cX12_finds 81 = .ok (.iinc 1 1, 3) := by decide +kernel
theorem dX12_finds_84 : decode cX12_finds 84 = .ok (.goto (-64), 3) := by decide +kernel
theorem dX12_finds_87 : decode cX12_finds 87 = .ok (.iconst 1, 1) := by decide +kernel
theorem dX12_finds_88 : decode cX12_finds 88 = .ok (.istore_n 1, 1) := by decide +kernel
theorem dX12_finds_89 : decode cX12_finds 89 = .ok (.iload_n 1, 1) := by decide +kernel
theorem dX12_finds_90 : decode cX12_finds 90 = .ok (.ifCond .eq 11, 3) := by decide +kernel
theorem dX12_finds_93 : decode cX12_finds 93 = .ok (.aload_n 0, 1) := by decide +kernel
theorem dX12_finds_94 : decode cX12_finds 94 = .ok (.invokevirtual 204, 3) := by decide +kernel
theorem dX12_finds_97 : decode cX12_finds 97 = .ok (.istore_n 1, 1) := by decide +kernel
theorem dX12_finds_98 : decode cX12_finds 98 = .ok (.goto (-9), 3) := by decide +kernel
theorem dX12_finds_101 : decode cX12_finds 101 = .ok (.iconst 1, 1) := by decide +kernel
theorem dX12_finds_102 : decode cX12_finds 102 = .ok (.istore_n 1, 1) := by decide +kernel
theorem dX12_finds_103 : decode cX12_finds 103 = .ok (.iload_n 1, 1) := by decide +kernel
theorem dX12_finds_104 : decode cX12_finds 104 = .ok (.ifCond .eq 11, 3) := by decide +kernel
theorem dX12_finds_107 : decode cX12_finds 107 = .ok (.aload_n 0, 1) := by decide +kernel
theorem dX12_finds_108 : decode cX12_finds 108 = .ok (.invokevirtual 207, 3) := by decide +kernel
theorem dX12_finds_111 : decode cX12_finds 111 = .ok (.istore_n 1, 1) := by decide +kernel
theorem dX12_finds_112 : decode cX12_finds 112 = .ok (.goto (-9), 3) := by decide +kernel
theorem dX12_finds_115 : decode cX12_finds 115 = .ok (.iconst 1, 1) := by decide +kernel
theorem dX12_finds_116 : decode cX12_finds 116 = .ok (.istore_n 1, 1) := by decide +kernel
theorem dX12_finds_117 : decode cX12_finds 117 = .ok (.iload_n 1, 1) := by decide +kernel
theorem dX12_finds_118 : decode cX12_finds 118 = .ok (.ifCond .eq 47, 3) := by decide +kernel
theorem dX12_finds_121 : decode cX12_finds 121 = .ok (.iconst 0, 1) := by decide +kernel
theorem dX12_finds_122 : decode cX12_finds 122 = .ok (.istore_n 1, 1) := by decide +kernel
theorem dX12_finds_123 : decode cX12_finds 123 = .ok (.iconst 0, 1) := by decide +kernel
theorem dX12_finds_124 : decode cX12_finds 124 = .ok (.istore_n 2, 1) := by decide +kernel
theorem dX12_finds_125 : decode cX12_finds 125 = .ok (.iload_n 2, 1) := by decide +kernel
theorem dX12_finds_126 : decode cX12_finds 126 = .ok (.aload_n 0, 1) := by decide +kernel
theorem dX12_finds_127 : decode cX12_finds 127 = .ok (.getfield 19, 3) := by decide +kernel
theorem dX12_finds_130 : decode cX12_finds 130 = .ok (.aload_n 0, 1) := by decide +kernel
theorem dX12_finds_131 : decode cX12_finds 131 = .ok (.getfield 139, 3) := by decide +kernel
theorem dX12_finds_134 : decode cX12_finds 134 = .ok (.iaload, 1) := by decide +kernel
theorem dX12_finds_135 : decode cX12_finds 135 = .ok (.if_icmp .ge 27, 3) := by decide +kernel
theorem dX12_finds_138 : decode cX12_finds 138 = .ok (.aload_n 0, 1) := by decide +kernel
theorem dX12_finds_139 : decode cX12_finds 139 = .ok (.iload_n 2, 1) := by decide +kernel
theorem dX12_finds_140 : decode cX12_finds 140 = .ok (.invokevirtual 210, 3) := by decide +kernel
theorem dX12_finds_143 : decode cX12_finds 143 = .ok (.ifCond .ne 7, 3) := by decide +kernel
theorem dX12_finds_146 : decode cX12_finds 146 = .ok (.iload_n 1, 1) := by decide +kernel
theorem dX12_finds_147 : decode cX12_finds 147 = .ok (.ifCond .eq 7, 3) := by decide +kernel
theorem dX12_finds_150 : decode cX12_finds 150 = .ok (.iconst 1, 1) := by decide +kernel
theorem dX12_finds_151 : decode cX12_finds 151 = .ok (.goto 4, 3) := by decide +kernel
theorem dX12_finds_154 : decode cX12_finds 154 = .ok (.iconst 0, 1) := by decide +kernel
theorem dX12_finds_155 : decode cX12_finds 155 = .ok (.istore_n 1, 1) := by decide +kernel
theorem dX12_finds_156 : decode cX12_finds 156 = .ok (.iinc 2 1, 3) := by decide +kernel
theorem dX12_finds_159 : decode cX12_finds 159 = .ok (.goto (-34), 3) := by decide +kernel
theorem dX12_finds_162 : decode cX12_finds 162 = .ok (.goto (-45), 3) := by decide +kernel
theorem dX12_finds_165 : decode cX12_finds 165 = .ok (.aload_n 0, 1) := by decide +kernel
theorem dX12_finds_166 : decode cX12_finds 166 = .ok (.invokevirtual 213, 3) := by decide +kernel
theorem dX12_finds_169 : decode cX12_finds 169 = .ok (.return_, 1) := by decide +kernel
theorem dX12_leadsAll_0 : decode cX12_leadsAll 0 = .ok (.iconst 0, 1) := by decide +kernel
theorem dX12_leadsAll_1 : decode cX12_leadsAll 1 = .ok (.istore_n 1, 1) := by decide +kernel
theorem dX12_leadsAll_2 : decode cX12_leadsAll 2 = .ok (.iload_n 1, 1) := by decide +kernel
theorem dX12_leadsAll_3 : decode cX12_leadsAll 3 = .ok (.aload_n 0, 1) := by decide +kernel
theorem dX12_leadsAll_4 : decode cX12_leadsAll 4 = .ok (.getfield 19, 3) := by decide +kernel
theorem dX12_leadsAll_7 : decode cX12_leadsAll 7 = .ok (.aload_n 0, 1) := by decide +kernel
theorem dX12_leadsAll_8 : decode cX12_leadsAll 8 = .ok (.getfield 139, 3) := by decide +kernel
theorem dX12_leadsAll_11 : decode cX12_leadsAll 11 = .ok (.iaload, 1) := by decide +kernel
theorem dX12_leadsAll_12 : decode cX12_leadsAll 12 = .ok (.if_icmp .ge 100, 3) := by decide +kernel
theorem dX12_leadsAll_15 : decode cX12_leadsAll 15 = .ok (.iconst 1, 1) := by decide +kernel
theorem dX12_leadsAll_16 : decode cX12_leadsAll 16 = .ok (.istore_n 2, 1) := by decide +kernel
theorem dX12_leadsAll_17 : decode cX12_leadsAll 17 = .ok (.iconst 0, 1) := by decide +kernel
theorem dX12_leadsAll_18 : decode cX12_leadsAll 18 = .ok (.istore_n 3, 1) := by decide +kernel
theorem dX12_leadsAll_19 : decode cX12_leadsAll 19 = .ok (.iload_n 3, 1) := by decide +kernel
theorem dX12_leadsAll_20 : decode cX12_leadsAll 20 = .ok (.aload_n 0, 1) := by decide +kernel
theorem dX12_leadsAll_21 : decode cX12_leadsAll 21 = .ok (.iload_n 1, 1) := by decide +kernel
theorem dX12_leadsAll_22 : decode cX12_leadsAll 22 = .ok (.invokevirtual 186, 3) := by decide +kernel
theorem dX12_leadsAll_25 : decode cX12_leadsAll 25 = .ok (.if_icmp .ge 81, 3) := by decide +kernel
theorem dX12_leadsAll_28 : decode cX12_leadsAll 28 = .ok (.iload_n 2, 1) := by decide +kernel
theorem dX12_leadsAll_29 : decode cX12_leadsAll 29 = .ok (.ifCond .eq 77, 3) := by decide +kernel
theorem dX12_leadsAll_32 : decode cX12_leadsAll 32 = .ok (.aload_n 0, 1) := by decide +kernel
theorem dX12_leadsAll_33 : decode cX12_leadsAll 33 = .ok (.iload_n 1, 1) := by decide +kernel
theorem dX12_leadsAll_34 : decode cX12_leadsAll 34 = .ok (.iload_n 3, 1) := by decide +kernel
theorem dX12_leadsAll_35 : decode cX12_leadsAll 35 = .ok (.invokevirtual 182, 3) := by decide +kernel
theorem dX12_leadsAll_38 : decode cX12_leadsAll 38 = .ok (.istore 4, 2) := by decide +kernel
theorem dX12_leadsAll_40 : decode cX12_leadsAll 40 = .ok (.aload_n 0, 1) := by decide +kernel
theorem dX12_leadsAll_41 : decode cX12_leadsAll 41 = .ok (.getfield 65, 3) := by decide +kernel
theorem dX12_leadsAll_44 : decode cX12_leadsAll 44 = .ok (.aload_n 0, 1) := by decide +kernel
theorem dX12_leadsAll_45 : decode cX12_leadsAll 45 = .ok (.iload_n 1, 1) := by decide +kernel
theorem dX12_leadsAll_46 : decode cX12_leadsAll 46 = .ok (.invokevirtual 193, 3) := by decide +kernel
theorem dX12_leadsAll_49 : decode cX12_leadsAll 49 = .ok (.dup2, 1) := by decide +kernel
theorem dX12_leadsAll_50 : decode cX12_leadsAll 50 = .ok (.iaload, 1) := by decide +kernel
theorem dX12_leadsAll_51 : decode cX12_leadsAll 51 = .ok (.iload 4, 2) := by decide +kernel
theorem dX12_leadsAll_53 : decode cX12_leadsAll 53 = .ok (.bipush 16, 2) := by decide +kernel
theorem dX12_leadsAll_55 : decode cX12_leadsAll 55 = .ok (.if_icmp .ge 7, 3) := by decide +kernel
theorem dX12_leadsAll_58 : decode cX12_leadsAll 58 = .ok (.iconst 0, 1) := by decide +kernel
theorem dX12_leadsAll_59 : decode cX12_leadsAll 59 = .ok (.goto 10, 3) := by decide +kernel
theorem dX12_leadsAll_62 : decode cX12_leadsAll 62 = .ok (.iconst 1, 1) := by decide +kernel
theorem dX12_leadsAll_63 : decode cX12_leadsAll 63 = .ok (.iload 4, 2) := by decide +kernel
theorem dX12_leadsAll_65 : decode cX12_leadsAll 65 = .ok (.bipush 16, 2) := by decide +kernel
theorem dX12_leadsAll_67 : decode cX12_leadsAll 67 = .ok (.isub, 1) := by decide +kernel
theorem dX12_leadsAll_68 : decode cX12_leadsAll 68 = .ok (.ishl, 1) := by decide +kernel
theorem dX12_leadsAll_69 : decode cX12_leadsAll 69 = .ok (.ior, 1) := by decide +kernel
theorem dX12_leadsAll_70 : decode cX12_leadsAll 70 = .ok (.iastore, 1) := by decide +kernel
theorem dX12_leadsAll_71 : decode cX12_leadsAll 71 = .ok (.iload 4, 2) := by decide +kernel
theorem dX12_leadsAll_73 : decode cX12_leadsAll 73 = .ok (.bipush 16, 2) := by decide +kernel
theorem dX12_leadsAll_75 : decode cX12_leadsAll 75 = .ok (.if_icmp .lt 23, 3) := by decide +kernel
theorem dX12_leadsAll_78 : decode cX12_leadsAll 78 = .ok (.aload_n 0, 1) := by decide +kernel
theorem dX12_leadsAll_79 : decode cX12_leadsAll 79 = .ok (.getfield 190, 3) := by decide +kernel
theorem dX12_leadsAll_82 : decode cX12_leadsAll 82 = .ok (.iload 4, 2) := by decide +kernel
theorem dX12_leadsAll_84 : decode cX12_leadsAll 84 = .ok (.bipush 16, 2) := by decide +kernel
theorem dX12_leadsAll_86 : decode cX12_leadsAll 86 = .ok (.isub, 1) := by decide +kernel
theorem dX12_leadsAll_87 : decode cX12_leadsAll 87 = .ok (.ishr, 1) := by decide +kernel
theorem dX12_leadsAll_88 : decode cX12_leadsAll 88 = .ok (.iconst 1, 1) := by decide +kernel
theorem dX12_leadsAll_89 : decode cX12_leadsAll 89 = .ok (.iand, 1) := by decide +kernel
theorem dX12_leadsAll_90 : decode cX12_leadsAll 90 = .ok (.iconst 1, 1) := by decide +kernel
theorem dX12_leadsAll_91 : decode cX12_leadsAll 91 = .ok (.if_icmp .ne 7, 3) := by decide +kernel
theorem dX12_leadsAll_94 : decode cX12_leadsAll 94 = .ok (.iconst 1, 1) := by decide +kernel
theorem dX12_leadsAll_95 : decode cX12_leadsAll 95 = .ok (.goto 4, 3) := by decide +kernel
theorem dX12_leadsAll_98 : decode cX12_leadsAll 98 = .ok (.iconst 0, 1) := by decide +kernel
theorem dX12_leadsAll_99 : decode cX12_leadsAll 99 = .ok (.istore_n 2, 1) := by decide +kernel
theorem dX12_leadsAll_100 : decode cX12_leadsAll 100 = .ok (.iinc 3 1, 3) := by decide +kernel
theorem dX12_leadsAll_103 : decode cX12_leadsAll 103 = .ok (.goto (-84), 3) := by decide +kernel
theorem dX12_leadsAll_106 : decode cX12_leadsAll 106 = .ok (.iinc 1 1, 3) := by decide +kernel
theorem dX12_leadsAll_109 : decode cX12_leadsAll 109 = .ok (.goto (-107), 3) := by decide +kernel
theorem dX12_leadsAll_112 : decode cX12_leadsAll 112 = .ok (.iconst 0, 1) := by decide +kernel
theorem dX12_leadsAll_113 : decode cX12_leadsAll 113 = .ok (.istore_n 1, 1) := by decide +kernel
theorem dX12_leadsAll_114 : decode cX12_leadsAll 114 = .ok (.iload_n 1, 1) := by decide +kernel
theorem dX12_leadsAll_115 : decode cX12_leadsAll 115 = .ok (.bipush 16, 2) := by decide +kernel
theorem dX12_leadsAll_117 : decode cX12_leadsAll 117 = .ok (.if_icmp .ge 70, 3) := by decide +kernel
theorem dX12_leadsAll_120 : decode cX12_leadsAll 120 = .ok (.iconst 0, 1) := by decide +kernel
theorem dX12_leadsAll_121 : decode cX12_leadsAll 121 = .ok (.istore_n 2, 1) := by decide +kernel
theorem dX12_leadsAll_122 : decode cX12_leadsAll 122 = .ok (.iload_n 2, 1) := by decide +kernel
theorem dX12_leadsAll_123 : decode cX12_leadsAll 123 = .ok (.bipush 16, 2) := by decide +kernel
theorem dX12_leadsAll_125 : decode cX12_leadsAll 125 = .ok (.if_icmp .ge 56, 3) := by decide +kernel
theorem dX12_leadsAll_128 : decode cX12_leadsAll 128 = .ok (.iconst 0, 1) := by decide +kernel
theorem dX12_leadsAll_129 : decode cX12_leadsAll 129 = .ok (.istore_n 3, 1) := by decide +kernel
theorem dX12_leadsAll_130 : decode cX12_leadsAll 130 = .ok (.iload_n 3, 1) := by decide +kernel
theorem dX12_leadsAll_131 : decode cX12_leadsAll 131 = .ok (.bipush 16, 2) := by decide +kernel
theorem dX12_leadsAll_133 : decode cX12_leadsAll 133 = .ok (.if_icmp .ge 42, 3) := by decide +kernel
theorem dX12_leadsAll_136 : decode cX12_leadsAll 136 = .ok (.aload_n 0, 1) := by decide +kernel
theorem dX12_leadsAll_137 : decode cX12_leadsAll 137 = .ok (.getfield 65, 3) := by decide +kernel
theorem dX12_leadsAll_140 : decode cX12_leadsAll 140 = .ok (.iload_n 2, 1) := by decide +kernel
theorem dX12_leadsAll_141 : decode cX12_leadsAll 141 = .ok (.dup2, 1) := by decide +kernel
theorem dX12_leadsAll_142 : decode cX12_leadsAll 142 = .ok (.iaload, 1) := by decide +kernel
theorem dX12_leadsAll_143 : decode cX12_leadsAll 143 = .ok (.aload_n 0, 1) := by decide +kernel
theorem dX12_leadsAll_144 : decode cX12_leadsAll 144 = .ok (.getfield 65, 3) := by decide +kernel
theorem dX12_leadsAll_147 : decode cX12_leadsAll 147 = .ok (.iload_n 2, 1) := by decide +kernel
theorem dX12_leadsAll_148 : decode cX12_leadsAll 148 = .ok (.iaload, 1) := by decide +kernel
theorem dX12_leadsAll_149 : decode cX12_leadsAll 149 = .ok (.iload_n 3, 1) := by decide +kernel
theorem dX12_leadsAll_150 : decode cX12_leadsAll 150 = .ok (.ishr, 1) := by decide +kernel
theorem dX12_leadsAll_151 : decode cX12_leadsAll 151 = .ok (.iconst 1, 1) := by decide +kernel
theorem dX12_leadsAll_152 : decode cX12_leadsAll 152 = .ok (.iand, 1) := by decide +kernel
theorem dX12_leadsAll_153 : decode cX12_leadsAll 153 = .ok (.iconst 1, 1) := by decide +kernel
theorem dX12_leadsAll_154 : decode cX12_leadsAll 154 = .ok (.if_icmp .ne 12, 3) := by decide +kernel
theorem dX12_leadsAll_157 : decode cX12_leadsAll 157 = .ok (.aload_n 0, 1) := by decide +kernel
theorem dX12_leadsAll_158 : decode cX12_leadsAll 158 = .ok (.getfield 65, 3) := by decide +kernel
theorem dX12_leadsAll_161 : decode cX12_leadsAll 161 = .ok (.iload_n 3, 1) := by decide +kernel
theorem dX12_leadsAll_162 : decode cX12_leadsAll 162 = .ok (.iaload, 1) := by decide +kernel
theorem dX12_leadsAll_163 : decode cX12_leadsAll 163 = .ok (.goto 4, 3) := by decide +kernel
theorem dX12_leadsAll_166 : decode cX12_leadsAll 166 = .ok (.iconst 0, 1) := by decide +kernel
theorem dX12_leadsAll_167 : decode cX12_leadsAll 167 = .ok (.ior, 1) := by decide +kernel
theorem dX12_leadsAll_168 : decode cX12_leadsAll 168 = .ok (.iastore, 1) := by decide +kernel
theorem dX12_leadsAll_169 : decode cX12_leadsAll 169 = .ok (.iinc 3 1, 3) := by decide +kernel
theorem dX12_leadsAll_172 : decode cX12_leadsAll 172 = .ok (.goto (-42), 3) := by decide +kernel
theorem dX12_leadsAll_175 : decode cX12_leadsAll 175 = .ok (.iinc 2 1, 3) := by decide +kernel
theorem dX12_leadsAll_178 : decode cX12_leadsAll 178 = .ok (.goto (-56), 3) := by decide +kernel
theorem dX12_leadsAll_181 : decode cX12_leadsAll 181 = .ok (.iinc 1 1, 3) := by decide +kernel
theorem dX12_leadsAll_184 : decode cX12_leadsAll 184 = .ok (.goto (-70), 3) := by decide +kernel
theorem dX12_leadsAll_187 : decode cX12_leadsAll 187 = .ok (.return_, 1) := by decide +kernel
theorem dX12_isNullable_0 : decode cX12_isNullable 0 = .ok (.aload_n 0, 1) := by decide +kernel
theorem dX12_isNullable_1 : decode cX12_isNullable 1 = .ok (.invokevirtual 216, 3) := by decide +kernel
theorem dX12_isNullable_4 : decode cX12_isNullable 4 = .ok (.aload_n 0, 1) := by decide +kernel
theorem dX12_isNullable_5 : decode cX12_isNullable 5 = .ok (.iload_n 1, 1) := by decide +kernel
theorem dX12_isNullable_6 : decode cX12_isNullable 6 = .ok (.bipush 16, 2) := by decide +kernel
theorem dX12_isNullable_8 : decode cX12_isNullable 8 = .ok (.invokestatic 172, 3) := by decide +kernel
theorem dX12_isNullable_11 : decode cX12_isNullable 11 = .ok (.iconst 1, 1) := by decide +kernel
theorem dX12_isNullable_12 : decode cX12_isNullable 12 = .ok (.iconst 1, 1) := by decide +kernel
theorem dX12_isNullable_13 : decode cX12_isNullable 13 = .ok (.invokevirtual 131, 3) := by decide +kernel
theorem dX12_isNullable_16 : decode cX12_isNullable 16 = .ok (.ifCond .eq 19, 3) := by decide +kernel
theorem dX12_isNullable_19 : decode cX12_isNullable 19 = .ok (.aload_n 0, 1) := by decide +kernel
theorem dX12_isNullable_20 : decode cX12_isNullable 20 = .ok (.getfield 190, 3) := by decide +kernel
theorem dX12_isNullable_23 : decode cX12_isNullable 23 = .ok (.iload_n 1, 1) := by decide +kernel
theorem dX12_isNullable_24 : decode cX12_isNullable 24 = .ok (.ishr, 1) := by decide +kernel
theorem dX12_isNullable_25 : decode cX12_isNullable 25 = .ok (.iconst 1, 1) := by decide +kernel
theorem dX12_isNullable_26 : decode cX12_isNullable 26 = .ok (.iand, 1) := by decide +kernel
theorem dX12_isNullable_27 : decode cX12_isNullable 27 = .ok (.iconst 1, 1) := by decide +kernel
theorem dX12_isNullable_28 : decode cX12_isNullable 28 = .ok (.if_icmp .ne 7, 3) := by decide +kernel
theorem dX12_isNullable_31 : decode cX12_isNullable 31 = .ok (.iconst 1, 1) := by decide +kernel
theorem dX12_isNullable_32 : decode cX12_isNullable 32 = .ok (.goto 4, 3) := by decide +kernel
theorem dX12_isNullable_35 : decode cX12_isNullable 35 = .ok (.iconst 0, 1) := by decide +kernel
theorem dX12_isNullable_36 : decode cX12_isNullable 36 = .ok (.ireturn, 1) := by decide +kernel
theorem dX12_first_0 : decode cX12_first 0 = .ok (.aload_n 0, 1) := by decide +kernel
theorem dX12_first_1 : decode cX12_first 1 = .ok (.invokevirtual 216, 3) := by decide +kernel
theorem dX12_first_4 : decode cX12_first 4 = .ok (.aload_n 0, 1) := by decide +kernel
theorem dX12_first_5 : decode cX12_first 5 = .ok (.iload_n 1, 1) := by decide +kernel
theorem dX12_first_6 : decode cX12_first 6 = .ok (.bipush 16, 2) := by decide +kernel
theorem dX12_first_8 : decode cX12_first 8 = .ok (.invokestatic 172, 3) := by decide +kernel
theorem dX12_first_11 : decode cX12_first 11 = .ok (.iconst 1, 1) := by decide +kernel
theorem dX12_first_12 : decode cX12_first 12 = .ok (.iconst 1, 1) := by decide +kernel
theorem dX12_first_13 : decode cX12_first 13 = .ok (.invokevirtual 131, 3) := by decide +kernel
theorem dX12_first_16 : decode cX12_first 16 = .ok (.ifCond .eq 12, 3) := by decide +kernel
theorem dX12_first_19 : decode cX12_first 19 = .ok (.aload_n 0, 1) := by decide +kernel
theorem dX12_first_20 : decode cX12_first 20 = .ok (.getfield 52, 3) := by decide +kernel
theorem dX12_first_23 : decode cX12_first 23 = .ok (.iload_n 1, 1) := by decide +kernel
theorem dX12_first_24 : decode cX12_first 24 = .ok (.iaload, 1) := by decide +kernel
theorem dX12_first_25 : decode cX12_first 25 = .ok (.goto 4, 3) := by decide +kernel
theorem dX12_first_28 : decode cX12_first 28 = .ok (.iconst 0, 1) := by decide +kernel
theorem dX12_first_29 : decode cX12_first 29 = .ok (.ireturn, 1) := by decide +kernel
theorem dX12_follow_0 : decode cX12_follow 0 = .ok (.aload_n 0, 1) := by decide +kernel
theorem dX12_follow_1 : decode cX12_follow 1 = .ok (.invokevirtual 216, 3) := by decide +kernel
theorem dX12_follow_4 : decode cX12_follow 4 = .ok (.aload_n 0, 1) := by decide +kernel
theorem dX12_follow_5 : decode cX12_follow 5 = .ok (.iload_n 1, 1) := by decide +kernel
theorem dX12_follow_6 : decode cX12_follow 6 = .ok (.bipush 16, 2) := by decide +kernel
theorem dX12_follow_8 : decode cX12_follow 8 = .ok (.invokestatic 172, 3) := by decide +kernel
theorem dX12_follow_11 : decode cX12_follow 11 = .ok (.iconst 1, 1) := by decide +kernel
theorem dX12_follow_12 : decode cX12_follow 12 = .ok (.iconst 1, 1) := by decide +kernel
theorem dX12_follow_13 : decode cX12_follow 13 = .ok (.invokevirtual 131, 3) := by decide +kernel
theorem dX12_follow_16 : decode cX12_follow 16 = .ok (.ifCond .eq 12, 3) := by decide +kernel
theorem dX12_follow_19 : decode cX12_follow 19 = .ok (.aload_n 0, 1) := by decide +kernel
theorem dX12_follow_20 : decode cX12_follow 20 = .ok (.getfield 55, 3) := by decide +kernel
theorem dX12_follow_23 : decode cX12_follow 23 = .ok (.iload_n 1, 1) := by decide +kernel
theorem dX12_follow_24 : decode cX12_follow 24 = .ok (.iaload, 1) := by decide +kernel
theorem dX12_follow_25 : decode cX12_follow 25 = .ok (.goto 4, 3) := by decide +kernel
theorem dX12_follow_28 : decode cX12_follow 28 = .ok (.iconst 0, 1) := by decide +kernel
theorem dX12_follow_29 : decode cX12_follow 29 = .ok (.ireturn, 1) := by decide +kernel
theorem dX12_uses_0 : decode cX12_uses 0 = .ok (.aload_n 0, 1) := by decide +kernel
theorem dX12_uses_1 : decode cX12_uses 1 = .ok (.invokevirtual 216, 3) := by decide +kernel
theorem dX12_uses_4 : decode cX12_uses 4 = .ok (.aload_n 0, 1) := by decide +kernel
theorem dX12_uses_5 : decode cX12_uses 5 = .ok (.iload_n 1, 1) := by decide +kernel
theorem dX12_uses_6 : decode cX12_uses 6 = .ok (.bipush 16, 2) := by decide +kernel
theorem dX12_uses_8 : decode cX12_uses 8 = .ok (.invokestatic 172, 3) := by decide +kernel
theorem dX12_uses_11 : decode cX12_uses 11 = .ok (.iconst 1, 1) := by decide +kernel
theorem dX12_uses_12 : decode cX12_uses 12 = .ok (.iconst 1, 1) := by decide +kernel
theorem dX12_uses_13 : decode cX12_uses 13 = .ok (.invokevirtual 131, 3) := by decide +kernel
theorem dX12_uses_16 : decode cX12_uses 16 = .ok (.ifCond .ne 5, 3) := by decide +kernel
theorem dX12_uses_19 : decode cX12_uses 19 = .ok (.iconst 0, 1) := by decide +kernel
theorem dX12_uses_20 : decode cX12_uses 20 = .ok (.ireturn, 1) := by decide +kernel
theorem dX12_uses_21 : decode cX12_uses 21 = .ok (.iconst 1, 1) := by decide +kernel
theorem dX12_uses_22 : decode cX12_uses 22 = .ok (.aload_n 0, 1) := by decide +kernel
theorem dX12_uses_23 : decode cX12_uses 23 = .ok (.getfield 34, 3) := by decide +kernel
theorem dX12_uses_26 : decode cX12_uses 26 = .ok (.aload_n 0, 1) := by decide +kernel
theorem dX12_uses_27 : decode cX12_uses 27 = .ok (.getfield 139, 3) := by decide +kernel
theorem dX12_uses_30 : decode cX12_uses 30 = .ok (.iaload, 1) := by decide +kernel
theorem dX12_uses_31 : decode cX12_uses 31 = .ok (.ishl, 1) := by decide +kernel
theorem dX12_uses_32 : decode cX12_uses 32 = .ok (.istore_n 2, 1) := by decide +kernel
theorem dX12_uses_33 : decode cX12_uses 33 = .ok (.iconst 0, 1) := by decide +kernel
theorem dX12_uses_34 : decode cX12_uses 34 = .ok (.istore_n 3, 1) := by decide +kernel
theorem dX12_uses_35 : decode cX12_uses 35 = .ok (.iload_n 2, 1) := by decide +kernel
theorem dX12_uses_36 : decode cX12_uses 36 = .ok (.iload_n 3, 1) := by decide +kernel
theorem dX12_uses_37 : decode cX12_uses 37 = .ok (.if_icmp .eq 98, 3) := by decide +kernel
theorem dX12_uses_40 : decode cX12_uses 40 = .ok (.iload_n 2, 1) := by decide +kernel
theorem dX12_uses_41 : decode cX12_uses 41 = .ok (.istore_n 3, 1) := by decide +kernel
theorem dX12_uses_42 : decode cX12_uses 42 = .ok (.iconst 0, 1) := by decide +kernel
theorem dX12_uses_43 : decode cX12_uses 43 = .ok (.istore 4, 2) := by decide +kernel
theorem dX12_uses_45 : decode cX12_uses 45 = .ok (.iload 4, 2) := by decide +kernel
theorem dX12_uses_47 : decode cX12_uses 47 = .ok (.aload_n 0, 1) := by decide +kernel
theorem dX12_uses_48 : decode cX12_uses 48 = .ok (.getfield 19, 3) := by decide +kernel
theorem dX12_uses_51 : decode cX12_uses 51 = .ok (.aload_n 0, 1) := by decide +kernel
theorem dX12_uses_52 : decode cX12_uses 52 = .ok (.getfield 139, 3) := by decide +kernel
theorem dX12_uses_55 : decode cX12_uses 55 = .ok (.iaload, 1) := by decide +kernel
theorem dX12_uses_56 : decode cX12_uses 56 = .ok (.if_icmp .ge 76, 3) := by decide +kernel
theorem dX12_uses_59 : decode cX12_uses 59 = .ok (.iconst 0, 1) := by decide +kernel
theorem dX12_uses_60 : decode cX12_uses 60 = .ok (.istore 5, 2) := by decide +kernel
theorem dX12_uses_62 : decode cX12_uses 62 = .ok (.iload 5, 2) := by decide +kernel
theorem dX12_uses_64 : decode cX12_uses 64 = .ok (.aload_n 0, 1) := by decide +kernel
theorem dX12_uses_65 : decode cX12_uses 65 = .ok (.iload 4, 2) := by decide +kernel
theorem dX12_uses_67 : decode cX12_uses 67 = .ok (.invokevirtual 186, 3) := by decide +kernel
theorem dX12_uses_70 : decode cX12_uses 70 = .ok (.if_icmp .ge 56, 3) := by decide +kernel
theorem dX12_uses_73 : decode cX12_uses 73 = .ok (.iload_n 2, 1) := by decide +kernel
theorem dX12_uses_74 : decode cX12_uses 74 = .ok (.iload_n 2, 1) := by decide +kernel
theorem dX12_uses_75 : decode cX12_uses 75 = .ok (.aload_n 0, 1) := by decide +kernel
theorem dX12_uses_76 : decode cX12_uses 76 = .ok (.iload 4, 2) := by decide +kernel
theorem dX12_uses_78 : decode cX12_uses 78 = .ok (.invokevirtual 193, 3) := by decide +kernel
theorem dX12_uses_81 : decode cX12_uses 81 = .ok (.ishr, 1) := by decide +kernel
theorem dX12_uses_82 : decode cX12_uses 82 = .ok (.iconst 1, 1) := by decide +kernel
theorem dX12_uses_83 : decode cX12_uses 83 = .ok (.iand, 1) := by decide +kernel
theorem dX12_uses_84 : decode cX12_uses 84 = .ok (.iconst 1, 1) := by decide +kernel
theorem dX12_uses_85 : decode cX12_uses 85 = .ok (.if_icmp .ne 32, 3) := by decide +kernel
theorem dX12_uses_88 : decode cX12_uses 88 = .ok (.aload_n 0, 1) := by decide +kernel
theorem dX12_uses_89 : decode cX12_uses 89 = .ok (.iload 4, 2) := by decide +kernel
theorem dX12_uses_91 : decode cX12_uses 91 = .ok (.iload 5, 2) := by decide +kernel
theorem dX12_uses_93 : decode cX12_uses 93 = .ok (.invokevirtual 182, 3) := by decide +kernel
theorem dX12_uses_96 : decode cX12_uses 96 = .ok (.bipush 16, 2) := by decide +kernel
theorem dX12_uses_98 : decode cX12_uses 98 = .ok (.if_icmp .lt 19, 3) := by decide +kernel
theorem dX12_uses_101 : decode cX12_uses 101 = .ok (.iconst 1, 1) := by decide +kernel
theorem dX12_uses_102 : decode cX12_uses 102 = .ok (.aload_n 0, 1) := by decide +kernel
theorem dX12_uses_103 : decode cX12_uses 103 = .ok (.iload 4, 2) := by decide +kernel
theorem dX12_uses_105 : decode cX12_uses 105 = .ok (.iload 5, 2) := by decide +kernel
theorem dX12_uses_107 : decode cX12_uses 107 = .ok (.invokevirtual 182, 3) := by decide +kernel
theorem dX12_uses_110 : decode cX12_uses 110 = .ok (.bipush 16, 2) := by decide +kernel
theorem dX12_uses_112 : decode cX12_uses 112 = .ok (.isub, 1) := by decide +kernel
theorem dX12_uses_113 : decode cX12_uses 113 = .ok (.ishl, 1) := by decide +kernel
theorem dX12_uses_114 : decode cX12_uses 114 = .ok (.goto 4, 3) := by decide +kernel
theorem dX12_uses_117 : decode cX12_uses 117 = .ok (.iconst 0, 1) := by decide +kernel
theorem dX12_uses_118 : decode cX12_uses 118 = .ok (.ior, 1) := by decide +kernel
theorem dX12_uses_119 : decode cX12_uses 119 = .ok (.istore_n 2, 1) := by decide +kernel
theorem dX12_uses_120 : decode cX12_uses 120 = .ok (.iinc 5 1, 3) := by decide +kernel
theorem dX12_uses_123 : decode cX12_uses 123 = .ok (.goto (-61), 3) := by decide +kernel
theorem dX12_uses_126 : decode cX12_uses 126 = .ok (.iinc 4 1, 3) := by decide +kernel
theorem dX12_uses_129 : decode cX12_uses 129 = .ok (.goto (-84), 3) := by decide +kernel
theorem dX12_uses_132 : decode cX12_uses 132 = .ok (.goto (-97), 3) := by decide +kernel
theorem dX12_uses_135 : decode cX12_uses 135 = .ok (.aload_n 0, 1) := by decide +kernel
theorem dX12_uses_136 : decode cX12_uses 136 = .ok (.getfield 58, 3) := by decide +kernel
theorem dX12_uses_139 : decode cX12_uses 139 = .ok (.iload_n 1, 1) := by decide +kernel
theorem dX12_uses_140 : decode cX12_uses 140 = .ok (.iaload, 1) := by decide +kernel
theorem dX12_uses_141 : decode cX12_uses 141 = .ok (.bipush 100, 2) := by decide +kernel
theorem dX12_uses_143 : decode cX12_uses 143 = .ok (.if_icmp .gt 7, 3) := by decide +kernel
theorem dX12_uses_146 : decode cX12_uses 146 = .ok (.iconst 1, 1) := by decide +kernel
theorem dX12_uses_147 : decode cX12_uses 147 = .ok (.goto 4, 3) := by decide +kernel
theorem dX12_uses_150 : decode cX12_uses 150 = .ok (.iconst 0, 1) := by decide +kernel
theorem dX12_uses_151 : decode cX12_uses 151 = .ok (.iload_n 2, 1) := by decide +kernel
theorem dX12_uses_152 : decode cX12_uses 152 = .ok (.iload_n 1, 1) := by decide +kernel
theorem dX12_uses_153 : decode cX12_uses 153 = .ok (.ishr, 1) := by decide +kernel
theorem dX12_uses_154 : decode cX12_uses 154 = .ok (.iconst 1, 1) := by decide +kernel
theorem dX12_uses_155 : decode cX12_uses 155 = .ok (.iand, 1) := by decide +kernel
theorem dX12_uses_156 : decode cX12_uses 156 = .ok (.iconst 1, 1) := by decide +kernel
theorem dX12_uses_157 : decode cX12_uses 157 = .ok (.if_icmp .ne 7, 3) := by decide +kernel
theorem dX12_uses_160 : decode cX12_uses 160 = .ok (.iconst 2, 1) := by decide +kernel
theorem dX12_uses_161 : decode cX12_uses 161 = .ok (.goto 4, 3) := by decide +kernel
theorem dX12_uses_164 : decode cX12_uses 164 = .ok (.iconst 0, 1) := by decide +kernel
theorem dX12_uses_165 : decode cX12_uses 165 = .ok (.iadd, 1) := by decide +kernel
theorem dX12_uses_166 : decode cX12_uses 166 = .ok (.ireturn, 1) := by decide +kernel
theorem dX12_isLeftRecursive_0 : decode cX12_isLeftRecursive 0 = .ok (.aload_n 0, 1) := by decide +kernel
theorem dX12_isLeftRecursive_1 : decode cX12_isLeftRecursive 1 = .ok (.invokevirtual 216, 3) := by decide +kernel
theorem dX12_isLeftRecursive_4 : decode cX12_isLeftRecursive 4 = .ok (.aload_n 0, 1) := by decide +kernel
theorem dX12_isLeftRecursive_5 : decode cX12_isLeftRecursive 5 = .ok (.iload_n 1, 1) := by decide +kernel
theorem dX12_isLeftRecursive_6 : decode cX12_isLeftRecursive 6 = .ok (.bipush 16, 2) := by decide +kernel
theorem dX12_isLeftRecursive_8 : decode cX12_isLeftRecursive 8 = .ok (.invokestatic 172, 3) := by decide +kernel
theorem dX12_isLeftRecursive_11 : decode cX12_isLeftRecursive 11 = .ok (.iconst 1, 1) := by decide +kernel
theorem dX12_isLeftRecursive_12 : decode cX12_isLeftRecursive 12 = .ok (.iconst 1, 1) := by decide +kernel
theorem dX12_isLeftRecursive_13 : decode cX12_isLeftRecursive 13 = .ok (.invokevirtual 131, 3) := by decide +kernel
theorem dX12_isLeftRecursive_16 : decode cX12_isLeftRecursive 16 = .ok (.ifCond .eq 21, 3) := by decide +kernel
theorem dX12_isLeftRecursive_19 : decode cX12_isLeftRecursive 19 = .ok (.aload_n 0, 1) := by decide +kernel
theorem dX12_isLeftRecursive_20 : decode cX12_isLeftRecursive 20 = .ok (.getfield 65, 3) := by decide +kernel
theorem dX12_isLeftRecursive_23 : decode cX12_isLeftRecursive 23 = .ok (.iload_n 1, 1) := by decide +kernel
theorem dX12_isLeftRecursive_24 : decode cX12_isLeftRecursive 24 = .ok (.iaload, 1) := by decide +kernel
theorem dX12_isLeftRecursive_25 : decode cX12_isLeftRecursive 25 = .ok (.iload_n 1, 1) := by decide +kernel
theorem dX12_isLeftRecursive_26 : decode cX12_isLeftRecursive 26 = .ok (.ishr, 1) := by decide +kernel
theorem dX12_isLeftRecursive_27 : decode cX12_isLeftRecursive 27 = .ok (.iconst 1, 1) := by decide +kernel
theorem dX12_isLeftRecursive_28 : decode cX12_isLeftRecursive 28 = .ok (.iand, 1) := by decide +kernel
theorem dX12_isLeftRecursive_29 : decode cX12_isLeftRecursive 29 = .ok (.iconst 1, 1) := by decide +kernel
theorem dX12_isLeftRecursive_30 : decode cX12_isLeftRecursive 30 = .ok (.if_icmp .ne 7, 3) := by decide +kernel
theorem dX12_isLeftRecursive_33 : decode cX12_isLeftRecursive 33 = .ok (.iconst 1, 1) := by decide +kernel
theorem dX12_isLeftRecursive_34 : decode cX12_isLeftRecursive 34 = .ok (.goto 4, 3) := by decide +kernel
theorem dX12_isLeftRecursive_37 : decode cX12_isLeftRecursive 37 = .ok (.iconst 0, 1) := by decide +kernel
theorem dX12_isLeftRecursive_38 : decode cX12_isLeftRecursive 38 = .ok (.ireturn, 1) := by decide +kernel
theorem dX12_shortest_0 : decode cX12_shortest 0 = .ok (.aload_n 0, 1) := by decide +kernel
theorem dX12_shortest_1 : decode cX12_shortest 1 = .ok (.invokevirtual 216, 3) := by decide +kernel
theorem dX12_shortest_4 : decode cX12_shortest 4 = .ok (.aload_n 0, 1) := by decide +kernel
theorem dX12_shortest_5 : decode cX12_shortest 5 = .ok (.iload_n 1, 1) := by decide +kernel
theorem dX12_shortest_6 : decode cX12_shortest 6 = .ok (.bipush 16, 2) := by decide +kernel
theorem dX12_shortest_8 : decode cX12_shortest 8 = .ok (.invokestatic 172, 3) := by decide +kernel
theorem dX12_shortest_11 : decode cX12_shortest 11 = .ok (.iconst 1, 1) := by decide +kernel
theorem dX12_shortest_12 : decode cX12_shortest 12 = .ok (.iconst 1, 1) := by decide +kernel
theorem dX12_shortest_13 : decode cX12_shortest 13 = .ok (.invokevirtual 131, 3) := by decide +kernel
theorem dX12_shortest_16 : decode cX12_shortest 16 = .ok (.ifCond .ne 5, 3) := by decide +kernel
theorem dX12_shortest_19 : decode cX12_shortest 19 = .ok (.iconst 0, 1) := by decide +kernel
theorem dX12_shortest_20 : decode cX12_shortest 20 = .ok (.ireturn, 1) := by decide +kernel
theorem dX12_shortest_21 : decode cX12_shortest 21 = .ok (.aload_n 0, 1) := by decide +kernel
theorem dX12_shortest_22 : decode cX12_shortest 22 = .ok (.getfield 58, 3) := by decide +kernel
theorem dX12_shortest_25 : decode cX12_shortest 25 = .ok (.iload_n 1, 1) := by decide +kernel
theorem dX12_shortest_26 : decode cX12_shortest 26 = .ok (.iaload, 1) := by decide +kernel
theorem dX12_shortest_27 : decode cX12_shortest 27 = .ok (.bipush 100, 2) := by decide +kernel
theorem dX12_shortest_29 : decode cX12_shortest 29 = .ok (.if_icmp .le 7, 3) := by decide +kernel
theorem dX12_shortest_32 : decode cX12_shortest 32 = .ok (.iconst (-1), 1) := by decide +kernel
theorem dX12_shortest_33 : decode cX12_shortest 33 = .ok (.goto 25, 3) := by decide +kernel
theorem dX12_shortest_36 : decode cX12_shortest 36 = .ok (.aload_n 0, 1) := by decide +kernel
theorem dX12_shortest_37 : decode cX12_shortest 37 = .ok (.getfield 58, 3) := by decide +kernel
theorem dX12_shortest_40 : decode cX12_shortest 40 = .ok (.iload_n 1, 1) := by decide +kernel
theorem dX12_shortest_41 : decode cX12_shortest 41 = .ok (.iaload, 1) := by decide +kernel
theorem dX12_shortest_42 : decode cX12_shortest 42 = .ok (.bipush 99, 2) := by decide +kernel
theorem dX12_shortest_44 : decode cX12_shortest 44 = .ok (.if_icmp .le 8, 3) := by decide +kernel
theorem dX12_shortest_47 : decode cX12_shortest 47 = .ok (.bipush 99, 2) := by decide +kernel
theorem dX12_shortest_49 : decode cX12_shortest 49 = .ok (.goto 9, 3) := by decide +kernel
theorem dX12_shortest_52 : decode cX12_shortest 52 = .ok (.aload_n 0, 1) := by decide +kernel
theorem dX12_shortest_53 : decode cX12_shortest 53 = .ok (.getfield 58, 3) := by decide +kernel
theorem dX12_shortest_56 : decode cX12_shortest 56 = .ok (.iload_n 1, 1) := by decide +kernel
theorem dX12_shortest_57 : decode cX12_shortest 57 = .ok (.iaload, 1) := by decide +kernel
theorem dX12_shortest_58 : decode cX12_shortest 58 = .ok (.ireturn, 1) := by decide +kernel
theorem dX12_sentence_0 : decode cX12_sentence 0 = .ok (.aload_n 0, 1) := by decide +kernel
theorem dX12_sentence_1 : decode cX12_sentence 1 = .ok (.invokevirtual 216, 3) := by decide +kernel
theorem dX12_sentence_4 : decode cX12_sentence 4 = .ok (.iload_n 1, 1) := by decide +kernel
theorem dX12_sentence_5 : decode cX12_sentence 5 = .ok (.bipush 16, 2) := by decide +kernel
theorem dX12_sentence_7 : decode cX12_sentence 7 = .ok (.invokestatic 172, 3) := by decide +kernel
theorem dX12_sentence_10 : decode cX12_sentence 10 = .ok (.ifCond .eq 11, 3) := by decide +kernel
theorem dX12_sentence_13 : decode cX12_sentence 13 = .ok (.iload_n 2, 1) := by decide +kernel
theorem dX12_sentence_14 : decode cX12_sentence 14 = .ok (.ifCond .lt 7, 3) := by decide +kernel
theorem dX12_sentence_17 : decode cX12_sentence 17 = .ok (.iconst 1, 1) := by decide +kernel
theorem dX12_sentence_18 : decode cX12_sentence 18 = .ok (.goto 4, 3) := by decide +kernel
theorem dX12_sentence_21 : decode cX12_sentence 21 = .ok (.iconst 0, 1) := by decide +kernel
theorem dX12_sentence_22 : decode cX12_sentence 22 = .ok (.istore_n 3, 1) := by decide +kernel
theorem dX12_sentence_23 : decode cX12_sentence 23 = .ok (.aload_n 0, 1) := by decide +kernel
theorem dX12_sentence_24 : decode cX12_sentence 24 = .ok (.iload_n 3, 1) := by decide +kernel
theorem dX12_sentence_25 : decode cX12_sentence 25 = .ok (.iload_n 3, 1) := by decide +kernel
theorem dX12_sentence_26 : decode cX12_sentence 26 = .ok (.ifCond .eq 28, 3) := by decide +kernel
theorem dX12_sentence_29 : decode cX12_sentence 29 = .ok (.aload_n 0, 1) := by decide +kernel
theorem dX12_sentence_30 : decode cX12_sentence 30 = .ok (.getfield 58, 3) := by decide +kernel
theorem dX12_sentence_33 : decode cX12_sentence 33 = .ok (.iload_n 1, 1) := by decide +kernel
theorem dX12_sentence_34 : decode cX12_sentence 34 = .ok (.iaload, 1) := by decide +kernel
theorem dX12_sentence_35 : decode cX12_sentence 35 = .ok (.bipush 20, 2) := by decide +kernel
theorem dX12_sentence_37 : decode cX12_sentence 37 = .ok (.if_icmp .gt 17, 3) := by decide +kernel
theorem dX12_sentence_40 : decode cX12_sentence 40 = .ok (.iload_n 2, 1) := by decide +kernel
theorem dX12_sentence_41 : decode cX12_sentence 41 = .ok (.aload_n 0, 1) := by decide +kernel
theorem dX12_sentence_42 : decode cX12_sentence 42 = .ok (.getfield 58, 3) := by decide +kernel
theorem dX12_sentence_45 : decode cX12_sentence 45 = .ok (.iload_n 1, 1) := by decide +kernel
theorem dX12_sentence_46 : decode cX12_sentence 46 = .ok (.iaload, 1) := by decide +kernel
theorem dX12_sentence_47 : decode cX12_sentence 47 = .ok (.if_icmp .ge 7, 3) := by decide +kernel
theorem dX12_sentence_50 : decode cX12_sentence 50 = .ok (.iconst 1, 1) := by decide +kernel
theorem dX12_sentence_51 : decode cX12_sentence 51 = .ok (.goto 4, 3) := by decide +kernel
theorem dX12_sentence_54 : decode cX12_sentence 54 = .ok (.iconst 0, 1) := by decide +kernel
theorem dX12_sentence_55 : decode cX12_sentence 55 = .ok (.iconst 1, 1) := by decide +kernel
theorem dX12_sentence_56 : decode cX12_sentence 56 = .ok (.invokevirtual 131, 3) := by decide +kernel
theorem dX12_sentence_59 : decode cX12_sentence 59 = .ok (.ifCond .ne 5, 3) := by decide +kernel
theorem dX12_sentence_62 : decode cX12_sentence 62 = .ok (.iconst 0, 1) := by decide +kernel
theorem dX12_sentence_63 : decode cX12_sentence 63 = .ok (.ireturn, 1) := by decide +kernel
theorem dX12_sentence_64 : decode cX12_sentence 64 = .ok (.aload_n 0, 1) := by decide +kernel
theorem dX12_sentence_65 : decode cX12_sentence 65 = .ok (.getfield 61, 3) := by decide +kernel
theorem dX12_sentence_68 : decode cX12_sentence 68 = .ok (.iload_n 1, 1) := by decide +kernel
theorem dX12_sentence_69 : decode cX12_sentence 69 = .ok (.laload, 1) := by decide +kernel
theorem dX12_sentence_70 : decode cX12_sentence 70 = .ok (.iconst 3, 1) := by decide +kernel
theorem dX12_sentence_71 : decode cX12_sentence 71 = .ok (.aload_n 0, 1) := by decide +kernel
theorem dX12_sentence_72 : decode cX12_sentence 72 = .ok (.getfield 58, 3) := by decide +kernel
theorem dX12_sentence_75 : decode cX12_sentence 75 = .ok (.iload_n 1, 1) := by decide +kernel
theorem dX12_sentence_76 : decode cX12_sentence 76 = .ok (.iaload, 1) := by decide +kernel
theorem dX12_sentence_77 : decode cX12_sentence 77 = .ok (.iconst 1, 1) := by decide +kernel
theorem dX12_sentence_78 : decode cX12_sentence 78 = .ok (.isub, 1) := by decide +kernel
theorem dX12_sentence_79 : decode cX12_sentence 79 = .ok (.iload_n 2, 1) := by decide +kernel
theorem dX12_sentence_80 : decode cX12_sentence 80 = .ok (.isub, 1) := by decide +kernel
theorem dX12_sentence_81 : decode cX12_sentence 81 = .ok (.imul, 1) := by decide +kernel
theorem dX12_sentence_82 : decode cX12_sentence 82 = .ok (.lshr, 1) := by decide +kernel
theorem dX12_sentence_83 : decode cX12_sentence 83 = .ok (.ldc2_w 219, 3) := by decide +kernel
theorem dX12_sentence_86 : decode cX12_sentence 86 = .ok (.land, 1) := by decide +kernel
theorem dX12_sentence_87 : decode cX12_sentence 87 = .ok (.l2i, 1) := by decide +kernel
theorem dX12_sentence_88 : decode cX12_sentence 88 = .ok (.ireturn, 1) := by decide +kernel
theorem dX12_numbers_0 : decode cX12_numbers 0 = .ok (.aload_n 0, 1) := by decide +kernel
theorem dX12_numbers_1 : decode cX12_numbers 1 = .ok (.iconst 0, 1) := by decide +kernel
theorem dX12_numbers_2 : decode cX12_numbers 2 = .ok (.putfield 221, 3) := by decide +kernel
theorem dX12_numbers_5 : decode cX12_numbers 5 = .ok (.iconst 0, 1) := by decide +kernel
theorem dX12_numbers_6 : decode cX12_numbers 6 = .ok (.istore_n 1, 1) := by decide +kernel
theorem dX12_numbers_7 : decode cX12_numbers 7 = .ok (.iload_n 1, 1) := by decide +kernel
theorem dX12_numbers_8 : decode cX12_numbers 8 = .ok (.aload_n 0, 1) := by decide +kernel
theorem dX12_numbers_9 : decode cX12_numbers 9 = .ok (.getfield 19, 3) := by decide +kernel
theorem dX12_numbers_12 : decode cX12_numbers 12 = .ok (.aload_n 0, 1) := by decide +kernel
theorem dX12_numbers_13 : decode cX12_numbers 13 = .ok (.getfield 139, 3) := by decide +kernel
theorem dX12_numbers_16 : decode cX12_numbers 16 = .ok (.iaload, 1) := by decide +kernel
theorem dX12_numbers_17 : decode cX12_numbers 17 = .ok (.if_icmp .ge 35, 3) := by decide +kernel
theorem dX12_numbers_20 : decode cX12_numbers 20 = .ok (.aload_n 0, 1) := by decide +kernel
theorem dX12_numbers_21 : decode cX12_numbers 21 = .ok (.getfield 68, 3) := by decide +kernel
theorem dX12_numbers_24 : decode cX12_numbers 24 = .ok (.iload_n 1, 1) := by decide +kernel
theorem dX12_numbers_25 : decode cX12_numbers 25 = .ok (.aload_n 0, 1) := by decide +kernel
theorem dX12_numbers_26 : decode cX12_numbers 26 = .ok (.getfield 221, 3) := by decide +kernel
theorem dX12_numbers_29 : decode cX12_numbers 29 = .ok (.iastore, 1) := by decide +kernel
theorem dX12_numbers_30 : decode cX12_numbers 30 = .ok (.aload_n 0, 1) := by decide +kernel
theorem dX12_numbers_31 : decode cX12_numbers 31 = .ok (.dup, 1) := by decide +kernel
theorem dX12_numbers_32 : decode cX12_numbers 32 = .ok (.getfield 221, 3) := by decide +kernel
theorem dX12_numbers_35 : decode cX12_numbers 35 = .ok (.aload_n 0, 1) := by decide +kernel
theorem dX12_numbers_36 : decode cX12_numbers 36 = .ok (.iload_n 1, 1) := by decide +kernel
theorem dX12_numbers_37 : decode cX12_numbers 37 = .ok (.invokevirtual 186, 3) := by decide +kernel
theorem dX12_numbers_40 : decode cX12_numbers 40 = .ok (.iconst 1, 1) := by decide +kernel
theorem dX12_numbers_41 : decode cX12_numbers 41 = .ok (.iadd, 1) := by decide +kernel
theorem dX12_numbers_42 : decode cX12_numbers 42 = .ok (.iadd, 1) := by decide +kernel
theorem dX12_numbers_43 : decode cX12_numbers 43 = .ok (.putfield 221, 3) := by decide +kernel
theorem dX12_numbers_46 : decode cX12_numbers 46 = .ok (.iinc 1 1, 3) := by decide +kernel
theorem dX12_numbers_49 : decode cX12_numbers 49 = .ok (.goto (-42), 3) := by decide +kernel
theorem dX12_numbers_52 : decode cX12_numbers 52 = .ok (.aload_n 0, 1) := by decide +kernel
theorem dX12_numbers_53 : decode cX12_numbers 53 = .ok (.getfield 68, 3) := by decide +kernel
theorem dX12_numbers_56 : decode cX12_numbers 56 = .ok (.bipush 24, 2) := by decide +kernel
theorem dX12_numbers_58 : decode cX12_numbers 58 = .ok (.aload_n 0, 1) := by decide +kernel
theorem dX12_numbers_59 : decode cX12_numbers 59 = .ok (.getfield 221, 3) := by decide +kernel
theorem dX12_numbers_62 : decode cX12_numbers 62 = .ok (.iastore, 1) := by decide +kernel
theorem dX12_numbers_63 : decode cX12_numbers 63 = .ok (.aload_n 0, 1) := by decide +kernel
theorem dX12_numbers_64 : decode cX12_numbers 64 = .ok (.dup, 1) := by decide +kernel
theorem dX12_numbers_65 : decode cX12_numbers 65 = .ok (.getfield 221, 3) := by decide +kernel
theorem dX12_numbers_68 : decode cX12_numbers 68 = .ok (.iconst 2, 1) := by decide +kernel
theorem dX12_numbers_69 : decode cX12_numbers 69 = .ok (.iadd, 1) := by decide +kernel
theorem dX12_numbers_70 : decode cX12_numbers 70 = .ok (.putfield 221, 3) := by decide +kernel
theorem dX12_numbers_73 : decode cX12_numbers 73 = .ok (.return_, 1) := by decide +kernel
theorem dX12_index_0 : decode cX12_index 0 = .ok (.iload_n 0, 1) := by decide +kernel
theorem dX12_index_1 : decode cX12_index 1 = .ok (.bipush 16, 2) := by decide +kernel
theorem dX12_index_3 : decode cX12_index 3 = .ok (.if_icmp .ge 7, 3) := by decide +kernel
theorem dX12_index_6 : decode cX12_index 6 = .ok (.iload_n 0, 1) := by decide +kernel
theorem dX12_index_7 : decode cX12_index 7 = .ok (.goto 10, 3) := by decide +kernel
theorem dX12_index_10 : decode cX12_index 10 = .ok (.bipush 8, 2) := by decide +kernel
theorem dX12_index_12 : decode cX12_index 12 = .ok (.iload_n 0, 1) := by decide +kernel
theorem dX12_index_13 : decode cX12_index 13 = .ok (.iadd, 1) := by decide +kernel
theorem dX12_index_14 : decode cX12_index 14 = .ok (.bipush 16, 2) := by decide +kernel
theorem dX12_index_16 : decode cX12_index 16 = .ok (.isub, 1) := by decide +kernel
theorem dX12_index_17 : decode cX12_index 17 = .ok (.ireturn, 1) := by decide +kernel
theorem dX12_opens_0 : decode cX12_opens 0 = .ok (.aload_n 1, 1) := by decide +kernel
theorem dX12_opens_1 : decode cX12_opens 1 = .ok (.iload_n 2, 1) := by decide +kernel
theorem dX12_opens_2 : decode cX12_opens 2 = .ok (.aload_n 0, 1) := by decide +kernel
theorem dX12_opens_3 : decode cX12_opens 3 = .ok (.getfield 68, 3) := by decide +kernel
theorem dX12_opens_6 : decode cX12_opens 6 = .ok (.iload_n 3, 1) := by decide +kernel
theorem dX12_opens_7 : decode cX12_opens 7 = .ok (.iaload, 1) := by decide +kernel
theorem dX12_opens_8 : decode cX12_opens 8 = .ok (.iadd, 1) := by decide +kernel
theorem dX12_opens_9 : decode cX12_opens 9 = .ok (.iload 4, 2) := by decide +kernel
theorem dX12_opens_11 : decode cX12_opens 11 = .ok (.iadd, 1) := by decide +kernel
theorem dX12_opens_12 : decode cX12_opens 12 = .ok (.iaload, 1) := by decide +kernel
theorem dX12_opens_13 : decode cX12_opens 13 = .ok (.istore 5, 2) := by decide +kernel
theorem dX12_opens_15 : decode cX12_opens 15 = .ok (.aload_n 0, 1) := by decide +kernel
theorem dX12_opens_16 : decode cX12_opens 16 = .ok (.iload_n 3, 1) := by decide +kernel
theorem dX12_opens_17 : decode cX12_opens 17 = .ok (.iload 4, 2) := by decide +kernel
theorem dX12_opens_19 : decode cX12_opens 19 = .ok (.invokevirtual 182, 3) := by decide +kernel
theorem dX12_opens_22 : decode cX12_opens 22 = .ok (.istore 6, 2) := by decide +kernel
theorem dX12_opens_24 : decode cX12_opens 24 = .ok (.iload 5, 2) := by decide +kernel
theorem dX12_opens_26 : decode cX12_opens 26 = .ok (.sipush 512, 3) := by decide +kernel
theorem dX12_opens_29 : decode cX12_opens 29 = .ok (.iand, 1) := by decide +kernel
theorem dX12_opens_30 : decode cX12_opens 30 = .ok (.ifCond .eq 10, 3) := by decide +kernel
theorem dX12_opens_33 : decode cX12_opens 33 = .ok (.iload 6, 2) := by decide +kernel
theorem dX12_opens_35 : decode cX12_opens 35 = .ok (.bipush 16, 2) := by decide +kernel
theorem dX12_opens_37 : decode cX12_opens 37 = .ok (.if_icmp .ge 5, 3) := by decide +kernel
theorem dX12_opens_40 : decode cX12_opens 40 = .ok (.iconst 0, 1) := by decide +kernel
theorem dX12_opens_41 : decode cX12_opens 41 = .ok (.ireturn, 1) := by decide +kernel
theorem dX12_opens_42 : decode cX12_opens 42 = .ok (.sipush 512, 3) := by decide +kernel
theorem dX12_opens_45 : decode cX12_opens 45 = .ok (.aload_n 0, 1) := by decide +kernel
theorem dX12_opens_46 : decode cX12_opens 46 = .ok (.iload_n 3, 1) := by decide +kernel
theorem dX12_opens_47 : decode cX12_opens 47 = .ok (.iload 4, 2) := by decide +kernel
theorem dX12_opens_49 : decode cX12_opens 49 = .ok (.iconst 1, 1) := by decide +kernel
theorem dX12_opens_50 : decode cX12_opens 50 = .ok (.iadd, 1) := by decide +kernel
theorem dX12_opens_51 : decode cX12_opens 51 = .ok (.invokevirtual 196, 3) := by decide +kernel
theorem dX12_opens_54 : decode cX12_opens 54 = .ok (.ior, 1) := by decide +kernel
theorem dX12_opens_55 : decode cX12_opens 55 = .ok (.aload_n 0, 1) := by decide +kernel
theorem dX12_opens_56 : decode cX12_opens 56 = .ok (.iload_n 3, 1) := by decide +kernel
theorem dX12_opens_57 : decode cX12_opens 57 = .ok (.iload 4, 2) := by decide +kernel
theorem dX12_opens_59 : decode cX12_opens 59 = .ok (.iconst 1, 1) := by decide +kernel
theorem dX12_opens_60 : decode cX12_opens 60 = .ok (.iadd, 1) := by decide +kernel
theorem dX12_opens_61 : decode cX12_opens 61 = .ok (.invokevirtual 199, 3) := by decide +kernel
theorem dX12_opens_64 : decode cX12_opens 64 = .ok (.ifCond .eq 12, 3) := by decide +kernel
theorem dX12_opens_67 : decode cX12_opens 67 = .ok (.iload 5, 2) := by decide +kernel
theorem dX12_opens_69 : decode cX12_opens 69 = .ok (.sipush 511, 3) := by decide +kernel
theorem dX12_opens_72 : decode cX12_opens 72 = .ok (.iand, 1) := by decide +kernel
theorem dX12_opens_73 : decode cX12_opens 73 = .ok (.goto 4, 3) := by decide +kernel
theorem dX12_opens_76 : decode cX12_opens 76 = .ok (.iconst 0, 1) := by decide +kernel
theorem dX12_opens_77 : decode cX12_opens 77 = .ok (.ior, 1) := by decide +kernel
theorem dX12_opens_78 : decode cX12_opens 78 = .ok (.istore 7, 2) := by decide +kernel
theorem dX12_opens_80 : decode cX12_opens 80 = .ok (.iconst 0, 1) := by decide +kernel
theorem dX12_opens_81 : decode cX12_opens 81 = .ok (.istore 8, 2) := by decide +kernel
theorem dX12_opens_83 : decode cX12_opens 83 = .ok (.iconst 0, 1) := by decide +kernel
theorem dX12_opens_84 : decode cX12_opens 84 = .ok (.istore 9, 2) := by decide +kernel
theorem dX12_opens_86 : decode cX12_opens 86 = .ok (.iload 9, 2) := by decide +kernel
theorem dX12_opens_88 : decode cX12_opens 88 = .ok (.aload_n 0, 1) := by decide +kernel
theorem dX12_opens_89 : decode cX12_opens 89 = .ok (.getfield 19, 3) := by decide +kernel
theorem dX12_opens_92 : decode cX12_opens 92 = .ok (.aload_n 0, 1) := by decide +kernel
theorem dX12_opens_93 : decode cX12_opens 93 = .ok (.getfield 139, 3) := by decide +kernel
theorem dX12_opens_96 : decode cX12_opens 96 = .ok (.iaload, 1) := by decide +kernel
theorem dX12_opens_97 : decode cX12_opens 97 = .ok (.if_icmp .ge 87, 3) := by decide +kernel
theorem dX12_opens_100 : decode cX12_opens 100 = .ok (.iload_n 2, 1) := by decide +kernel
theorem dX12_opens_101 : decode cX12_opens 101 = .ok (.aload_n 0, 1) := by decide +kernel
theorem dX12_opens_102 : decode cX12_opens 102 = .ok (.getfield 68, 3) := by decide +kernel
theorem dX12_opens_105 : decode cX12_opens 105 = .ok (.iload 9, 2) := by decide +kernel
theorem dX12_opens_107 : decode cX12_opens 107 = .ok (.iaload, 1) := by decide +kernel
theorem dX12_opens_108 : decode cX12_opens 108 = .ok (.iadd, 1) := by decide +kernel
theorem dX12_opens_109 : decode cX12_opens 109 = .ok (.istore 10, 2) := by decide +kernel
theorem dX12_opens_111 : decode cX12_opens 111 = .ok (.iload 8, 2) := by decide +kernel
theorem dX12_opens_113 : decode cX12_opens 113 = .ok (.ifCond .ne 31, 3) := by decide +kernel
theorem dX12_opens_116 : decode cX12_opens 116 = .ok (.aload_n 0, 1) := by decide +kernel
theorem dX12_opens_117 : decode cX12_opens 117 = .ok (.iload 9, 2) := by decide +kernel
theorem dX12_opens_119 : decode cX12_opens 119 = .ok (.invokevirtual 193, 3) := by decide +kernel
theorem dX12_opens_122 : decode cX12_opens 122 = .ok (.iload 6, 2) := by decide +kernel
theorem dX12_opens_124 : decode cX12_opens 124 = .ok (.bipush 16, 2) := by decide +kernel
theorem dX12_opens_126 : decode cX12_opens 126 = .ok (.isub, 1) := by decide +kernel
theorem dX12_opens_127 : decode cX12_opens 127 = .ok (.if_icmp .ne 21, 3) := by decide +kernel
theorem dX12_opens_130 : decode cX12_opens 130 = .ok (.aload_n 1, 1) := by decide +kernel
theorem dX12_opens_131 : decode cX12_opens 131 = .ok (.iload 10, 2) := by decide +kernel
theorem dX12_opens_133 : decode cX12_opens 133 = .ok (.iaload, 1) := by decide +kernel
theorem dX12_opens_134 : decode cX12_opens 134 = .ok (.iload 7, 2) := by decide +kernel
theorem dX12_opens_136 : decode cX12_opens 136 = .ok (.ior, 1) := by decide +kernel
theorem dX12_opens_137 : decode cX12_opens 137 = .ok (.aload_n 1, 1) := by decide +kernel
theorem dX12_opens_138 : decode cX12_opens 138 = .ok (.iload 10, 2) := by decide +kernel
theorem dX12_opens_140 : decode cX12_opens 140 = .ok (.iaload, 1) := by decide +kernel
theorem dX12_opens_141 : decode cX12_opens 141 = .ok (.if_icmp .eq 7, 3) := by decide +kernel
theorem dX12_opens_144 : decode cX12_opens 144 = .ok (.iconst 1, 1) := by decide +kernel
theorem dX12_opens_145 : decode cX12_opens 145 = .ok (.goto 4, 3) := by decide +kernel
theorem dX12_opens_148 : decode cX12_opens 148 = .ok (.iconst 0, 1) := by decide +kernel
theorem dX12_opens_149 : decode cX12_opens 149 = .ok (.istore 8, 2) := by decide +kernel
theorem dX12_opens_151 : decode cX12_opens 151 = .ok (.aload_n 1, 1) := by decide +kernel
theorem dX12_opens_152 : decode cX12_opens 152 = .ok (.iload 10, 2) := by decide +kernel
theorem dX12_opens_154 : decode cX12_opens 154 = .ok (.dup2, 1) := by decide +kernel
theorem dX12_opens_155 : decode cX12_opens 155 = .ok (.iaload, 1) := by decide +kernel
theorem dX12_opens_156 : decode cX12_opens 156 = .ok (.aload_n 0, 1) := by decide +kernel
theorem dX12_opens_157 : decode cX12_opens 157 = .ok (.iload 9, 2) := by decide +kernel
theorem dX12_opens_159 : decode cX12_opens 159 = .ok (.invokevirtual 193, 3) := by decide +kernel
theorem dX12_opens_162 : decode cX12_opens 162 = .ok (.iload 6, 2) := by decide +kernel
theorem dX12_opens_164 : decode cX12_opens 164 = .ok (.bipush 16, 2) := by decide +kernel
theorem dX12_opens_166 : decode cX12_opens 166 = .ok (.isub, 1) := by decide +kernel
theorem dX12_opens_167 : decode cX12_opens 167 = .ok (.if_icmp .ne 8, 3) := by decide +kernel
theorem dX12_opens_170 : decode cX12_opens 170 = .ok (.iload 7, 2) := by decide +kernel
theorem dX12_opens_172 : decode cX12_opens 172 = .ok (.goto 4, 3) := by decide +kernel
theorem dX12_opens_175 : decode cX12_opens 175 = .ok (.iconst 0, 1) := by decide +kernel
theorem dX12_opens_176 : decode cX12_opens 176 = .ok (.ior, 1) := by decide +kernel
theorem dX12_opens_177 : decode cX12_opens 177 = .ok (.iastore, 1) := by decide +kernel
theorem dX12_opens_178 : decode cX12_opens 178 = .ok (.iinc 9 1, 3) := by decide +kernel
theorem dX12_opens_181 : decode cX12_opens 181 = .ok (.goto (-95), 3) := by decide +kernel
theorem dX12_opens_184 : decode cX12_opens 184 = .ok (.iload 8, 2) := by decide +kernel
theorem dX12_opens_186 : decode cX12_opens 186 = .ok (.ireturn, 1) := by decide +kernel
theorem dX12_opensAll_0 : decode cX12_opensAll 0 = .ok (.iconst 0, 1) := by decide +kernel
