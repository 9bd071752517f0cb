theorem dL_parses_122 : decode cL_parses 122 = .ok (.goto 4, 3) := by decide +kernel
theorem dL_parses_125 : decode cL_parses 125 = .ok (.iconst 0, 1) := by decide +kernel
theorem dL_parses_126 : decode cL_parses 126 = .ok (.if_icmp .ne 25, 3) := by decide +kernel
theorem dL_parses_129 : decode cL_parses 129 = .ok (.iload 8, 2) := by decide +kernel
theorem dL_parses_131 : decode cL_parses 131 = .ok (.sipush 1009, 3) := by decide +kernel
theorem dL_parses_134 : decode cL_parses 134 = .ok (.if_icmp .ge 17, 3) := by decide +kernel
theorem dL_parses_137 : decode cL_parses 137 = .ok (.iload 7, 2) := by decide +kernel
theorem dL_parses_139 : decode cL_parses 139 = .ok (.iconst (-1), 1) := by decide +kernel
theorem dL_parses_140 : decode cL_parses 140 = .ok (.if_icmp .ne 7, 3) := by decide +kernel
theorem dL_parses_143 : decode cL_parses 143 = .ok (.iload_n 2, 1) := by decide +kernel
theorem dL_parses_144 : decode cL_parses 144 = .ok (.ifCond .le 7, 3) := by decide +kernel
theorem dL_parses_147 : decode cL_parses 147 = .ok (.iconst 1, 1) := by decide +kernel
theorem dL_parses_148 : decode cL_parses 148 = .ok (.goto 4, 3) := by decide +kernel
theorem dL_parses_151 : decode cL_parses 151 = .ok (.iconst 0, 1) := by decide +kernel
theorem dL_parses_152 : decode cL_parses 152 = .ok (.istore 4, 2) := by decide +kernel
theorem dL_parses_154 : decode cL_parses 154 = .ok (.iload 4, 2) := by decide +kernel
theorem dL_parses_156 : decode cL_parses 156 = .ok (.ifCond .eq 30, 3) := by decide +kernel
theorem dL_parses_159 : decode cL_parses 159 = .ok (.iload 7, 2) := by decide +kernel
theorem dL_parses_161 : decode cL_parses 161 = .ok (.iconst (-1), 1) := by decide +kernel
theorem dL_parses_162 : decode cL_parses 162 = .ok (.if_icmp .ne 20, 3) := by decide +kernel
theorem dL_parses_165 : decode cL_parses 165 = .ok (.iload_n 2, 1) := by decide +kernel
theorem dL_parses_166 : decode cL_parses 166 = .ok (.iconst 1, 1) := by decide +kernel
theorem dL_parses_167 : decode cL_parses 167 = .ok (.if_icmp .ne 15, 3) := by decide +kernel
theorem dL_parses_170 : decode cL_parses 170 = .ok (.iload 5, 2) := by decide +kernel
theorem dL_parses_172 : decode cL_parses 172 = .ok (.ifCond .lt 10, 3) := by decide +kernel
theorem dL_parses_175 : decode cL_parses 175 = .ok (.iload 5, 2) := by decide +kernel
theorem dL_parses_177 : decode cL_parses 177 = .ok (.iload 8, 2) := by decide +kernel
theorem dL_parses_179 : decode cL_parses 179 = .ok (.if_icmp .ne 7, 3) := by decide +kernel
theorem dL_parses_182 : decode cL_parses 182 = .ok (.iconst 1, 1) := by decide +kernel
theorem dL_parses_183 : decode cL_parses 183 = .ok (.goto 4, 3) := by decide +kernel
theorem dL_parses_186 : decode cL_parses 186 = .ok (.iconst 0, 1) := by decide +kernel
theorem dL_parses_187 : decode cL_parses 187 = .ok (.istore 4, 2) := by decide +kernel
theorem dL_parses_189 : decode cL_parses 189 = .ok (.iload 7, 2) := by decide +kernel
theorem dL_parses_191 : decode cL_parses 191 = .ok (.iconst (-1), 1) := by decide +kernel
theorem dL_parses_192 : decode cL_parses 192 = .ok (.if_icmp .ne 13, 3) := by decide +kernel
theorem dL_parses_195 : decode cL_parses 195 = .ok (.iload_n 2, 1) := by decide +kernel
theorem dL_parses_196 : decode cL_parses 196 = .ok (.iconst 1, 1) := by decide +kernel
theorem dL_parses_197 : decode cL_parses 197 = .ok (.if_icmp .ne 8, 3) := by decide +kernel
theorem dL_parses_200 : decode cL_parses 200 = .ok (.iload 8, 2) := by decide +kernel
theorem dL_parses_202 : decode cL_parses 202 = .ok (.goto 5, 3) := by decide +kernel
theorem dL_parses_205 : decode cL_parses 205 = .ok (.iload 5, 2) := by decide +kernel
theorem dL_parses_207 : decode cL_parses 207 = .ok (.istore 5, 2) := by decide +kernel
theorem dL_parses_209 : decode cL_parses 209 = .ok (.iinc 6 1, 3) := by decide +kernel
theorem dL_parses_212 : decode cL_parses 212 = .ok (.goto (-147), 3) := by decide +kernel
theorem dL_parses_215 : decode cL_parses 215 = .ok (.iload 4, 2) := by decide +kernel
theorem dL_parses_217 : decode cL_parses 217 = .ok (.ireturn, 1) := by decide +kernel
theorem dL_names_0 : decode cL_names 0 = .ok (.iconst 1, 1) := by decide +kernel
theorem dL_names_1 : decode cL_names 1 = .ok (.istore_n 1, 1) := by decide +kernel
theorem dL_names_2 : decode cL_names 2 = .ok (.iconst 0, 1) := by decide +kernel
theorem dL_names_3 : decode cL_names 3 = .ok (.istore_n 2, 1) := by decide +kernel
theorem dL_names_4 : decode cL_names 4 = .ok (.iload_n 2, 1) := by decide +kernel
theorem dL_names_5 : decode cL_names 5 = .ok (.bipush 16, 2) := by decide +kernel
theorem dL_names_7 : decode cL_names 7 = .ok (.if_icmp .ge 155, 3) := by decide +kernel
theorem dL_names_10 : decode cL_names 10 = .ok (.iload_n 1, 1) := by decide +kernel
theorem dL_names_11 : decode cL_names 11 = .ok (.ifCond .eq 151, 3) := by decide +kernel
theorem dL_names_14 : decode cL_names 14 = .ok (.aload_n 0, 1) := by decide +kernel
theorem dL_names_15 : decode cL_names 15 = .ok (.iload_n 2, 1) := by decide +kernel
theorem dL_names_16 : decode cL_names 16 = .ok (.invokestatic 126, 3) := by decide +kernel
theorem dL_names_19 : decode cL_names 19 = .ok (.istore_n 3, 1) := by decide +kernel
theorem dL_names_20 : decode cL_names 20 = .ok (.aload_n 0, 1) := by decide +kernel
theorem dL_names_21 : decode cL_names 21 = .ok (.iload_n 2, 1) := by decide +kernel
theorem dL_names_22 : decode cL_names 22 = .ok (.invokestatic 128, 3) := by decide +kernel
theorem dL_names_25 : decode cL_names 25 = .ok (.istore 4, 2) := by decide +kernel
theorem dL_names_27 : decode cL_names 27 = .ok (.iload_n 3, 1) := by decide +kernel
theorem dL_names_28 : decode cL_names 28 = .ok (.ifCond .ne 7, 3) := by decide +kernel
theorem dL_names_31 : decode cL_names 31 = .ok (.iconst 1, 1) := by decide +kernel
theorem dL_names_32 : decode cL_names 32 = .ok (.goto 4, 3) := by decide +kernel
theorem dL_names_35 : decode cL_names 35 = .ok (.iconst 0, 1) := by decide +kernel
theorem dL_names_36 : decode cL_names 36 = .ok (.aload_n 0, 1) := by decide +kernel
theorem dL_names_37 : decode cL_names 37 = .ok (.iload_n 2, 1) := by decide +kernel
theorem dL_names_38 : decode cL_names 38 = .ok (.invokestatic 130, 3) := by decide +kernel
theorem dL_names_41 : decode cL_names 41 = .ok (.iconst 1, 1) := by decide +kernel
theorem dL_names_42 : decode cL_names 42 = .ok (.if_icmp .ne 7, 3) := by decide +kernel
theorem dL_names_45 : decode cL_names 45 = .ok (.iconst 1, 1) := by decide +kernel
theorem dL_names_46 : decode cL_names 46 = .ok (.goto 4, 3) := by decide +kernel
theorem dL_names_49 : decode cL_names 49 = .ok (.iconst 0, 1) := by decide +kernel
theorem dL_names_50 : decode cL_names 50 = .ok (.if_icmp .ne 44, 3) := by decide +kernel
theorem dL_names_53 : decode cL_names 53 = .ok (.iload_n 3, 1) := by decide +kernel
theorem dL_names_54 : decode cL_names 54 = .ok (.ifCond .lt 7, 3) := by decide +kernel
theorem dL_names_57 : decode cL_names 57 = .ok (.iconst 1, 1) := by decide +kernel
theorem dL_names_58 : decode cL_names 58 = .ok (.goto 4, 3) := by decide +kernel
theorem dL_names_61 : decode cL_names 61 = .ok (.iconst 0, 1) := by decide +kernel
theorem dL_names_62 : decode cL_names 62 = .ok (.iload 4, 2) := by decide +kernel
theorem dL_names_64 : decode cL_names 64 = .ok (.iconst 2, 1) := by decide +kernel
theorem dL_names_65 : decode cL_names 65 = .ok (.irem, 1) := by decide +kernel
theorem dL_names_66 : decode cL_names 66 = .ok (.iconst 1, 1) := by decide +kernel
theorem dL_names_67 : decode cL_names 67 = .ok (.if_icmp .ne 7, 3) := by decide +kernel
theorem dL_names_70 : decode cL_names 70 = .ok (.iconst 1, 1) := by decide +kernel
theorem dL_names_71 : decode cL_names 71 = .ok (.goto 4, 3) := by decide +kernel
theorem dL_names_74 : decode cL_names 74 = .ok (.iconst 0, 1) := by decide +kernel
theorem dL_names_75 : decode cL_names 75 = .ok (.if_icmp .ne 19, 3) := by decide +kernel
theorem dL_names_78 : decode cL_names 78 = .ok (.iload_n 3, 1) := by decide +kernel
theorem dL_names_79 : decode cL_names 79 = .ok (.bipush 99, 2) := by decide +kernel
theorem dL_names_81 : decode cL_names 81 = .ok (.if_icmp .gt 13, 3) := by decide +kernel
theorem dL_names_84 : decode cL_names 84 = .ok (.iload 4, 2) := by decide +kernel
theorem dL_names_86 : decode cL_names 86 = .ok (.iconst 4, 1) := by decide +kernel
theorem dL_names_87 : decode cL_names 87 = .ok (.if_icmp .ge 7, 3) := by decide +kernel
theorem dL_names_90 : decode cL_names 90 = .ok (.iconst 1, 1) := by decide +kernel
theorem dL_names_91 : decode cL_names 91 = .ok (.goto 4, 3) := by decide +kernel
theorem dL_names_94 : decode cL_names 94 = .ok (.iconst 0, 1) := by decide +kernel
theorem dL_names_95 : decode cL_names 95 = .ok (.istore_n 1, 1) := by decide +kernel
theorem dL_names_96 : decode cL_names 96 = .ok (.iload_n 1, 1) := by decide +kernel
theorem dL_names_97 : decode cL_names 97 = .ok (.ifCond .eq 59, 3) := by decide +kernel
theorem dL_names_100 : decode cL_names 100 = .ok (.iload_n 3, 1) := by decide +kernel
theorem dL_names_101 : decode cL_names 101 = .ok (.ifCond .le 55, 3) := by decide +kernel
theorem dL_names_104 : decode cL_names 104 = .ok (.iload_n 3, 1) := by decide +kernel
theorem dL_names_105 : decode cL_names 105 = .ok (.bipush 20, 2) := by decide +kernel
theorem dL_names_107 : decode cL_names 107 = .ok (.if_icmp .gt 49, 3) := by decide +kernel
theorem dL_names_110 : decode cL_names 110 = .ok (.aload_n 0, 1) := by decide +kernel
theorem dL_names_111 : decode cL_names 111 = .ok (.iload_n 2, 1) := by decide +kernel
theorem dL_names_112 : decode cL_names 112 = .ok (.invokestatic 133, 3) := by decide +kernel
theorem dL_names_115 : decode cL_names 115 = .ok (.aload_n 0, 1) := by decide +kernel
theorem dL_names_116 : decode cL_names 116 = .ok (.iload_n 2, 1) := by decide +kernel
theorem dL_names_117 : decode cL_names 117 = .ok (.iconst 0, 1) := by decide +kernel
theorem dL_names_118 : decode cL_names 118 = .ok (.invokestatic 135, 3) := by decide +kernel
theorem dL_names_121 : decode cL_names 121 = .ok (.ishr, 1) := by decide +kernel
theorem dL_names_122 : decode cL_names 122 = .ok (.iconst 1, 1) := by decide +kernel
theorem dL_names_123 : decode cL_names 123 = .ok (.iand, 1) := by decide +kernel
theorem dL_names_124 : decode cL_names 124 = .ok (.iconst 1, 1) := by decide +kernel
theorem dL_names_125 : decode cL_names 125 = .ok (.if_icmp .ne 29, 3) := by decide +kernel
theorem dL_names_128 : decode cL_names 128 = .ok (.aload_n 0, 1) := by decide +kernel
theorem dL_names_129 : decode cL_names 129 = .ok (.iload_n 2, 1) := by decide +kernel
theorem dL_names_130 : decode cL_names 130 = .ok (.iload_n 3, 1) := by decide +kernel
theorem dL_names_131 : decode cL_names 131 = .ok (.invokestatic 135, 3) := by decide +kernel
theorem dL_names_134 : decode cL_names 134 = .ok (.bipush (-103), 2) := by decide +kernel
theorem dL_names_136 : decode cL_names 136 = .ok (.if_icmp .ne 18, 3) := by decide +kernel
theorem dL_names_139 : decode cL_names 139 = .ok (.aload_n 0, 1) := by decide +kernel
theorem dL_names_140 : decode cL_names 140 = .ok (.iload_n 2, 1) := by decide +kernel
theorem dL_names_141 : decode cL_names 141 = .ok (.iload_n 3, 1) := by decide +kernel
theorem dL_names_142 : decode cL_names 142 = .ok (.iconst 1, 1) := by decide +kernel
theorem dL_names_143 : decode cL_names 143 = .ok (.isub, 1) := by decide +kernel
theorem dL_names_144 : decode cL_names 144 = .ok (.invokestatic 135, 3) := by decide +kernel
theorem dL_names_147 : decode cL_names 147 = .ok (.ifCond .lt 7, 3) := by decide +kernel
theorem dL_names_150 : decode cL_names 150 = .ok (.iconst 1, 1) := by decide +kernel
theorem dL_names_151 : decode cL_names 151 = .ok (.goto 4, 3) := by decide +kernel
theorem dL_names_154 : decode cL_names 154 = .ok (.iconst 0, 1) := by decide +kernel
theorem dL_names_155 : decode cL_names 155 = .ok (.istore_n 1, 1) := by decide +kernel
theorem dL_names_156 : decode cL_names 156 = .ok (.iinc 2 1, 3) := by decide +kernel
theorem dL_names_159 : decode cL_names 159 = .ok (.goto (-155), 3) := by decide +kernel
theorem dL_names_162 : decode cL_names 162 = .ok (.iload_n 1, 1) := by decide +kernel
theorem dL_names_163 : decode cL_names 163 = .ok (.ifCond .eq 15, 3) := by decide +kernel
theorem dL_names_166 : decode cL_names 166 = .ok (.aload_n 0, 1) := by decide +kernel
theorem dL_names_167 : decode cL_names 167 = .ok (.iconst 0, 1) := by decide +kernel
theorem dL_names_168 : decode cL_names 168 = .ok (.invokestatic 138, 3) := by decide +kernel
theorem dL_names_171 : decode cL_names 171 = .ok (.ifCond .lt 7, 3) := by decide +kernel
theorem dL_names_174 : decode cL_names 174 = .ok (.iconst 1, 1) := by decide +kernel
theorem dL_names_175 : decode cL_names 175 = .ok (.goto 4, 3) := by decide +kernel
theorem dL_names_178 : decode cL_names 178 = .ok (.iconst 0, 1) := by decide +kernel
theorem dL_names_179 : decode cL_names 179 = .ok (.ireturn, 1) := by decide +kernel
theorem dL_law_0 : decode cL_law 0 = .ok (.new 10, 3) := by decide +kernel
theorem dL_law_3 : decode cL_law 3 = .ok (.dup, 1) := by decide +kernel
theorem dL_law_4 : decode cL_law 4 = .ok (.invokespecial 140, 3) := by decide +kernel
theorem dL_law_7 : decode cL_law 7 = .ok (.astore_n 1, 1) := by decide +kernel
theorem dL_law_8 : decode cL_law 8 = .ok (.bipush 24, 2) := by decide +kernel
theorem dL_law_10 : decode cL_law 10 = .ok (.newarray .int, 2) := by decide +kernel
theorem dL_law_12 : decode cL_law 12 = .ok (.astore_n 2, 1) := by decide +kernel
theorem dL_law_13 : decode cL_law 13 = .ok (.iconst 0, 1) := by decide +kernel
theorem dL_law_14 : decode cL_law 14 = .ok (.istore_n 3, 1) := by decide +kernel
theorem dL_law_15 : decode cL_law 15 = .ok (.iconst 0, 1) := by decide +kernel
theorem dL_law_16 : decode cL_law 16 = .ok (.istore 4, 2) := by decide +kernel
theorem dL_law_18 : decode cL_law 18 = .ok (.iconst 1, 1) := by decide +kernel
theorem dL_law_19 : decode cL_law 19 = .ok (.istore 5, 2) := by decide +kernel
theorem dL_law_21 : decode cL_law 21 = .ok (.iconst 0, 1) := by decide +kernel
theorem dL_law_22 : decode cL_law 22 = .ok (.istore 6, 2) := by decide +kernel
theorem dL_law_24 : decode cL_law 24 = .ok (.iload 6, 2) := by decide +kernel
theorem dL_law_26 : decode cL_law 26 = .ok (.bipush 26, 2) := by decide +kernel
theorem dL_law_28 : decode cL_law 28 = .ok (.if_icmp .ge 880, 3) := by decide +kernel
theorem dL_law_31 : decode cL_law 31 = .ok (.iload 5, 2) := by decide +kernel
theorem dL_law_33 : decode cL_law 33 = .ok (.ifCond .eq 875, 3) := by decide +kernel
theorem dL_law_36 : decode cL_law 36 = .ok (.aload_n 0, 1) := by decide +kernel
theorem dL_law_37 : decode cL_law 37 = .ok (.iload 6, 2) := by decide +kernel
theorem dL_law_39 : decode cL_law 39 = .ok (.invokestatic 100, 3) := by decide +kernel
theorem dL_law_42 : decode cL_law 42 = .ok (.istore 7, 2) := by decide +kernel
theorem dL_law_44 : decode cL_law 44 = .ok (.iload 7, 2) := by decide +kernel
theorem dL_law_46 : decode cL_law 46 = .ok (.bipush 16, 2) := by decide +kernel
theorem dL_law_48 : decode cL_law 48 = .ok (.idiv, 1) := by decide +kernel
theorem dL_law_49 : decode cL_law 49 = .ok (.istore 8, 2) := by decide +kernel
theorem dL_law_51 : decode cL_law 51 = .ok (.iload 6, 2) := by decide +kernel
theorem dL_law_53 : decode cL_law 53 = .ok (.iconst 4, 1) := by decide +kernel
theorem dL_law_54 : decode cL_law 54 = .ok (.if_icmp .ge 7, 3) := by decide +kernel
theorem dL_law_57 : decode cL_law 57 = .ok (.iconst 0, 1) := by decide +kernel
theorem dL_law_58 : decode cL_law 58 = .ok (.goto 8, 3) := by decide +kernel
theorem dL_law_61 : decode cL_law 61 = .ok (.iload 7, 2) := by decide +kernel
theorem dL_law_63 : decode cL_law 63 = .ok (.bipush 16, 2) := by decide +kernel
theorem dL_law_65 : decode cL_law 65 = .ok (.irem, 1) := by decide +kernel
theorem dL_law_66 : decode cL_law 66 = .ok (.istore 9, 2) := by decide +kernel
theorem dL_law_68 : decode cL_law 68 = .ok (.iload 9, 2) := by decide +kernel
theorem dL_law_70 : decode cL_law 70 = .ok (.iconst 4, 1) := by decide +kernel
theorem dL_law_71 : decode cL_law 71 = .ok (.if_icmp .ge 246, 3) := by decide +kernel
theorem dL_law_74 : decode cL_law 74 = .ok (.aload_n 0, 1) := by decide +kernel
theorem dL_law_75 : decode cL_law 75 = .ok (.aload_n 2, 1) := by decide +kernel
theorem dL_law_76 : decode cL_law 76 = .ok (.iload 6, 2) := by decide +kernel
theorem dL_law_78 : decode cL_law 78 = .ok (.iload 8, 2) := by decide +kernel
theorem dL_law_80 : decode cL_law 80 = .ok (.invokestatic 141, 3) := by decide +kernel
theorem dL_law_83 : decode cL_law 83 = .ok (.istore 10, 2) := by decide +kernel
theorem dL_law_85 : decode cL_law 85 = .ok (.aload_n 1, 1) := by decide +kernel
theorem dL_law_86 : decode cL_law 86 = .ok (.aload_n 2, 1) := by decide +kernel
theorem dL_law_87 : decode cL_law 87 = .ok (.iload 10, 2) := by decide +kernel
theorem dL_law_89 : decode cL_law 89 = .ok (.invokestatic 145, 3) := by decide +kernel
theorem dL_law_92 : decode cL_law 92 = .ok (.istore 5, 2) := by decide +kernel
theorem dL_law_94 : decode cL_law 94 = .ok (.aload_n 1, 1) := by decide +kernel
theorem dL_law_95 : decode cL_law 95 = .ok (.invokevirtual 149, 3) := by decide +kernel
theorem dL_law_98 : decode cL_law 98 = .ok (.istore 11, 2) := by decide +kernel
theorem dL_law_100 : decode cL_law 100 = .ok (.iload 5, 2) := by decide +kernel
theorem dL_law_102 : decode cL_law 102 = .ok (.ifCond .eq 85, 3) := by decide +kernel
theorem dL_law_105 : decode cL_law 105 = .ok (.iload 11, 2) := by decide +kernel
theorem dL_law_107 : decode cL_law 107 = .ok (.ifCond .lt 80, 3) := by decide +kernel
theorem dL_law_110 : decode cL_law 110 = .ok (.aload_n 1, 1) := by decide +kernel
theorem dL_law_111 : decode cL_law 111 = .ok (.invokestatic 152, 3) := by decide +kernel
theorem dL_law_114 : decode cL_law 114 = .ok (.bipush (-102), 2) := by decide +kernel
theorem dL_law_116 : decode cL_law 116 = .ok (.if_icmp .ne 65, 3) := by decide +kernel
theorem dL_law_119 : decode cL_law 119 = .ok (.aload_n 1, 1) := by decide +kernel
theorem dL_law_120 : decode cL_law 120 = .ok (.aload_n 2, 1) := by decide +kernel
theorem dL_law_121 : decode cL_law 121 = .ok (.iload 11, 2) := by decide +kernel
theorem dL_law_123 : decode cL_law 123 = .ok (.invokestatic 145, 3) := by decide +kernel
theorem dL_law_126 : decode cL_law 126 = .ok (.ifCond .eq 55, 3) := by decide +kernel
theorem dL_law_129 : decode cL_law 129 = .ok (.aload_n 1, 1) := by decide +kernel
theorem dL_law_130 : decode cL_law 130 = .ok (.invokevirtual 149, 3) := by decide +kernel
theorem dL_law_133 : decode cL_law 133 = .ok (.iconst (-1), 1) := by decide +kernel
theorem dL_law_134 : decode cL_law 134 = .ok (.if_icmp .eq 12, 3) := by decide +kernel
theorem dL_law_137 : decode cL_law 137 = .ok (.aload_n 1, 1) := by decide +kernel
theorem dL_law_138 : decode cL_law 138 = .ok (.invokevirtual 149, 3) := by decide +kernel
theorem dL_law_141 : decode cL_law 141 = .ok (.iload 11, 2) := by decide +kernel
theorem dL_law_143 : decode cL_law 143 = .ok (.if_icmp .ne 38, 3) := by decide +kernel
theorem dL_law_146 : decode cL_law 146 = .ok (.iload 11, 2) := by decide +kernel
theorem dL_law_148 : decode cL_law 148 = .ok (.iload 10, 2) := by decide +kernel
theorem dL_law_150 : decode cL_law 150 = .ok (.if_icmp .eq 27, 3) := by decide +kernel
theorem dL_law_153 : decode cL_law 153 = .ok (.aload_n 1, 1) := by decide +kernel
theorem dL_law_154 : decode cL_law 154 = .ok (.aload_n 2, 1) := by decide +kernel
theorem dL_law_155 : decode cL_law 155 = .ok (.iload 11, 2) := by decide +kernel
theorem dL_law_157 : decode cL_law 157 = .ok (.iaload, 1) := by decide +kernel
theorem dL_law_158 : decode cL_law 158 = .ok (.invokestatic 95, 3) := by decide +kernel
theorem dL_law_161 : decode cL_law 161 = .ok (.iload 11, 2) := by decide +kernel
theorem dL_law_163 : decode cL_law 163 = .ok (.iconst 1, 1) := by decide +kernel
theorem dL_law_164 : decode cL_law 164 = .ok (.iadd, 1) := by decide +kernel
theorem dL_law_165 : decode cL_law 165 = .ok (.if_icmp .ne 16, 3) := by decide +kernel
theorem dL_law_168 : decode cL_law 168 = .ok (.aload_n 1, 1) := by decide +kernel
theorem dL_law_169 : decode cL_law 169 = .ok (.invokevirtual 149, 3) := by decide +kernel
theorem dL_law_172 : decode cL_law 172 = .ok (.iload 11, 2) := by decide +kernel
theorem dL_law_174 : decode cL_law 174 = .ok (.if_icmp .ne 7, 3) := by decide +kernel
theorem dL_law_177 : decode cL_law 177 = .ok (.iconst 1, 1) := by decide +kernel
theorem dL_law_178 : decode cL_law 178 = .ok (.goto 4, 3) := by decide +kernel
theorem dL_law_181 : decode cL_law 181 = .ok (.iconst 0, 1) := by decide +kernel
theorem dL_law_182 : decode cL_law 182 = .ok (.istore 5, 2) := by decide +kernel
theorem dL_law_184 : decode cL_law 184 = .ok (.goto 130, 3) := by decide +kernel
theorem dL_law_187 : decode cL_law 187 = .ok (.iload 5, 2) := by decide +kernel
theorem dL_law_189 : decode cL_law 189 = .ok (.ifCond .eq 125, 3) := by decide +kernel
theorem dL_law_192 : decode cL_law 192 = .ok (.aload_n 1, 1) := by decide +kernel
theorem dL_law_193 : decode cL_law 193 = .ok (.invokevirtual 155, 3) := by decide +kernel
theorem dL_law_196 : decode cL_law 196 = .ok (.istore 12, 2) := by decide +kernel
theorem dL_law_198 : decode cL_law 198 = .ok (.aload_n 1, 1) := by decide +kernel
theorem dL_law_199 : decode cL_law 199 = .ok (.invokestatic 152, 3) := by decide +kernel
theorem dL_law_202 : decode cL_law 202 = .ok (.istore 13, 2) := by decide +kernel
theorem dL_law_204 : decode cL_law 204 = .ok (.iload 13, 2) := by decide +kernel
theorem dL_law_206 : decode cL_law 206 = .ok (.bipush (-103), 2) := by decide +kernel
theorem dL_law_208 : decode cL_law 208 = .ok (.if_icmp .ne 20, 3) := by decide +kernel
theorem dL_law_211 : decode cL_law 211 = .ok (.aload_n 1, 1) := by decide +kernel
theorem dL_law_212 : decode cL_law 212 = .ok (.invokevirtual 155, 3) := by decide +kernel
theorem dL_law_215 : decode cL_law 215 = .ok (.iload 12, 2) := by decide +kernel
theorem dL_law_217 : decode cL_law 217 = .ok (.if_icmp .ne 7, 3) := by decide +kernel
theorem dL_law_220 : decode cL_law 220 = .ok (.iconst 1, 1) := by decide +kernel
theorem dL_law_221 : decode cL_law 221 = .ok (.goto 56, 3) := by decide +kernel
theorem dL_law_224 : decode cL_law 224 = .ok (.iconst 0, 1) := by decide +kernel
theorem dL_law_225 : decode cL_law 225 = .ok (.goto 52, 3) := by decide +kernel
theorem dL_law_228 : decode cL_law 228 = .ok (.iload 13, 2) := by decide +kernel
theorem dL_law_230 : decode cL_law 230 = .ok (.iload 12, 2) := by decide +kernel
theorem dL_law_232 : decode cL_law 232 = .ok (.if_icmp .le 44, 3) := by decide +kernel
theorem dL_law_235 : decode cL_law 235 = .ok (.aload_n 1, 1) := by decide +kernel
theorem dL_law_236 : decode cL_law 236 = .ok (.invokevirtual 155, 3) := by decide +kernel
theorem dL_law_239 : decode cL_law 239 = .ok (.iload 13, 2) := by decide +kernel
theorem dL_law_241 : decode cL_law 241 = .ok (.if_icmp .ne 35, 3) := by decide +kernel
theorem dL_law_244 : decode cL_law 244 = .ok (.aload_n 1, 1) := by decide +kernel
theorem dL_law_245 : decode cL_law 245 = .ok (.iload 13, 2) := by decide +kernel
theorem dL_law_247 : decode cL_law 247 = .ok (.iconst 1, 1) := by decide +kernel
theorem dL_law_248 : decode cL_law 248 = .ok (.isub, 1) := by decide +kernel
theorem dL_law_249 : decode cL_law 249 = .ok (.invokestatic 158, 3) := by decide +kernel
theorem dL_law_252 : decode cL_law 252 = .ok (.aload_n 2, 1) := by decide +kernel
theorem dL_law_253 : decode cL_law 253 = .ok (.iconst 0, 1) := by decide +kernel
theorem dL_law_254 : decode cL_law 254 = .ok (.iaload, 1) := by decide +kernel
theorem dL_law_255 : decode cL_law 255 = .ok (.bipush 65, 2) := by decide +kernel
theorem dL_law_257 : decode cL_law 257 = .ok (.isub, 1) := by decide +kernel
theorem dL_law_258 : decode cL_law 258 = .ok (.if_icmp .ne 18, 3) := by decide +kernel
theorem dL_law_261 : decode cL_law 261 = .ok (.aload_n 1, 1) := by decide +kernel
theorem dL_law_262 : decode cL_law 262 = .ok (.iload 13, 2) := by decide +kernel
theorem dL_law_264 : decode cL_law 264 = .ok (.invokestatic 158, 3) := by decide +kernel
theorem dL_law_267 : decode cL_law 267 = .ok (.bipush (-101), 2) := by decide +kernel
theorem dL_law_269 : decode cL_law 269 = .ok (.if_icmp .ne 7, 3) := by decide +kernel
theorem dL_law_272 : decode cL_law 272 = .ok (.iconst 1, 1) := by decide +kernel
theorem dL_law_273 : decode cL_law 273 = .ok (.goto 4, 3) := by decide +kernel
theorem dL_law_276 : decode cL_law 276 = .ok (.iconst 0, 1) := by decide +kernel
theorem dL_law_277 : decode cL_law 277 = .ok (.istore 5, 2) := by decide +kernel
theorem dL_law_279 : decode cL_law 279 = .ok (.iload 5, 2) := by decide +kernel
theorem dL_law_281 : decode cL_law 281 = .ok (.ifCond .eq 30, 3) := by decide +kernel
theorem dL_law_284 : decode cL_law 284 = .ok (.iload 13, 2) := by decide +kernel
theorem dL_law_286 : decode cL_law 286 = .ok (.ifCond .lt 21, 3) := by decide +kernel
theorem dL_law_289 : decode cL_law 289 = .ok (.aload_n 1, 1) := by decide +kernel
theorem dL_law_290 : decode cL_law 290 = .ok (.invokestatic 160, 3) := by decide +kernel
theorem dL_law_293 : decode cL_law 293 = .ok (.iload 12, 2) := by decide +kernel
theorem dL_law_295 : decode cL_law 295 = .ok (.if_icmp .ne 16, 3) := by decide +kernel
theorem dL_law_298 : decode cL_law 298 = .ok (.aload_n 1, 1) := by decide +kernel
theorem dL_law_299 : decode cL_law 299 = .ok (.invokestatic 152, 3) := by decide +kernel
theorem dL_law_302 : decode cL_law 302 = .ok (.iload 13, 2) := by decide +kernel
theorem dL_law_304 : decode cL_law 304 = .ok (.if_icmp .ne 7, 3) := by decide +kernel
theorem dL_law_307 : decode cL_law 307 = .ok (.iconst 1, 1) := by decide +kernel
theorem dL_law_308 : decode cL_law 308 = .ok (.goto 4, 3) := by decide +kernel
theorem dL_law_311 : decode cL_law 311 = .ok (.iconst 0, 1) := by decide +kernel
theorem dL_law_312 : decode cL_law 312 = .ok (.istore 5, 2) := by decide +kernel
theorem dL_law_314 : decode cL_law 314 = .ok (.goto 535, 3) := by decide +kernel
theorem dL_law_317 : decode cL_law 317 = .ok (.iload 9, 2) := by decide +kernel
theorem dL_law_319 : decode cL_law 319 = .ok (.iconst 4, 1) := by decide +kernel
theorem dL_law_320 : decode cL_law 320 = .ok (.if_icmp .ne 66, 3) := by decide +kernel
theorem dL_law_323 : decode cL_law 323 = .ok (.aload_n 1, 1) := by decide +kernel
theorem dL_law_324 : decode cL_law 324 = .ok (.invokevirtual 155, 3) := by decide +kernel
theorem dL_law_327 : decode cL_law 327 = .ok (.istore 10, 2) := by decide +kernel
theorem dL_law_329 : decode cL_law 329 = .ok (.aload_n 1, 1) := by decide +kernel
theorem dL_law_330 : decode cL_law 330 = .ok (.invokestatic 160, 3) := by decide +kernel
theorem dL_law_333 : decode cL_law 333 = .ok (.istore 11, 2) := by decide +kernel
theorem dL_law_335 : decode cL_law 335 = .ok (.iload 10, 2) := by decide +kernel
theorem dL_law_337 : decode cL_law 337 = .ok (.ifCond .ne 18, 3) := by decide +kernel
theorem dL_law_340 : decode cL_law 340 = .ok (.iload 11, 2) := by decide +kernel
theorem dL_law_342 : decode cL_law 342 = .ok (.bipush (-103), 2) := by decide +kernel
theorem dL_law_344 : decode cL_law 344 = .ok (.if_icmp .ne 7, 3) := by decide +kernel
theorem dL_law_347 : decode cL_law 347 = .ok (.iconst 1, 1) := by decide +kernel
theorem dL_law_348 : decode cL_law 348 = .ok (.goto 33, 3) := by decide +kernel
theorem dL_law_351 : decode cL_law 351 = .ok (.iconst 0, 1) := by decide +kernel
theorem dL_law_352 : decode cL_law 352 = .ok (.goto 29, 3) := by decide +kernel
theorem dL_law_355 : decode cL_law 355 = .ok (.iload 11, 2) := by decide +kernel
theorem dL_law_357 : decode cL_law 357 = .ok (.ifCond .lt 23, 3) := by decide +kernel
theorem dL_law_360 : decode cL_law 360 = .ok (.iload 11, 2) := by decide +kernel
theorem dL_law_362 : decode cL_law 362 = .ok (.iload 10, 2) := by decide +kernel
theorem dL_law_364 : decode cL_law 364 = .ok (.if_icmp .ge 16, 3) := by decide +kernel
theorem dL_law_367 : decode cL_law 367 = .ok (.aload_n 1, 1) := by decide +kernel
theorem dL_law_368 : decode cL_law 368 = .ok (.invokevirtual 155, 3) := by decide +kernel
theorem dL_law_371 : decode cL_law 371 = .ok (.iload 11, 2) := by decide +kernel
theorem dL_law_373 : decode cL_law 373 = .ok (.if_icmp .ne 7, 3) := by decide +kernel
theorem dL_law_376 : decode cL_law 376 = .ok (.iconst 1, 1) := by decide +kernel
theorem dL_law_377 : decode cL_law 377 = .ok (.goto 4, 3) := by decide +kernel
theorem dL_law_380 : decode cL_law 380 = .ok (.iconst 0, 1) := by decide +kernel
theorem dL_law_381 : decode cL_law 381 = .ok (.istore 5, 2) := by decide +kernel
theorem dL_law_383 : decode cL_law 383 = .ok (.goto 466, 3) := by decide +kernel
theorem dL_law_386 : decode cL_law 386 = .ok (.iload 9, 2) := by decide +kernel
theorem dL_law_388 : decode cL_law 388 = .ok (.iconst 5, 1) := by decide +kernel
theorem dL_law_389 : decode cL_law 389 = .ok (.if_icmp .ne 30, 3) := by decide +kernel
theorem dL_law_392 : decode cL_law 392 = .ok (.aload_n 1, 1) := by decide +kernel
theorem dL_law_393 : decode cL_law 393 = .ok (.iload 8, 2) := by decide +kernel
theorem dL_law_395 : decode cL_law 395 = .ok (.iconst 2, 1) := by decide +kernel
theorem dL_law_396 : decode cL_law 396 = .ok (.irem, 1) := by decide +kernel
theorem dL_law_397 : decode cL_law 397 = .ok (.invokestatic 162, 3) := by decide +kernel
theorem dL_law_400 : decode cL_law 400 = .ok (.iload_n 3, 1) := by decide +kernel
theorem dL_law_401 : decode cL_law 401 = .ok (.if_icmp .ne 7, 3) := by decide +kernel
theorem dL_law_404 : decode cL_law 404 = .ok (.iconst 1, 1) := by decide +kernel
theorem dL_law_405 : decode cL_law 405 = .ok (.goto 4, 3) := by decide +kernel
theorem dL_law_408 : decode cL_law 408 = .ok (.iconst 0, 1) := by decide +kernel
theorem dL_law_409 : decode cL_law 409 = .ok (.istore 5, 2) := by decide +kernel
theorem dL_law_411 : decode cL_law 411 = .ok (.iload 8, 2) := by decide +kernel
theorem dL_law_413 : decode cL_law 413 = .ok (.iconst 2, 1) := by decide +kernel
theorem dL_law_414 : decode cL_law 414 = .ok (.irem, 1) := by decide +kernel
theorem dL_law_415 : decode cL_law 415 = .ok (.istore_n 3, 1) := by decide +kernel
theorem dL_law_416 : decode cL_law 416 = .ok (.goto 433, 3) := by decide +kernel
theorem dL_law_419 : decode cL_law 419 = .ok (.iload 9, 2) := by decide +kernel
theorem dL_law_421 : decode cL_law 421 = .ok (.bipush 6, 2) := by decide +kernel
theorem dL_law_423 : decode cL_law 423 = .ok (.if_icmp .ne 80, 3) := by decide +kernel
theorem dL_law_426 : decode cL_law 426 = .ok (.iload 8, 2) := by decide +kernel
theorem dL_law_428 : decode cL_law 428 = .ok (.iconst 2, 1) := by decide +kernel
theorem dL_law_429 : decode cL_law 429 = .ok (.irem, 1) := by decide +kernel
theorem dL_law_430 : decode cL_law 430 = .ok (.ifCond .ne 73, 3) := by decide +kernel
theorem dL_law_433 : decode cL_law 433 = .ok (.aload_n 1, 1) := by decide +kernel
theorem dL_law_434 : decode cL_law 434 = .ok (.invokevirtual 155, 3) := by decide +kernel
theorem dL_law_437 : decode cL_law 437 = .ok (.istore 10, 2) := by decide +kernel
theorem dL_law_439 : decode cL_law 439 = .ok (.aload_n 1, 1) := by decide +kernel
theorem dL_law_440 : decode cL_law 440 = .ok (.iload 8, 2) := by decide +kernel
theorem dL_law_442 : decode cL_law 442 = .ok (.iconst 2, 1) := by decide +kernel
theorem dL_law_443 : decode cL_law 443 = .ok (.idiv, 1) := by decide +kernel
theorem dL_law_444 : decode cL_law 444 = .ok (.bipush 8, 2) := by decide +kernel
theorem dL_law_446 : decode cL_law 446 = .ok (.irem, 1) := by decide +kernel
theorem dL_law_447 : decode cL_law 447 = .ok (.invokestatic 164, 3) := by decide +kernel
theorem dL_law_450 : decode cL_law 450 = .ok (.istore 11, 2) := by decide +kernel
theorem dL_law_452 : decode cL_law 452 = .ok (.iload 11, 2) := by decide +kernel
theorem dL_law_454 : decode cL_law 454 = .ok (.bipush (-103), 2) := by decide +kernel
theorem dL_law_456 : decode cL_law 456 = .ok (.if_icmp .ne 20, 3) := by decide +kernel
theorem dL_law_459 : decode cL_law 459 = .ok (.aload_n 1, 1) := by decide +kernel
theorem dL_law_460 : decode cL_law 460 = .ok (.invokevirtual 155, 3) := by decide +kernel
theorem dL_law_463 : decode cL_law 463 = .ok (.iload 10, 2) := by decide +kernel
theorem dL_law_465 : decode cL_law 465 = .ok (.if_icmp .ne 7, 3) := by decide +kernel
theorem dL_law_468 : decode cL_law 468 = .ok (.iconst 1, 1) := by decide +kernel
theorem dL_law_469 : decode cL_law 469 = .ok (.goto 29, 3) := by decide +kernel
theorem dL_law_472 : decode cL_law 472 = .ok (.iconst 0, 1) := by decide +kernel
theorem dL_law_473 : decode cL_law 473 = .ok (.goto 25, 3) := by decide +kernel
theorem dL_law_476 : decode cL_law 476 = .ok (.iload 11, 2) := by decide +kernel
theorem dL_law_478 : decode cL_law 478 = .ok (.ifCond .lt 19, 3) := by decide +kernel
theorem dL_law_481 : decode cL_law 481 = .ok (.aload_n 1, 1) := by decide +kernel
theorem dL_law_482 : decode cL_law 482 = .ok (.invokevirtual 155, 3) := by decide +kernel
theorem dL_law_485 : decode cL_law 485 = .ok (.iload 10, 2) := by decide +kernel
theorem dL_law_487 : decode cL_law 487 = .ok (.iload 11, 2) := by decide +kernel
theorem dL_law_489 : decode cL_law 489 = .ok (.iadd, 1) := by decide +kernel
theorem dL_law_490 : decode cL_law 490 = .ok (.if_icmp .lt 7, 3) := by decide +kernel
theorem dL_law_493 : decode cL_law 493 = .ok (.iconst 1, 1) := by decide +kernel
theorem dL_law_494 : decode cL_law 494 = .ok (.goto 4, 3) := by decide +kernel
theorem dL_law_497 : decode cL_law 497 = .ok (.iconst 0, 1) := by decide +kernel
theorem dL_law_498 : decode cL_law 498 = .ok (.istore 5, 2) := by decide +kernel
theorem dL_law_500 : decode cL_law 500 = .ok (.goto 349, 3) := by decide +kernel
theorem dL_law_503 : decode cL_law 503 = .ok (.iload 9, 2) := by decide +kernel
theorem dL_law_505 : decode cL_law 505 = .ok (.bipush 7, 2) := by decide +kernel
theorem dL_law_507 : decode cL_law 507 = .ok (.if_icmp .ne 39, 3) := by decide +kernel
theorem dL_law_510 : decode cL_law 510 = .ok (.aload_n 1, 1) := by decide +kernel
theorem dL_law_511 : decode cL_law 511 = .ok (.iload 8, 2) := by decide +kernel
theorem dL_law_513 : decode cL_law 513 = .ok (.iconst 3, 1) := by decide +kernel
theorem dL_law_514 : decode cL_law 514 = .ok (.irem, 1) := by decide +kernel
theorem dL_law_515 : decode cL_law 515 = .ok (.invokestatic 166, 3) := by decide +kernel
theorem dL_law_518 : decode cL_law 518 = .ok (.ifCond .lt 22, 3) := by decide +kernel
theorem dL_law_521 : decode cL_law 521 = .ok (.aload_n 1, 1) := by decide +kernel
theorem dL_law_522 : decode cL_law 522 = .ok (.iload 8, 2) := by decide +kernel
theorem dL_law_524 : decode cL_law 524 = .ok (.iconst 3, 1) := by decide +kernel
theorem dL_law_525 : decode cL_law 525 = .ok (.irem, 1) := by decide +kernel
theorem dL_law_526 : decode cL_law 526 = .ok (.invokestatic 166, 3) := by decide +kernel
theorem dL_law_529 : decode cL_law 529 = .ok (.iload 8, 2) := by decide +kernel
theorem dL_law_531 : decode cL_law 531 = .ok (.iconst 3, 1) := by decide +kernel
theorem dL_law_532 : decode cL_law 532 = .ok (.irem, 1) := by decide +kernel
theorem dL_law_533 : decode cL_law 533 = .ok (.if_icmp .ne 7, 3) := by decide +kernel
theorem dL_law_536 : decode cL_law 536 = .ok (.iconst 1, 1) := by decide +kernel
theorem dL_law_537 : decode cL_law 537 = .ok (.goto 4, 3) := by decide +kernel
theorem dL_law_540 : decode cL_law 540 = .ok (.iconst 0, 1) := by decide +kernel
theorem dL_law_541 : decode cL_law 541 = .ok (.istore 5, 2) := by decide +kernel
theorem dL_law_543 : decode cL_law 543 = .ok (.goto 306, 3) := by decide +kernel
theorem dL_law_546 : decode cL_law 546 = .ok (.iload 9, 2) := by decide +kernel
theorem dL_law_548 : decode cL_law 548 = .ok (.bipush 8, 2) := by decide +kernel
theorem dL_law_550 : decode cL_law 550 = .ok (.if_icmp .ne 70, 3) := by decide +kernel
theorem dL_law_553 : decode cL_law 553 = .ok (.aload_n 1, 1) := by decide +kernel
theorem dL_law_554 : decode cL_law 554 = .ok (.iload 8, 2) := by decide +kernel
theorem dL_law_556 : decode cL_law 556 = .ok (.iconst 3, 1) := by decide +kernel
theorem dL_law_557 : decode cL_law 557 = .ok (.irem, 1) := by decide +kernel
theorem dL_law_558 : decode cL_law 558 = .ok (.iload 8, 2) := by decide +kernel
theorem dL_law_560 : decode cL_law 560 = .ok (.iconst 3, 1) := by decide +kernel
theorem dL_law_561 : decode cL_law 561 = .ok (.idiv, 1) := by decide +kernel
theorem dL_law_562 : decode cL_law 562 = .ok (.bipush 6, 2) := by decide +kernel
theorem dL_law_564 : decode cL_law 564 = .ok (.irem, 1) := by decide +kernel
theorem dL_law_565 : decode cL_law 565 = .ok (.iload 8, 2) := by decide +kernel
theorem dL_law_567 : decode cL_law 567 = .ok (.bipush 18, 2) := by decide +kernel
theorem dL_law_569 : decode cL_law 569 = .ok (.idiv, 1) := by decide +kernel
theorem dL_law_570 : decode cL_law 570 = .ok (.iconst 3, 1) := by decide +kernel
theorem dL_law_571 : decode cL_law 571 = .ok (.irem, 1) := by decide +kernel
theorem dL_law_572 : decode cL_law 572 = .ok (.invokestatic 168, 3) := by decide +kernel
theorem dL_law_575 : decode cL_law 575 = .ok (.ifCond .lt 39, 3) := by decide +kernel
theorem dL_law_578 : decode cL_law 578 = .ok (.aload_n 1, 1) := by decide +kernel
theorem dL_law_579 : decode cL_law 579 = .ok (.iload 8, 2) := by decide +kernel
theorem dL_law_581 : decode cL_law 581 = .ok (.iconst 3, 1) := by decide +kernel
theorem dL_law_582 : decode cL_law 582 = .ok (.irem, 1) := by decide +kernel
theorem dL_law_583 : decode cL_law 583 = .ok (.iload 8, 2) := by decide +kernel
theorem dL_law_585 : decode cL_law 585 = .ok (.iconst 3, 1) := by decide +kernel
theorem dL_law_586 : decode cL_law 586 = .ok (.idiv, 1) := by decide +kernel
theorem dL_law_587 : decode cL_law 587 = .ok (.bipush 6, 2) := by decide +kernel
theorem dL_law_589 : decode cL_law 589 = .ok (.irem, 1) := by decide +kernel
theorem dL_law_590 : decode cL_law 590 = .ok (.iload 8, 2) := by decide +kernel
theorem dL_law_592 : decode cL_law 592 = .ok (.bipush 18, 2) := by decide +kernel
theorem dL_law_594 : decode cL_law 594 = .ok (.idiv, 1) := by decide +kernel
theorem dL_law_595 : decode cL_law 595 = .ok (.iconst 3, 1) := by decide +kernel
theorem dL_law_596 : decode cL_law 596 = .ok (.irem, 1) := by decide +kernel
theorem dL_law_597 : decode cL_law 597 = .ok (.invokestatic 168, 3) := by decide +kernel
theorem dL_law_600 : decode cL_law 600 = .ok (.iload 8, 2) := by decide +kernel
theorem dL_law_602 : decode cL_law 602 = .ok (.iconst 3, 1) := by decide +kernel
theorem dL_law_603 : decode cL_law 603 = .ok (.idiv, 1) := by decide +kernel
theorem dL_law_604 : decode cL_law 604 = .ok (.bipush 6, 2) := by decide +kernel
theorem dL_law_606 : decode cL_law 606 = .ok (.irem, 1) := by decide +kernel
theorem dL_law_607 : decode cL_law 607 = .ok (.if_icmp .ne 7, 3) := by decide +kernel
theorem dL_law_610 : decode cL_law 610 = .ok (.iconst 1, 1) := by decide +kernel
theorem dL_law_611 : decode cL_law 611 = .ok (.goto 4, 3) := by decide +kernel
theorem dL_law_614 : decode cL_law 614 = .ok (.iconst 0, 1) := by decide +kernel
theorem dL_law_615 : decode cL_law 615 = .ok (.istore 5, 2) := by decide +kernel
theorem dL_law_617 : decode cL_law 617 = .ok (.goto 232, 3) := by decide +kernel
theorem dL_law_620 : decode cL_law 620 = .ok (.iload 9, 2) := by decide +kernel
theorem dL_law_622 : decode cL_law 622 = .ok (.bipush 13, 2) := by decide +kernel
theorem dL_law_624 : decode cL_law 624 = .ok (.if_icmp .ge 123, 3) := by decide +kernel
theorem dL_law_627 : decode cL_law 627 = .ok (.iload 4, 2) := by decide +kernel
theorem dL_law_629 : decode cL_law 629 = .ok (.bipush 7, 2) := by decide +kernel
theorem dL_law_631 : decode cL_law 631 = .ok (.if_icmp .ge 116, 3) := by decide +kernel
theorem dL_law_634 : decode cL_law 634 = .ok (.aload_n 1, 1) := by decide +kernel
theorem dL_law_635 : decode cL_law 635 = .ok (.invokevirtual 119, 3) := by decide +kernel
theorem dL_law_638 : decode cL_law 638 = .ok (.istore 10, 2) := by decide +kernel
theorem dL_law_640 : decode cL_law 640 = .ok (.iload 8, 2) := by decide +kernel
theorem dL_law_642 : decode cL_law 642 = .ok (.iload 4, 2) := by decide +kernel
theorem dL_law_644 : decode cL_law 644 = .ok (.iconst 1, 1) := by decide +kernel
theorem dL_law_645 : decode cL_law 645 = .ok (.iadd, 1) := by decide +kernel
theorem dL_law_646 : decode cL_law 646 = .ok (.irem, 1) := by decide +kernel
theorem dL_law_647 : decode cL_law 647 = .ok (.istore 11, 2) := by decide +kernel
theorem dL_law_649 : decode cL_law 649 = .ok (.aload_n 1, 1) := by decide +kernel
theorem dL_law_650 : decode cL_law 650 = .ok (.iload 11, 2) := by decide +kernel
theorem dL_law_652 : decode cL_law 652 = .ok (.iload 8, 2) := by decide +kernel
theorem dL_law_654 : decode cL_law 654 = .ok (.bipush 8, 2) := by decide +kernel
theorem dL_law_656 : decode cL_law 656 = .ok (.idiv, 1) := by decide +kernel
theorem dL_law_657 : decode cL_law 657 = .ok (.iconst 3, 1) := by decide +kernel
theorem dL_law_658 : decode cL_law 658 = .ok (.irem, 1) := by decide +kernel
theorem dL_law_659 : decode cL_law 659 = .ok (.invokestatic 171, 3) := by decide +kernel
theorem dL_law_662 : decode cL_law 662 = .ok (.iload 4, 2) := by decide +kernel
theorem dL_law_664 : decode cL_law 664 = .ok (.iconst 1, 1) := by decide +kernel
theorem dL_law_665 : decode cL_law 665 = .ok (.iadd, 1) := by decide +kernel
theorem dL_law_666 : decode cL_law 666 = .ok (.if_icmp .ne 7, 3) := by decide +kernel
theorem dL_law_669 : decode cL_law 669 = .ok (.iconst 1, 1) := by decide +kernel
theorem dL_law_670 : decode cL_law 670 = .ok (.goto 4, 3) := by decide +kernel
theorem dL_law_673 : decode cL_law 673 = .ok (.iconst 0, 1) := by decide +kernel
theorem dL_law_674 : decode cL_law 674 = .ok (.istore 5, 2) := by decide +kernel
theorem dL_law_676 : decode cL_law 676 = .ok (.iinc 4 1, 3) := by decide +kernel
theorem dL_law_679 : decode cL_law 679 = .ok (.aload_n 1, 1) := by decide +kernel
theorem dL_law_680 : decode cL_law 680 = .ok (.invokevirtual 119, 3) := by decide +kernel
theorem dL_law_683 : decode cL_law 683 = .ok (.istore 12, 2) := by decide +kernel
theorem dL_law_685 : decode cL_law 685 = .ok (.iload 5, 2) := by decide +kernel
theorem dL_law_687 : decode cL_law 687 = .ok (.ifCond .eq 54, 3) := by decide +kernel
theorem dL_law_690 : decode cL_law 690 = .ok (.iload 10, 2) := by decide +kernel
theorem dL_law_692 : decode cL_law 692 = .ok (.iconst (-1), 1) := by decide +kernel
theorem dL_law_693 : decode cL_law 693 = .ok (.if_icmp .ne 12, 3) := by decide +kernel
theorem dL_law_696 : decode cL_law 696 = .ok (.iload 12, 2) := by decide +kernel
theorem dL_law_698 : decode cL_law 698 = .ok (.iconst (-1), 1) := by decide +kernel
theorem dL_law_699 : decode cL_law 699 = .ok (.if_icmp .ne 42, 3) := by decide +kernel
theorem dL_law_702 : decode cL_law 702 = .ok (.goto 35, 3) := by decide +kernel
theorem dL_law_705 : decode cL_law 705 = .ok (.iload 10, 2) := by decide +kernel
theorem dL_law_707 : decode cL_law 707 = .ok (.bipush 99, 2) := by decide +kernel
theorem dL_law_709 : decode cL_law 709 = .ok (.if_icmp .eq 28, 3) := by decide +kernel
theorem dL_law_712 : decode cL_law 712 = .ok (.iload 12, 2) := by decide +kernel
theorem dL_law_714 : decode cL_law 714 = .ok (.bipush 99, 2) := by decide +kernel
theorem dL_law_716 : decode cL_law 716 = .ok (.if_icmp .eq 21, 3) := by decide +kernel
theorem dL_law_719 : decode cL_law 719 = .ok (.iload 12, 2) := by decide +kernel
theorem dL_law_721 : decode cL_law 721 = .ok (.iload 10, 2) := by decide +kernel
theorem dL_law_723 : decode cL_law 723 = .ok (.isub, 1) := by decide +kernel
theorem dL_law_724 : decode cL_law 724 = .ok (.iconst 1, 1) := by decide +kernel
theorem dL_law_725 : decode cL_law 725 = .ok (.if_icmp .gt 16, 3) := by decide +kernel
theorem dL_law_728 : decode cL_law 728 = .ok (.iload 10, 2) := by decide +kernel
theorem dL_law_730 : decode cL_law 730 = .ok (.iload 12, 2) := by decide +kernel
theorem dL_law_732 : decode cL_law 732 = .ok (.isub, 1) := by decide +kernel
theorem dL_law_733 : decode cL_law 733 = .ok (.iconst 1, 1) := by decide +kernel
theorem dL_law_734 : decode cL_law 734 = .ok (.if_icmp .gt 7, 3) := by decide +kernel
theorem dL_law_737 : decode cL_law 737 = .ok (.iconst 1, 1) := by decide +kernel
theorem dL_law_738 : decode cL_law 738 = .ok (.goto 4, 3) := by decide +kernel
theorem dL_law_741 : decode cL_law 741 = .ok (.iconst 0, 1) := by decide +kernel
theorem dL_law_742 : decode cL_law 742 = .ok (.istore 5, 2) := by decide +kernel
theorem dL_law_744 : decode cL_law 744 = .ok (.goto 105, 3) := by decide +kernel
theorem dL_law_747 : decode cL_law 747 = .ok (.iload 4, 2) := by decide +kernel
theorem dL_law_749 : decode cL_law 749 = .ok (.ifCond .le 100, 3) := by decide +kernel
theorem dL_law_752 : decode cL_law 752 = .ok (.aload_n 1, 1) := by decide +kernel
theorem dL_law_753 : decode cL_law 753 = .ok (.invokevirtual 119, 3) := by decide +kernel
theorem dL_law_756 : decode cL_law 756 = .ok (.istore 10, 2) := by decide +kernel
theorem dL_law_758 : decode cL_law 758 = .ok (.iload 8, 2) := by decide +kernel
theorem dL_law_760 : decode cL_law 760 = .ok (.iload 4, 2) := by decide +kernel
theorem dL_law_762 : decode cL_law 762 = .ok (.irem, 1) := by decide +kernel
theorem dL_law_763 : decode cL_law 763 = .ok (.istore 11, 2) := by decide +kernel
theorem dL_law_765 : decode cL_law 765 = .ok (.aload_n 1, 1) := by decide +kernel
theorem dL_law_766 : decode cL_law 766 = .ok (.iload 11, 2) := by decide +kernel
theorem dL_law_768 : decode cL_law 768 = .ok (.invokestatic 173, 3) := by decide +kernel
theorem dL_law_771 : decode cL_law 771 = .ok (.ifCond .lt 7, 3) := by decide +kernel
theorem dL_law_774 : decode cL_law 774 = .ok (.iconst 1, 1) := by decide +kernel
theorem dL_law_775 : decode cL_law 775 = .ok (.goto 4, 3) := by decide +kernel
theorem dL_law_778 : decode cL_law 778 = .ok (.iconst 0, 1) := by decide +kernel
theorem dL_law_779 : decode cL_law 779 = .ok (.istore 5, 2) := by decide +kernel
theorem dL_law_781 : decode cL_law 781 = .ok (.iinc 4 (-1), 3) := by decide +kernel
theorem dL_law_784 : decode cL_law 784 = .ok (.aload_n 1, 1) := by decide +kernel
theorem dL_law_785 : decode cL_law 785 = .ok (.invokevirtual 119, 3) := by decide +kernel
theorem dL_law_788 : decode cL_law 788 = .ok (.istore 12, 2) := by decide +kernel
theorem dL_law_790 : decode cL_law 790 = .ok (.iload 5, 2) := by decide +kernel
theorem dL_law_792 : decode cL_law 792 = .ok (.ifCond .eq 54, 3) := by decide +kernel
theorem dL_law_795 : decode cL_law 795 = .ok (.iload 10, 2) := by decide +kernel
theorem dL_law_797 : decode cL_law 797 = .ok (.iconst (-1), 1) := by decide +kernel
theorem dL_law_798 : decode cL_law 798 = .ok (.if_icmp .ne 12, 3) := by decide +kernel
theorem dL_law_801 : decode cL_law 801 = .ok (.iload 12, 2) := by decide +kernel
theorem dL_law_803 : decode cL_law 803 = .ok (.iconst (-1), 1) := by decide +kernel
theorem dL_law_804 : decode cL_law 804 = .ok (.if_icmp .ne 42, 3) := by decide +kernel
theorem dL_law_807 : decode cL_law 807 = .ok (.goto 35, 3) := by decide +kernel
theorem dL_law_810 : decode cL_law 810 = .ok (.iload 10, 2) := by decide +kernel
theorem dL_law_812 : decode cL_law 812 = .ok (.bipush 99, 2) := by decide +kernel
theorem dL_law_814 : decode cL_law 814 = .ok (.if_icmp .eq 28, 3) := by decide +kernel
theorem dL_law_817 : decode cL_law 817 = .ok (.iload 12, 2) := by decide +kernel
theorem dL_law_819 : decode cL_law 819 = .ok (.bipush 99, 2) := by decide +kernel
theorem dL_law_821 : decode cL_law 821 = .ok (.if_icmp .eq 21, 3) := by decide +kernel
theorem dL_law_824 : decode cL_law 824 = .ok (.iload 12, 2) := by decide +kernel
theorem dL_law_826 : decode cL_law 826 = .ok (.iload 10, 2) := by decide +kernel
theorem dL_law_828 : decode cL_law 828 = .ok (.isub, 1) := by decide +kernel
theorem dL_law_829 : decode cL_law 829 = .ok (.iconst 1, 1) := by decide +kernel
theorem dL_law_830 : decode cL_law 830 = .ok (.if_icmp .gt 16, 3) := by decide +kernel
theorem dL_law_833 : decode cL_law 833 = .ok (.iload 10, 2) := by decide +kernel
theorem dL_law_835 : decode cL_law 835 = .ok (.iload 12, 2) := by decide +kernel
theorem dL_law_837 : decode cL_law 837 = .ok (.isub, 1) := by decide +kernel
theorem dL_law_838 : decode cL_law 838 = .ok (.iconst 1, 1) := by decide +kernel
theorem dL_law_839 : decode cL_law 839 = .ok (.if_icmp .gt 7, 3) := by decide +kernel
theorem dL_law_842 : decode cL_law 842 = .ok (.iconst 1, 1) := by decide +kernel
theorem dL_law_843 : decode cL_law 843 = .ok (.goto 4, 3) := by decide +kernel
theorem dL_law_846 : decode cL_law 846 = .ok (.iconst 0, 1) := by decide +kernel
theorem dL_law_847 : decode cL_law 847 = .ok (.istore 5, 2) := by decide +kernel
theorem dL_law_849 : decode cL_law 849 = .ok (.iload 5, 2) := by decide +kernel
theorem dL_law_851 : decode cL_law 851 = .ok (.ifCond .eq 48, 3) := by decide +kernel
theorem dL_law_854 : decode cL_law 854 = .ok (.iload 6, 2) := by decide +kernel
theorem dL_law_856 : decode cL_law 856 = .ok (.iconst 3, 1) := by decide +kernel
theorem dL_law_857 : decode cL_law 857 = .ok (.irem, 1) := by decide +kernel
theorem dL_law_858 : decode cL_law 858 = .ok (.ifCond .gt 10, 3) := by decide +kernel
theorem dL_law_861 : decode cL_law 861 = .ok (.aload_n 1, 1) := by decide +kernel
theorem dL_law_862 : decode cL_law 862 = .ok (.invokestatic 175, 3) := by decide +kernel
theorem dL_law_865 : decode cL_law 865 = .ok (.ifCond .eq 34, 3) := by decide +kernel
theorem dL_law_868 : decode cL_law 868 = .ok (.aload_n 1, 1) := by decide +kernel
theorem dL_law_869 : decode cL_law 869 = .ok (.iload 4, 2) := by decide +kernel
theorem dL_law_871 : decode cL_law 871 = .ok (.invokestatic 179, 3) := by decide +kernel
theorem dL_law_874 : decode cL_law 874 = .ok (.ifCond .eq 25, 3) := by decide +kernel
theorem dL_law_877 : decode cL_law 877 = .ok (.aload_n 1, 1) := by decide +kernel
theorem dL_law_878 : decode cL_law 878 = .ok (.invokestatic 183, 3) := by decide +kernel
theorem dL_law_881 : decode cL_law 881 = .ok (.ifCond .eq 18, 3) := by decide +kernel
theorem dL_law_884 : decode cL_law 884 = .ok (.aload_n 1, 1) := by decide +kernel
theorem dL_law_885 : decode cL_law 885 = .ok (.iconst 0, 1) := by decide +kernel
theorem dL_law_886 : decode cL_law 886 = .ok (.iconst 5, 1) := by decide +kernel
theorem dL_law_887 : decode cL_law 887 = .ok (.invokestatic 186, 3) := by decide +kernel
theorem dL_law_890 : decode cL_law 890 = .ok (.bipush (-101), 2) := by decide +kernel
theorem dL_law_892 : decode cL_law 892 = .ok (.if_icmp .ne 7, 3) := by decide +kernel
theorem dL_law_895 : decode cL_law 895 = .ok (.iconst 1, 1) := by decide +kernel
theorem dL_law_896 : decode cL_law 896 = .ok (.goto 4, 3) := by decide +kernel
theorem dL_law_899 : decode cL_law 899 = .ok (.iconst 0, 1) := by decide +kernel
theorem dL_law_900 : decode cL_law 900 = .ok (.istore 5, 2) := by decide +kernel
theorem dL_law_902 : decode cL_law 902 = .ok (.iinc 6 1, 3) := by decide +kernel
theorem dL_law_905 : decode cL_law 905 = .ok (.goto (-881), 3) := by decide +kernel
theorem dL_law_908 : decode cL_law 908 = .ok (.iload 5, 2) := by decide +kernel
theorem dL_law_910 : decode cL_law 910 = .ok (.ireturn, 1) := by decide +kernel
