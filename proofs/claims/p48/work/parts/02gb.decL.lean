theorem dL_sum_4 : decode cL_sum 4 = .ok (.bipush 6, 2) := by decide +kernel
theorem dL_sum_6 : decode cL_sum 6 = .ok (.invokevirtual 91, 3) := by decide +kernel
theorem dL_sum_9 : decode cL_sum 9 = .ok (.i2l, 1) := by decide +kernel
theorem dL_sum_10 : decode cL_sum 10 = .ok (.lmul, 1) := by decide +kernel
theorem dL_sum_11 : decode cL_sum 11 = .ok (.aload_n 0, 1) := by decide +kernel
theorem dL_sum_12 : decode cL_sum 12 = .ok (.bipush 7, 2) := by decide +kernel
theorem dL_sum_14 : decode cL_sum 14 = .ok (.invokevirtual 91, 3) := by decide +kernel
theorem dL_sum_17 : decode cL_sum 17 = .ok (.i2l, 1) := by decide +kernel
theorem dL_sum_18 : decode cL_sum 18 = .ok (.ladd, 1) := by decide +kernel
theorem dL_sum_19 : decode cL_sum 19 = .ok (.lstore_n 1, 1) := by decide +kernel
theorem dL_sum_20 : decode cL_sum 20 = .ok (.iconst 0, 1) := by decide +kernel
theorem dL_sum_21 : decode cL_sum 21 = .ok (.istore_n 3, 1) := by decide +kernel
theorem dL_sum_22 : decode cL_sum 22 = .ok (.iload_n 3, 1) := by decide +kernel
theorem dL_sum_23 : decode cL_sum 23 = .ok (.aload_n 0, 1) := by decide +kernel
theorem dL_sum_24 : decode cL_sum 24 = .ok (.iconst 0, 1) := by decide +kernel
theorem dL_sum_25 : decode cL_sum 25 = .ok (.invokevirtual 91, 3) := by decide +kernel
theorem dL_sum_28 : decode cL_sum 28 = .ok (.if_icmp .ge 35, 3) := by decide +kernel
theorem dL_sum_31 : decode cL_sum 31 = .ok (.ldc2_w 89, 3) := by decide +kernel
theorem dL_sum_34 : decode cL_sum 34 = .ok (.ldc2_w 89, 3) := by decide +kernel
theorem dL_sum_37 : decode cL_sum 37 = .ok (.lload_n 1, 1) := by decide +kernel
theorem dL_sum_38 : decode cL_sum 38 = .ok (.lmul, 1) := by decide +kernel
theorem dL_sum_39 : decode cL_sum 39 = .ok (.aload_n 0, 1) := by decide +kernel
theorem dL_sum_40 : decode cL_sum 40 = .ok (.iload_n 3, 1) := by decide +kernel
theorem dL_sum_41 : decode cL_sum 41 = .ok (.iconst 0, 1) := by decide +kernel
theorem dL_sum_42 : decode cL_sum 42 = .ok (.invokevirtual 94, 3) := by decide +kernel
theorem dL_sum_45 : decode cL_sum 45 = .ok (.i2l, 1) := by decide +kernel
theorem dL_sum_46 : decode cL_sum 46 = .ok (.ladd, 1) := by decide +kernel
theorem dL_sum_47 : decode cL_sum 47 = .ok (.lmul, 1) := by decide +kernel
theorem dL_sum_48 : decode cL_sum 48 = .ok (.aload_n 0, 1) := by decide +kernel
theorem dL_sum_49 : decode cL_sum 49 = .ok (.iload_n 3, 1) := by decide +kernel
theorem dL_sum_50 : decode cL_sum 50 = .ok (.iconst 1, 1) := by decide +kernel
theorem dL_sum_51 : decode cL_sum 51 = .ok (.invokevirtual 94, 3) := by decide +kernel
theorem dL_sum_54 : decode cL_sum 54 = .ok (.i2l, 1) := by decide +kernel
theorem dL_sum_55 : decode cL_sum 55 = .ok (.ladd, 1) := by decide +kernel
theorem dL_sum_56 : decode cL_sum 56 = .ok (.lstore_n 1, 1) := by decide +kernel
theorem dL_sum_57 : decode cL_sum 57 = .ok (.iinc 3 1, 3) := by decide +kernel
theorem dL_sum_60 : decode cL_sum 60 = .ok (.goto (-38), 3) := by decide +kernel
theorem dL_sum_63 : decode cL_sum 63 = .ok (.iconst 0, 1) := by decide +kernel
theorem dL_sum_64 : decode cL_sum 64 = .ok (.istore_n 3, 1) := by decide +kernel
theorem dL_sum_65 : decode cL_sum 65 = .ok (.iload_n 3, 1) := by decide +kernel
theorem dL_sum_66 : decode cL_sum 66 = .ok (.aload_n 0, 1) := by decide +kernel
theorem dL_sum_67 : decode cL_sum 67 = .ok (.iconst 1, 1) := by decide +kernel
theorem dL_sum_68 : decode cL_sum 68 = .ok (.invokevirtual 91, 3) := by decide +kernel
theorem dL_sum_71 : decode cL_sum 71 = .ok (.if_icmp .ge 35, 3) := by decide +kernel
theorem dL_sum_74 : decode cL_sum 74 = .ok (.ldc2_w 89, 3) := by decide +kernel
theorem dL_sum_77 : decode cL_sum 77 = .ok (.ldc2_w 89, 3) := by decide +kernel
theorem dL_sum_80 : decode cL_sum 80 = .ok (.lload_n 1, 1) := by decide +kernel
theorem dL_sum_81 : decode cL_sum 81 = .ok (.lmul, 1) := by decide +kernel
theorem dL_sum_82 : decode cL_sum 82 = .ok (.aload_n 0, 1) := by decide +kernel
theorem dL_sum_83 : decode cL_sum 83 = .ok (.iload_n 3, 1) := by decide +kernel
theorem dL_sum_84 : decode cL_sum 84 = .ok (.iconst 0, 1) := by decide +kernel
theorem dL_sum_85 : decode cL_sum 85 = .ok (.invokevirtual 97, 3) := by decide +kernel
theorem dL_sum_88 : decode cL_sum 88 = .ok (.i2l, 1) := by decide +kernel
theorem dL_sum_89 : decode cL_sum 89 = .ok (.ladd, 1) := by decide +kernel
theorem dL_sum_90 : decode cL_sum 90 = .ok (.lmul, 1) := by decide +kernel
theorem dL_sum_91 : decode cL_sum 91 = .ok (.aload_n 0, 1) := by decide +kernel
theorem dL_sum_92 : decode cL_sum 92 = .ok (.iload_n 3, 1) := by decide +kernel
theorem dL_sum_93 : decode cL_sum 93 = .ok (.iconst 1, 1) := by decide +kernel
theorem dL_sum_94 : decode cL_sum 94 = .ok (.invokevirtual 97, 3) := by decide +kernel
theorem dL_sum_97 : decode cL_sum 97 = .ok (.i2l, 1) := by decide +kernel
theorem dL_sum_98 : decode cL_sum 98 = .ok (.ladd, 1) := by decide +kernel
theorem dL_sum_99 : decode cL_sum 99 = .ok (.lstore_n 1, 1) := by decide +kernel
theorem dL_sum_100 : decode cL_sum 100 = .ok (.iinc 3 1, 3) := by decide +kernel
theorem dL_sum_103 : decode cL_sum 103 = .ok (.goto (-38), 3) := by decide +kernel
theorem dL_sum_106 : decode cL_sum 106 = .ok (.iconst 0, 1) := by decide +kernel
theorem dL_sum_107 : decode cL_sum 107 = .ok (.istore_n 3, 1) := by decide +kernel
theorem dL_sum_108 : decode cL_sum 108 = .ok (.iload_n 3, 1) := by decide +kernel
theorem dL_sum_109 : decode cL_sum 109 = .ok (.bipush 10, 2) := by decide +kernel
theorem dL_sum_111 : decode cL_sum 111 = .ok (.if_icmp .ge 22, 3) := by decide +kernel
theorem dL_sum_114 : decode cL_sum 114 = .ok (.ldc2_w 89, 3) := by decide +kernel
theorem dL_sum_117 : decode cL_sum 117 = .ok (.lload_n 1, 1) := by decide +kernel
theorem dL_sum_118 : decode cL_sum 118 = .ok (.lmul, 1) := by decide +kernel
theorem dL_sum_119 : decode cL_sum 119 = .ok (.aload_n 0, 1) := by decide +kernel
theorem dL_sum_120 : decode cL_sum 120 = .ok (.iload_n 3, 1) := by decide +kernel
theorem dL_sum_121 : decode cL_sum 121 = .ok (.invokevirtual 100, 3) := by decide +kernel
theorem dL_sum_124 : decode cL_sum 124 = .ok (.i2l, 1) := by decide +kernel
theorem dL_sum_125 : decode cL_sum 125 = .ok (.ladd, 1) := by decide +kernel
theorem dL_sum_126 : decode cL_sum 126 = .ok (.lstore_n 1, 1) := by decide +kernel
theorem dL_sum_127 : decode cL_sum 127 = .ok (.iinc 3 1, 3) := by decide +kernel
theorem dL_sum_130 : decode cL_sum 130 = .ok (.goto (-22), 3) := by decide +kernel
theorem dL_sum_133 : decode cL_sum 133 = .ok (.ldc2_w 89, 3) := by decide +kernel
theorem dL_sum_136 : decode cL_sum 136 = .ok (.lload_n 1, 1) := by decide +kernel
theorem dL_sum_137 : decode cL_sum 137 = .ok (.lmul, 1) := by decide +kernel
theorem dL_sum_138 : decode cL_sum 138 = .ok (.aload_n 0, 1) := by decide +kernel
theorem dL_sum_139 : decode cL_sum 139 = .ok (.iconst 0, 1) := by decide +kernel
theorem dL_sum_140 : decode cL_sum 140 = .ok (.invokevirtual 91, 3) := by decide +kernel
theorem dL_sum_143 : decode cL_sum 143 = .ok (.i2l, 1) := by decide +kernel
theorem dL_sum_144 : decode cL_sum 144 = .ok (.ladd, 1) := by decide +kernel
theorem dL_sum_145 : decode cL_sum 145 = .ok (.lreturn, 1) := by decide +kernel
theorem dL_wins_0 : decode cL_wins 0 = .ok (.aload_n 0, 1) := by decide +kernel
theorem dL_wins_1 : decode cL_wins 1 = .ok (.iconst 0, 1) := by decide +kernel
theorem dL_wins_2 : decode cL_wins 2 = .ok (.invokevirtual 91, 3) := by decide +kernel
theorem dL_wins_5 : decode cL_wins 5 = .ok (.istore_n 1, 1) := by decide +kernel
theorem dL_wins_6 : decode cL_wins 6 = .ok (.iconst 1, 1) := by decide +kernel
theorem dL_wins_7 : decode cL_wins 7 = .ok (.iload_n 1, 1) := by decide +kernel
theorem dL_wins_8 : decode cL_wins 8 = .ok (.ishl, 1) := by decide +kernel
theorem dL_wins_9 : decode cL_wins 9 = .ok (.iconst 1, 1) := by decide +kernel
theorem dL_wins_10 : decode cL_wins 10 = .ok (.isub, 1) := by decide +kernel
theorem dL_wins_11 : decode cL_wins 11 = .ok (.istore_n 2, 1) := by decide +kernel
theorem dL_wins_12 : decode cL_wins 12 = .ok (.aload_n 0, 1) := by decide +kernel
theorem dL_wins_13 : decode cL_wins 13 = .ok (.iconst 0, 1) := by decide +kernel
theorem dL_wins_14 : decode cL_wins 14 = .ok (.invokevirtual 103, 3) := by decide +kernel
theorem dL_wins_17 : decode cL_wins 17 = .ok (.istore_n 3, 1) := by decide +kernel
theorem dL_wins_18 : decode cL_wins 18 = .ok (.aload_n 0, 1) := by decide +kernel
theorem dL_wins_19 : decode cL_wins 19 = .ok (.iconst 1, 1) := by decide +kernel
theorem dL_wins_20 : decode cL_wins 20 = .ok (.invokevirtual 103, 3) := by decide +kernel
theorem dL_wins_23 : decode cL_wins 23 = .ok (.istore 4, 2) := by decide +kernel
theorem dL_wins_25 : decode cL_wins 25 = .ok (.iload_n 3, 1) := by decide +kernel
theorem dL_wins_26 : decode cL_wins 26 = .ok (.iload 4, 2) := by decide +kernel
theorem dL_wins_28 : decode cL_wins 28 = .ok (.ior, 1) := by decide +kernel
theorem dL_wins_29 : decode cL_wins 29 = .ok (.iload_n 2, 1) := by decide +kernel
theorem dL_wins_30 : decode cL_wins 30 = .ok (.if_icmp .ne 82, 3) := by decide +kernel
theorem dL_wins_33 : decode cL_wins 33 = .ok (.iload_n 3, 1) := by decide +kernel
theorem dL_wins_34 : decode cL_wins 34 = .ok (.iload 4, 2) := by decide +kernel
theorem dL_wins_36 : decode cL_wins 36 = .ok (.iand, 1) := by decide +kernel
theorem dL_wins_37 : decode cL_wins 37 = .ok (.ifCond .ne 75, 3) := by decide +kernel
theorem dL_wins_40 : decode cL_wins 40 = .ok (.aload_n 0, 1) := by decide +kernel
theorem dL_wins_41 : decode cL_wins 41 = .ok (.iconst 1, 1) := by decide +kernel
theorem dL_wins_42 : decode cL_wins 42 = .ok (.iload_n 3, 1) := by decide +kernel
theorem dL_wins_43 : decode cL_wins 43 = .ok (.invokevirtual 106, 3) := by decide +kernel
theorem dL_wins_46 : decode cL_wins 46 = .ok (.ifCond .eq 66, 3) := by decide +kernel
theorem dL_wins_49 : decode cL_wins 49 = .ok (.aload_n 0, 1) := by decide +kernel
theorem dL_wins_50 : decode cL_wins 50 = .ok (.iconst 0, 1) := by decide +kernel
theorem dL_wins_51 : decode cL_wins 51 = .ok (.iload 4, 2) := by decide +kernel
theorem dL_wins_53 : decode cL_wins 53 = .ok (.invokevirtual 106, 3) := by decide +kernel
theorem dL_wins_56 : decode cL_wins 56 = .ok (.ifCond .eq 56, 3) := by decide +kernel
theorem dL_wins_59 : decode cL_wins 59 = .ok (.aload_n 0, 1) := by decide +kernel
theorem dL_wins_60 : decode cL_wins 60 = .ok (.iconst 0, 1) := by decide +kernel
theorem dL_wins_61 : decode cL_wins 61 = .ok (.iload_n 3, 1) := by decide +kernel
theorem dL_wins_62 : decode cL_wins 62 = .ok (.invokevirtual 83, 3) := by decide +kernel
theorem dL_wins_65 : decode cL_wins 65 = .ok (.iload_n 3, 1) := by decide +kernel
theorem dL_wins_66 : decode cL_wins 66 = .ok (.if_icmp .ne 46, 3) := by decide +kernel
theorem dL_wins_69 : decode cL_wins 69 = .ok (.aload_n 0, 1) := by decide +kernel
theorem dL_wins_70 : decode cL_wins 70 = .ok (.iconst 1, 1) := by decide +kernel
theorem dL_wins_71 : decode cL_wins 71 = .ok (.iload 4, 2) := by decide +kernel
theorem dL_wins_73 : decode cL_wins 73 = .ok (.invokevirtual 83, 3) := by decide +kernel
theorem dL_wins_76 : decode cL_wins 76 = .ok (.iload 4, 2) := by decide +kernel
theorem dL_wins_78 : decode cL_wins 78 = .ok (.if_icmp .ne 34, 3) := by decide +kernel
theorem dL_wins_81 : decode cL_wins 81 = .ok (.aload_n 0, 1) := by decide +kernel
theorem dL_wins_82 : decode cL_wins 82 = .ok (.iconst 0, 1) := by decide +kernel
theorem dL_wins_83 : decode cL_wins 83 = .ok (.iload_n 3, 1) := by decide +kernel
theorem dL_wins_84 : decode cL_wins 84 = .ok (.invokevirtual 110, 3) := by decide +kernel
theorem dL_wins_87 : decode cL_wins 87 = .ok (.iload_n 3, 1) := by decide +kernel
theorem dL_wins_88 : decode cL_wins 88 = .ok (.if_icmp .ne 24, 3) := by decide +kernel
theorem dL_wins_91 : decode cL_wins 91 = .ok (.aload_n 0, 1) := by decide +kernel
theorem dL_wins_92 : decode cL_wins 92 = .ok (.iconst 0, 1) := by decide +kernel
theorem dL_wins_93 : decode cL_wins 93 = .ok (.invokevirtual 113, 3) := by decide +kernel
theorem dL_wins_96 : decode cL_wins 96 = .ok (.iload_n 3, 1) := by decide +kernel
theorem dL_wins_97 : decode cL_wins 97 = .ok (.invokestatic 117, 3) := by decide +kernel
theorem dL_wins_100 : decode cL_wins 100 = .ok (.i2f, 1) := by decide +kernel
theorem dL_wins_101 : decode cL_wins 101 = .ok (.iload_n 1, 1) := by decide +kernel
theorem dL_wins_102 : decode cL_wins 102 = .ok (.i2f, 1) := by decide +kernel
theorem dL_wins_103 : decode cL_wins 103 = .ok (.fdiv, 1) := by decide +kernel
theorem dL_wins_104 : decode cL_wins 104 = .ok (.fcmp .l, 1) := by decide +kernel
theorem dL_wins_105 : decode cL_wins 105 = .ok (.ifCond .ne 7, 3) := by decide +kernel
theorem dL_wins_108 : decode cL_wins 108 = .ok (.iconst 1, 1) := by decide +kernel
theorem dL_wins_109 : decode cL_wins 109 = .ok (.goto 4, 3) := by decide +kernel
theorem dL_wins_112 : decode cL_wins 112 = .ok (.iconst 0, 1) := by decide +kernel
theorem dL_wins_113 : decode cL_wins 113 = .ok (.istore 5, 2) := by decide +kernel
theorem dL_wins_115 : decode cL_wins 115 = .ok (.iconst 0, 1) := by decide +kernel
theorem dL_wins_116 : decode cL_wins 116 = .ok (.istore 6, 2) := by decide +kernel
theorem dL_wins_118 : decode cL_wins 118 = .ok (.iload 6, 2) := by decide +kernel
theorem dL_wins_120 : decode cL_wins 120 = .ok (.iload_n 1, 1) := by decide +kernel
theorem dL_wins_121 : decode cL_wins 121 = .ok (.if_icmp .ge 307, 3) := by decide +kernel
theorem dL_wins_124 : decode cL_wins 124 = .ok (.iload 5, 2) := by decide +kernel
theorem dL_wins_126 : decode cL_wins 126 = .ok (.ifCond .eq 302, 3) := by decide +kernel
theorem dL_wins_129 : decode cL_wins 129 = .ok (.aload_n 0, 1) := by decide +kernel
theorem dL_wins_130 : decode cL_wins 130 = .ok (.iload 6, 2) := by decide +kernel
theorem dL_wins_132 : decode cL_wins 132 = .ok (.iconst 4, 1) := by decide +kernel
theorem dL_wins_133 : decode cL_wins 133 = .ok (.invokevirtual 94, 3) := by decide +kernel
theorem dL_wins_136 : decode cL_wins 136 = .ok (.istore 7, 2) := by decide +kernel
theorem dL_wins_138 : decode cL_wins 138 = .ok (.aload_n 0, 1) := by decide +kernel
theorem dL_wins_139 : decode cL_wins 139 = .ok (.iload 6, 2) := by decide +kernel
theorem dL_wins_141 : decode cL_wins 141 = .ok (.invokevirtual 122, 3) := by decide +kernel
theorem dL_wins_144 : decode cL_wins 144 = .ok (.istore 8, 2) := by decide +kernel
theorem dL_wins_146 : decode cL_wins 146 = .ok (.iload 7, 2) := by decide +kernel
theorem dL_wins_148 : decode cL_wins 148 = .ok (.iload_n 3, 1) := by decide +kernel
theorem dL_wins_149 : decode cL_wins 149 = .ok (.iload 6, 2) := by decide +kernel
theorem dL_wins_151 : decode cL_wins 151 = .ok (.ishr, 1) := by decide +kernel
theorem dL_wins_152 : decode cL_wins 152 = .ok (.iconst 1, 1) := by decide +kernel
theorem dL_wins_153 : decode cL_wins 153 = .ok (.iand, 1) := by decide +kernel
theorem dL_wins_154 : decode cL_wins 154 = .ok (.iconst 1, 1) := by decide +kernel
theorem dL_wins_155 : decode cL_wins 155 = .ok (.ixor, 1) := by decide +kernel
theorem dL_wins_156 : decode cL_wins 156 = .ok (.if_icmp .ne 70, 3) := by decide +kernel
theorem dL_wins_159 : decode cL_wins 159 = .ok (.iload 8, 2) := by decide +kernel
theorem dL_wins_161 : decode cL_wins 161 = .ok (.iconst (-1), 1) := by decide +kernel
theorem dL_wins_162 : decode cL_wins 162 = .ok (.if_icmp .ne 7, 3) := by decide +kernel
theorem dL_wins_165 : decode cL_wins 165 = .ok (.iconst 1, 1) := by decide +kernel
theorem dL_wins_166 : decode cL_wins 166 = .ok (.goto 4, 3) := by decide +kernel
theorem dL_wins_169 : decode cL_wins 169 = .ok (.iconst 0, 1) := by decide +kernel
theorem dL_wins_170 : decode cL_wins 170 = .ok (.aload_n 0, 1) := by decide +kernel
theorem dL_wins_171 : decode cL_wins 171 = .ok (.iload 6, 2) := by decide +kernel
theorem dL_wins_173 : decode cL_wins 173 = .ok (.iconst 2, 1) := by decide +kernel
theorem dL_wins_174 : decode cL_wins 174 = .ok (.invokevirtual 94, 3) := by decide +kernel
theorem dL_wins_177 : decode cL_wins 177 = .ok (.ifCond .ne 7, 3) := by decide +kernel
theorem dL_wins_180 : decode cL_wins 180 = .ok (.iconst 1, 1) := by decide +kernel
theorem dL_wins_181 : decode cL_wins 181 = .ok (.goto 4, 3) := by decide +kernel
theorem dL_wins_184 : decode cL_wins 184 = .ok (.iconst 0, 1) := by decide +kernel
theorem dL_wins_185 : decode cL_wins 185 = .ok (.if_icmp .ne 41, 3) := by decide +kernel
theorem dL_wins_188 : decode cL_wins 188 = .ok (.iload 8, 2) := by decide +kernel
theorem dL_wins_190 : decode cL_wins 190 = .ok (.ifCond .ge 15, 3) := by decide +kernel
theorem dL_wins_193 : decode cL_wins 193 = .ok (.iload 7, 2) := by decide +kernel
theorem dL_wins_195 : decode cL_wins 195 = .ok (.aload_n 0, 1) := by decide +kernel
theorem dL_wins_196 : decode cL_wins 196 = .ok (.iload 6, 2) := by decide +kernel
theorem dL_wins_198 : decode cL_wins 198 = .ok (.iconst 0, 1) := by decide +kernel
theorem dL_wins_199 : decode cL_wins 199 = .ok (.invokevirtual 94, 3) := by decide +kernel
theorem dL_wins_202 : decode cL_wins 202 = .ok (.if_icmp .eq 24, 3) := by decide +kernel
theorem dL_wins_205 : decode cL_wins 205 = .ok (.iload 8, 2) := by decide +kernel
theorem dL_wins_207 : decode cL_wins 207 = .ok (.ifCond .lt 15, 3) := by decide +kernel
theorem dL_wins_210 : decode cL_wins 210 = .ok (.aload_n 0, 1) := by decide +kernel
theorem dL_wins_211 : decode cL_wins 211 = .ok (.iload 8, 2) := by decide +kernel
theorem dL_wins_213 : decode cL_wins 213 = .ok (.iconst 0, 1) := by decide +kernel
theorem dL_wins_214 : decode cL_wins 214 = .ok (.invokevirtual 97, 3) := by decide +kernel
theorem dL_wins_217 : decode cL_wins 217 = .ok (.iload 6, 2) := by decide +kernel
theorem dL_wins_219 : decode cL_wins 219 = .ok (.if_icmp .ne 7, 3) := by decide +kernel
theorem dL_wins_222 : decode cL_wins 222 = .ok (.iconst 1, 1) := by decide +kernel
theorem dL_wins_223 : decode cL_wins 223 = .ok (.goto 4, 3) := by decide +kernel
theorem dL_wins_226 : decode cL_wins 226 = .ok (.iconst 0, 1) := by decide +kernel
theorem dL_wins_227 : decode cL_wins 227 = .ok (.istore 5, 2) := by decide +kernel
theorem dL_wins_229 : decode cL_wins 229 = .ok (.iload 5, 2) := by decide +kernel
theorem dL_wins_231 : decode cL_wins 231 = .ok (.ifCond .eq 44, 3) := by decide +kernel
theorem dL_wins_234 : decode cL_wins 234 = .ok (.iload 8, 2) := by decide +kernel
theorem dL_wins_236 : decode cL_wins 236 = .ok (.ifCond .lt 39, 3) := by decide +kernel
theorem dL_wins_239 : decode cL_wins 239 = .ok (.aload_n 0, 1) := by decide +kernel
theorem dL_wins_240 : decode cL_wins 240 = .ok (.iload 6, 2) := by decide +kernel
theorem dL_wins_242 : decode cL_wins 242 = .ok (.iconst 0, 1) := by decide +kernel
theorem dL_wins_243 : decode cL_wins 243 = .ok (.invokevirtual 94, 3) := by decide +kernel
theorem dL_wins_246 : decode cL_wins 246 = .ok (.iload 7, 2) := by decide +kernel
theorem dL_wins_248 : decode cL_wins 248 = .ok (.if_icmp .ne 27, 3) := by decide +kernel
theorem dL_wins_251 : decode cL_wins 251 = .ok (.aload_n 0, 1) := by decide +kernel
theorem dL_wins_252 : decode cL_wins 252 = .ok (.aload_n 0, 1) := by decide +kernel
theorem dL_wins_253 : decode cL_wins 253 = .ok (.iload 8, 2) := by decide +kernel
theorem dL_wins_255 : decode cL_wins 255 = .ok (.iconst 1, 1) := by decide +kernel
theorem dL_wins_256 : decode cL_wins 256 = .ok (.invokevirtual 97, 3) := by decide +kernel
theorem dL_wins_259 : decode cL_wins 259 = .ok (.iconst 4, 1) := by decide +kernel
theorem dL_wins_260 : decode cL_wins 260 = .ok (.invokevirtual 94, 3) := by decide +kernel
theorem dL_wins_263 : decode cL_wins 263 = .ok (.iload 7, 2) := by decide +kernel
theorem dL_wins_265 : decode cL_wins 265 = .ok (.if_icmp .ne 7, 3) := by decide +kernel
theorem dL_wins_268 : decode cL_wins 268 = .ok (.iconst 1, 1) := by decide +kernel
theorem dL_wins_269 : decode cL_wins 269 = .ok (.goto 4, 3) := by decide +kernel
theorem dL_wins_272 : decode cL_wins 272 = .ok (.iconst 0, 1) := by decide +kernel
theorem dL_wins_273 : decode cL_wins 273 = .ok (.istore 5, 2) := by decide +kernel
theorem dL_wins_275 : decode cL_wins 275 = .ok (.aload_n 0, 1) := by decide +kernel
theorem dL_wins_276 : decode cL_wins 276 = .ok (.iload 6, 2) := by decide +kernel
theorem dL_wins_278 : decode cL_wins 278 = .ok (.iconst 2, 1) := by decide +kernel
theorem dL_wins_279 : decode cL_wins 279 = .ok (.invokevirtual 125, 3) := by decide +kernel
theorem dL_wins_282 : decode cL_wins 282 = .ok (.istore 9, 2) := by decide +kernel
theorem dL_wins_284 : decode cL_wins 284 = .ok (.aload_n 0, 1) := by decide +kernel
theorem dL_wins_285 : decode cL_wins 285 = .ok (.iload 6, 2) := by decide +kernel
theorem dL_wins_287 : decode cL_wins 287 = .ok (.iconst 1, 1) := by decide +kernel
theorem dL_wins_288 : decode cL_wins 288 = .ok (.invokevirtual 125, 3) := by decide +kernel
theorem dL_wins_291 : decode cL_wins 291 = .ok (.istore 10, 2) := by decide +kernel
theorem dL_wins_293 : decode cL_wins 293 = .ok (.iload 5, 2) := by decide +kernel
theorem dL_wins_295 : decode cL_wins 295 = .ok (.ifCond .eq 124, 3) := by decide +kernel
theorem dL_wins_298 : decode cL_wins 298 = .ok (.iload 10, 2) := by decide +kernel
theorem dL_wins_300 : decode cL_wins 300 = .ok (.ifCond .ne 7, 3) := by decide +kernel
theorem dL_wins_303 : decode cL_wins 303 = .ok (.iconst 1, 1) := by decide +kernel
theorem dL_wins_304 : decode cL_wins 304 = .ok (.goto 4, 3) := by decide +kernel
theorem dL_wins_307 : decode cL_wins 307 = .ok (.iconst 0, 1) := by decide +kernel
theorem dL_wins_308 : decode cL_wins 308 = .ok (.iload 9, 2) := by decide +kernel
theorem dL_wins_310 : decode cL_wins 310 = .ok (.iconst (-1), 1) := by decide +kernel
theorem dL_wins_311 : decode cL_wins 311 = .ok (.if_icmp .ne 7, 3) := by decide +kernel
theorem dL_wins_314 : decode cL_wins 314 = .ok (.iconst 1, 1) := by decide +kernel
theorem dL_wins_315 : decode cL_wins 315 = .ok (.goto 4, 3) := by decide +kernel
theorem dL_wins_318 : decode cL_wins 318 = .ok (.iconst 0, 1) := by decide +kernel
theorem dL_wins_319 : decode cL_wins 319 = .ok (.if_icmp .ne 100, 3) := by decide +kernel
theorem dL_wins_322 : decode cL_wins 322 = .ok (.iload 10, 2) := by decide +kernel
theorem dL_wins_324 : decode cL_wins 324 = .ok (.ifCond .ne 48, 3) := by decide +kernel
theorem dL_wins_327 : decode cL_wins 327 = .ok (.aload_n 0, 1) := by decide +kernel
theorem dL_wins_328 : decode cL_wins 328 = .ok (.iload 6, 2) := by decide +kernel
theorem dL_wins_330 : decode cL_wins 330 = .ok (.aload_n 0, 1) := by decide +kernel
theorem dL_wins_331 : decode cL_wins 331 = .ok (.iload 6, 2) := by decide +kernel
theorem dL_wins_333 : decode cL_wins 333 = .ok (.iconst 0, 1) := by decide +kernel
theorem dL_wins_334 : decode cL_wins 334 = .ok (.invokevirtual 125, 3) := by decide +kernel
theorem dL_wins_337 : decode cL_wins 337 = .ok (.iconst 1, 1) := by decide +kernel
theorem dL_wins_338 : decode cL_wins 338 = .ok (.iadd, 1) := by decide +kernel
theorem dL_wins_339 : decode cL_wins 339 = .ok (.invokevirtual 128, 3) := by decide +kernel
theorem dL_wins_342 : decode cL_wins 342 = .ok (.iconst (-1), 1) := by decide +kernel
theorem dL_wins_343 : decode cL_wins 343 = .ok (.if_icmp .ne 76, 3) := by decide +kernel
theorem dL_wins_346 : decode cL_wins 346 = .ok (.aload_n 0, 1) := by decide +kernel
theorem dL_wins_347 : decode cL_wins 347 = .ok (.aload_n 0, 1) := by decide +kernel
theorem dL_wins_348 : decode cL_wins 348 = .ok (.iload 6, 2) := by decide +kernel
theorem dL_wins_350 : decode cL_wins 350 = .ok (.aload_n 0, 1) := by decide +kernel
theorem dL_wins_351 : decode cL_wins 351 = .ok (.iload 6, 2) := by decide +kernel
theorem dL_wins_353 : decode cL_wins 353 = .ok (.iconst 0, 1) := by decide +kernel
theorem dL_wins_354 : decode cL_wins 354 = .ok (.invokevirtual 125, 3) := by decide +kernel
theorem dL_wins_357 : decode cL_wins 357 = .ok (.invokevirtual 128, 3) := by decide +kernel
theorem dL_wins_360 : decode cL_wins 360 = .ok (.iconst 0, 1) := by decide +kernel
theorem dL_wins_361 : decode cL_wins 361 = .ok (.invokevirtual 94, 3) := by decide +kernel
theorem dL_wins_364 : decode cL_wins 364 = .ok (.iload 7, 2) := by decide +kernel
theorem dL_wins_366 : decode cL_wins 366 = .ok (.if_icmp .eq 53, 3) := by decide +kernel
theorem dL_wins_369 : decode cL_wins 369 = .ok (.goto 46, 3) := by decide +kernel
theorem dL_wins_372 : decode cL_wins 372 = .ok (.iload 9, 2) := by decide +kernel
theorem dL_wins_374 : decode cL_wins 374 = .ok (.iconst 2, 1) := by decide +kernel
theorem dL_wins_375 : decode cL_wins 375 = .ok (.irem, 1) := by decide +kernel
theorem dL_wins_376 : decode cL_wins 376 = .ok (.iload 7, 2) := by decide +kernel
theorem dL_wins_378 : decode cL_wins 378 = .ok (.if_icmp .ne 41, 3) := by decide +kernel
theorem dL_wins_381 : decode cL_wins 381 = .ok (.aload_n 0, 1) := by decide +kernel
theorem dL_wins_382 : decode cL_wins 382 = .ok (.iload 6, 2) := by decide +kernel
theorem dL_wins_384 : decode cL_wins 384 = .ok (.iload_n 1, 1) := by decide +kernel
