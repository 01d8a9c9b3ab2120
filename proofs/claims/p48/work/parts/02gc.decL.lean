theorem dL_wins_385 : decode cL_wins 385 = .ok (.invokevirtual 128, 3) := by decide +kernel
theorem dL_wins_388 : decode cL_wins 388 = .ok (.aload_n 0, 1) := by decide +kernel
theorem dL_wins_389 : decode cL_wins 389 = .ok (.iload 6, 2) := by decide +kernel
theorem dL_wins_391 : decode cL_wins 391 = .ok (.iload_n 1, 1) := by decide +kernel
theorem dL_wins_392 : decode cL_wins 392 = .ok (.iload 10, 2) := by decide +kernel
theorem dL_wins_394 : decode cL_wins 394 = .ok (.iadd, 1) := by decide +kernel
theorem dL_wins_395 : decode cL_wins 395 = .ok (.invokevirtual 128, 3) := by decide +kernel
theorem dL_wins_398 : decode cL_wins 398 = .ok (.if_icmp .ne 21, 3) := by decide +kernel
theorem dL_wins_401 : decode cL_wins 401 = .ok (.aload_n 0, 1) := by decide +kernel
theorem dL_wins_402 : decode cL_wins 402 = .ok (.iload 6, 2) := by decide +kernel
theorem dL_wins_404 : decode cL_wins 404 = .ok (.iconst 0, 1) := by decide +kernel
theorem dL_wins_405 : decode cL_wins 405 = .ok (.invokevirtual 125, 3) := by decide +kernel
theorem dL_wins_408 : decode cL_wins 408 = .ok (.iload 10, 2) := by decide +kernel
theorem dL_wins_410 : decode cL_wins 410 = .ok (.iadd, 1) := by decide +kernel
theorem dL_wins_411 : decode cL_wins 411 = .ok (.iload_n 1, 1) := by decide +kernel
theorem dL_wins_412 : decode cL_wins 412 = .ok (.if_icmp .gt 7, 3) := by decide +kernel
theorem dL_wins_415 : decode cL_wins 415 = .ok (.iconst 1, 1) := by decide +kernel
theorem dL_wins_416 : decode cL_wins 416 = .ok (.goto 4, 3) := by decide +kernel
theorem dL_wins_419 : decode cL_wins 419 = .ok (.iconst 0, 1) := by decide +kernel
theorem dL_wins_420 : decode cL_wins 420 = .ok (.istore 5, 2) := by decide +kernel
theorem dL_wins_422 : decode cL_wins 422 = .ok (.iinc 6 1, 3) := by decide +kernel
theorem dL_wins_425 : decode cL_wins 425 = .ok (.goto (-307), 3) := by decide +kernel
theorem dL_wins_428 : decode cL_wins 428 = .ok (.iload 5, 2) := by decide +kernel
theorem dL_wins_430 : decode cL_wins 430 = .ok (.ireturn, 1) := by decide +kernel
theorem dL_sets_0 : decode cL_sets 0 = .ok (.aload_n 0, 1) := by decide +kernel
theorem dL_sets_1 : decode cL_sets 1 = .ok (.iconst 0, 1) := by decide +kernel
theorem dL_sets_2 : decode cL_sets 2 = .ok (.invokevirtual 91, 3) := by decide +kernel
theorem dL_sets_5 : decode cL_sets 5 = .ok (.istore_n 2, 1) := by decide +kernel
theorem dL_sets_6 : decode cL_sets 6 = .ok (.iconst 1, 1) := by decide +kernel
theorem dL_sets_7 : decode cL_sets 7 = .ok (.iload_n 2, 1) := by decide +kernel
theorem dL_sets_8 : decode cL_sets 8 = .ok (.ishl, 1) := by decide +kernel
theorem dL_sets_9 : decode cL_sets 9 = .ok (.iconst 1, 1) := by decide +kernel
theorem dL_sets_10 : decode cL_sets 10 = .ok (.isub, 1) := by decide +kernel
theorem dL_sets_11 : decode cL_sets 11 = .ok (.istore_n 3, 1) := by decide +kernel
theorem dL_sets_12 : decode cL_sets 12 = .ok (.iconst 1, 1) := by decide +kernel
theorem dL_sets_13 : decode cL_sets 13 = .ok (.istore 4, 2) := by decide +kernel
theorem dL_sets_15 : decode cL_sets 15 = .ok (.iconst 0, 1) := by decide +kernel
theorem dL_sets_16 : decode cL_sets 16 = .ok (.istore 5, 2) := by decide +kernel
theorem dL_sets_18 : decode cL_sets 18 = .ok (.iload 5, 2) := by decide +kernel
theorem dL_sets_20 : decode cL_sets 20 = .ok (.iconst 2, 1) := by decide +kernel
theorem dL_sets_21 : decode cL_sets 21 = .ok (.if_icmp .ge 298, 3) := by decide +kernel
theorem dL_sets_24 : decode cL_sets 24 = .ok (.iload 4, 2) := by decide +kernel
theorem dL_sets_26 : decode cL_sets 26 = .ok (.ifCond .eq 293, 3) := by decide +kernel
theorem dL_sets_29 : decode cL_sets 29 = .ok (.aload_n 0, 1) := by decide +kernel
theorem dL_sets_30 : decode cL_sets 30 = .ok (.iload 5, 2) := by decide +kernel
theorem dL_sets_32 : decode cL_sets 32 = .ok (.iload_n 1, 1) := by decide +kernel
theorem dL_sets_33 : decode cL_sets 33 = .ok (.invokevirtual 83, 3) := by decide +kernel
theorem dL_sets_36 : decode cL_sets 36 = .ok (.istore 6, 2) := by decide +kernel
theorem dL_sets_38 : decode cL_sets 38 = .ok (.aload_n 0, 1) := by decide +kernel
theorem dL_sets_39 : decode cL_sets 39 = .ok (.iload 5, 2) := by decide +kernel
theorem dL_sets_41 : decode cL_sets 41 = .ok (.iload_n 1, 1) := by decide +kernel
theorem dL_sets_42 : decode cL_sets 42 = .ok (.invokevirtual 110, 3) := by decide +kernel
theorem dL_sets_45 : decode cL_sets 45 = .ok (.istore 7, 2) := by decide +kernel
theorem dL_sets_47 : decode cL_sets 47 = .ok (.aload_n 0, 1) := by decide +kernel
theorem dL_sets_48 : decode cL_sets 48 = .ok (.iload 5, 2) := by decide +kernel
theorem dL_sets_50 : decode cL_sets 50 = .ok (.iload_n 1, 1) := by decide +kernel
theorem dL_sets_51 : decode cL_sets 51 = .ok (.invokevirtual 131, 3) := by decide +kernel
theorem dL_sets_54 : decode cL_sets 54 = .ok (.istore 8, 2) := by decide +kernel
theorem dL_sets_56 : decode cL_sets 56 = .ok (.iload 6, 2) := by decide +kernel
theorem dL_sets_58 : decode cL_sets 58 = .ok (.iload_n 1, 1) := by decide +kernel
theorem dL_sets_59 : decode cL_sets 59 = .ok (.iand, 1) := by decide +kernel
theorem dL_sets_60 : decode cL_sets 60 = .ok (.iload_n 1, 1) := by decide +kernel
theorem dL_sets_61 : decode cL_sets 61 = .ok (.if_icmp .ne 118, 3) := by decide +kernel
theorem dL_sets_64 : decode cL_sets 64 = .ok (.aload_n 0, 1) := by decide +kernel
theorem dL_sets_65 : decode cL_sets 65 = .ok (.iload 5, 2) := by decide +kernel
theorem dL_sets_67 : decode cL_sets 67 = .ok (.iload 6, 2) := by decide +kernel
theorem dL_sets_69 : decode cL_sets 69 = .ok (.invokevirtual 83, 3) := by decide +kernel
theorem dL_sets_72 : decode cL_sets 72 = .ok (.iload 6, 2) := by decide +kernel
theorem dL_sets_74 : decode cL_sets 74 = .ok (.if_icmp .ne 105, 3) := by decide +kernel
theorem dL_sets_77 : decode cL_sets 77 = .ok (.iload 7, 2) := by decide +kernel
theorem dL_sets_79 : decode cL_sets 79 = .ok (.iload_n 1, 1) := by decide +kernel
theorem dL_sets_80 : decode cL_sets 80 = .ok (.iconst (-1), 1) := by decide +kernel
theorem dL_sets_81 : decode cL_sets 81 = .ok (.ixor, 1) := by decide +kernel
theorem dL_sets_82 : decode cL_sets 82 = .ok (.iand, 1) := by decide +kernel
theorem dL_sets_83 : decode cL_sets 83 = .ok (.ifCond .ne 96, 3) := by decide +kernel
theorem dL_sets_86 : decode cL_sets 86 = .ok (.aload_n 0, 1) := by decide +kernel
theorem dL_sets_87 : decode cL_sets 87 = .ok (.iload 5, 2) := by decide +kernel
theorem dL_sets_89 : decode cL_sets 89 = .ok (.iload 7, 2) := by decide +kernel
theorem dL_sets_91 : decode cL_sets 91 = .ok (.invokevirtual 110, 3) := by decide +kernel
theorem dL_sets_94 : decode cL_sets 94 = .ok (.iload 7, 2) := by decide +kernel
theorem dL_sets_96 : decode cL_sets 96 = .ok (.if_icmp .ne 83, 3) := by decide +kernel
theorem dL_sets_99 : decode cL_sets 99 = .ok (.iload 8, 2) := by decide +kernel
theorem dL_sets_101 : decode cL_sets 101 = .ok (.iload 6, 2) := by decide +kernel
theorem dL_sets_103 : decode cL_sets 103 = .ok (.iconst (-1), 1) := by decide +kernel
theorem dL_sets_104 : decode cL_sets 104 = .ok (.ixor, 1) := by decide +kernel
theorem dL_sets_105 : decode cL_sets 105 = .ok (.iand, 1) := by decide +kernel
theorem dL_sets_106 : decode cL_sets 106 = .ok (.ifCond .ne 73, 3) := by decide +kernel
theorem dL_sets_109 : decode cL_sets 109 = .ok (.aload_n 0, 1) := by decide +kernel
theorem dL_sets_110 : decode cL_sets 110 = .ok (.iload 5, 2) := by decide +kernel
theorem dL_sets_112 : decode cL_sets 112 = .ok (.iload_n 3, 1) := by decide +kernel
theorem dL_sets_113 : decode cL_sets 113 = .ok (.iload 6, 2) := by decide +kernel
theorem dL_sets_115 : decode cL_sets 115 = .ok (.iconst (-1), 1) := by decide +kernel
theorem dL_sets_116 : decode cL_sets 116 = .ok (.ixor, 1) := by decide +kernel
theorem dL_sets_117 : decode cL_sets 117 = .ok (.iand, 1) := by decide +kernel
theorem dL_sets_118 : decode cL_sets 118 = .ok (.invokevirtual 106, 3) := by decide +kernel
theorem dL_sets_121 : decode cL_sets 121 = .ok (.aload_n 0, 1) := by decide +kernel
theorem dL_sets_122 : decode cL_sets 122 = .ok (.iload 5, 2) := by decide +kernel
theorem dL_sets_124 : decode cL_sets 124 = .ok (.iload_n 3, 1) := by decide +kernel
theorem dL_sets_125 : decode cL_sets 125 = .ok (.iload 6, 2) := by decide +kernel
theorem dL_sets_127 : decode cL_sets 127 = .ok (.iconst (-1), 1) := by decide +kernel
theorem dL_sets_128 : decode cL_sets 128 = .ok (.ixor, 1) := by decide +kernel
theorem dL_sets_129 : decode cL_sets 129 = .ok (.iand, 1) := by decide +kernel
theorem dL_sets_130 : decode cL_sets 130 = .ok (.invokestatic 134, 3) := by decide +kernel
theorem dL_sets_133 : decode cL_sets 133 = .ok (.if_icmp .ne 46, 3) := by decide +kernel
theorem dL_sets_136 : decode cL_sets 136 = .ok (.aload_n 0, 1) := by decide +kernel
theorem dL_sets_137 : decode cL_sets 137 = .ok (.iconst 1, 1) := by decide +kernel
theorem dL_sets_138 : decode cL_sets 138 = .ok (.iload 5, 2) := by decide +kernel
theorem dL_sets_140 : decode cL_sets 140 = .ok (.isub, 1) := by decide +kernel
theorem dL_sets_141 : decode cL_sets 141 = .ok (.iload_n 3, 1) := by decide +kernel
theorem dL_sets_142 : decode cL_sets 142 = .ok (.iload_n 1, 1) := by decide +kernel
theorem dL_sets_143 : decode cL_sets 143 = .ok (.iconst (-1), 1) := by decide +kernel
theorem dL_sets_144 : decode cL_sets 144 = .ok (.ixor, 1) := by decide +kernel
theorem dL_sets_145 : decode cL_sets 145 = .ok (.iand, 1) := by decide +kernel
theorem dL_sets_146 : decode cL_sets 146 = .ok (.invokevirtual 110, 3) := by decide +kernel
theorem dL_sets_149 : decode cL_sets 149 = .ok (.iload 6, 2) := by decide +kernel
theorem dL_sets_151 : decode cL_sets 151 = .ok (.ior, 1) := by decide +kernel
theorem dL_sets_152 : decode cL_sets 152 = .ok (.iload_n 3, 1) := by decide +kernel
theorem dL_sets_153 : decode cL_sets 153 = .ok (.if_icmp .ne 26, 3) := by decide +kernel
theorem dL_sets_156 : decode cL_sets 156 = .ok (.aload_n 0, 1) := by decide +kernel
theorem dL_sets_157 : decode cL_sets 157 = .ok (.iconst 1, 1) := by decide +kernel
theorem dL_sets_158 : decode cL_sets 158 = .ok (.iload 5, 2) := by decide +kernel
theorem dL_sets_160 : decode cL_sets 160 = .ok (.isub, 1) := by decide +kernel
theorem dL_sets_161 : decode cL_sets 161 = .ok (.iload_n 3, 1) := by decide +kernel
theorem dL_sets_162 : decode cL_sets 162 = .ok (.iload_n 1, 1) := by decide +kernel
theorem dL_sets_163 : decode cL_sets 163 = .ok (.iconst (-1), 1) := by decide +kernel
theorem dL_sets_164 : decode cL_sets 164 = .ok (.ixor, 1) := by decide +kernel
theorem dL_sets_165 : decode cL_sets 165 = .ok (.iand, 1) := by decide +kernel
theorem dL_sets_166 : decode cL_sets 166 = .ok (.invokevirtual 110, 3) := by decide +kernel
theorem dL_sets_169 : decode cL_sets 169 = .ok (.iload 6, 2) := by decide +kernel
theorem dL_sets_171 : decode cL_sets 171 = .ok (.iand, 1) := by decide +kernel
theorem dL_sets_172 : decode cL_sets 172 = .ok (.ifCond .ne 7, 3) := by decide +kernel
theorem dL_sets_175 : decode cL_sets 175 = .ok (.iconst 1, 1) := by decide +kernel
theorem dL_sets_176 : decode cL_sets 176 = .ok (.goto 4, 3) := by decide +kernel
theorem dL_sets_179 : decode cL_sets 179 = .ok (.iconst 0, 1) := by decide +kernel
theorem dL_sets_180 : decode cL_sets 180 = .ok (.istore 4, 2) := by decide +kernel
theorem dL_sets_182 : decode cL_sets 182 = .ok (.iload 4, 2) := by decide +kernel
theorem dL_sets_184 : decode cL_sets 184 = .ok (.ifCond .eq 25, 3) := by decide +kernel
theorem dL_sets_187 : decode cL_sets 187 = .ok (.aload_n 0, 1) := by decide +kernel
theorem dL_sets_188 : decode cL_sets 188 = .ok (.iload 5, 2) := by decide +kernel
theorem dL_sets_190 : decode cL_sets 190 = .ok (.iload_n 3, 1) := by decide +kernel
theorem dL_sets_191 : decode cL_sets 191 = .ok (.invokevirtual 131, 3) := by decide +kernel
theorem dL_sets_194 : decode cL_sets 194 = .ok (.aload_n 0, 1) := by decide +kernel
theorem dL_sets_195 : decode cL_sets 195 = .ok (.iload 5, 2) := by decide +kernel
theorem dL_sets_197 : decode cL_sets 197 = .ok (.invokestatic 138, 3) := by decide +kernel
theorem dL_sets_200 : decode cL_sets 200 = .ok (.ior, 1) := by decide +kernel
theorem dL_sets_201 : decode cL_sets 201 = .ok (.iload_n 3, 1) := by decide +kernel
theorem dL_sets_202 : decode cL_sets 202 = .ok (.if_icmp .ne 7, 3) := by decide +kernel
theorem dL_sets_205 : decode cL_sets 205 = .ok (.iconst 1, 1) := by decide +kernel
theorem dL_sets_206 : decode cL_sets 206 = .ok (.goto 4, 3) := by decide +kernel
theorem dL_sets_209 : decode cL_sets 209 = .ok (.iconst 0, 1) := by decide +kernel
theorem dL_sets_210 : decode cL_sets 210 = .ok (.istore 4, 2) := by decide +kernel
theorem dL_sets_212 : decode cL_sets 212 = .ok (.iconst 0, 1) := by decide +kernel
theorem dL_sets_213 : decode cL_sets 213 = .ok (.istore 9, 2) := by decide +kernel
theorem dL_sets_215 : decode cL_sets 215 = .ok (.iload 9, 2) := by decide +kernel
theorem dL_sets_217 : decode cL_sets 217 = .ok (.iload_n 2, 1) := by decide +kernel
theorem dL_sets_218 : decode cL_sets 218 = .ok (.if_icmp .ge 95, 3) := by decide +kernel
theorem dL_sets_221 : decode cL_sets 221 = .ok (.iload 4, 2) := by decide +kernel
theorem dL_sets_223 : decode cL_sets 223 = .ok (.ifCond .eq 90, 3) := by decide +kernel
theorem dL_sets_226 : decode cL_sets 226 = .ok (.aload_n 0, 1) := by decide +kernel
theorem dL_sets_227 : decode cL_sets 227 = .ok (.iload 9, 2) := by decide +kernel
theorem dL_sets_229 : decode cL_sets 229 = .ok (.iload 5, 2) := by decide +kernel
theorem dL_sets_231 : decode cL_sets 231 = .ok (.iload_n 1, 1) := by decide +kernel
theorem dL_sets_232 : decode cL_sets 232 = .ok (.invokevirtual 142, 3) := by decide +kernel
theorem dL_sets_235 : decode cL_sets 235 = .ok (.istore 10, 2) := by decide +kernel
theorem dL_sets_237 : decode cL_sets 237 = .ok (.iload 10, 2) := by decide +kernel
theorem dL_sets_239 : decode cL_sets 239 = .ok (.ifCond .lt 7, 3) := by decide +kernel
theorem dL_sets_242 : decode cL_sets 242 = .ok (.iconst 1, 1) := by decide +kernel
theorem dL_sets_243 : decode cL_sets 243 = .ok (.goto 4, 3) := by decide +kernel
theorem dL_sets_246 : decode cL_sets 246 = .ok (.iconst 0, 1) := by decide +kernel
theorem dL_sets_247 : decode cL_sets 247 = .ok (.iload 6, 2) := by decide +kernel
theorem dL_sets_249 : decode cL_sets 249 = .ok (.iload 9, 2) := by decide +kernel
theorem dL_sets_251 : decode cL_sets 251 = .ok (.ishr, 1) := by decide +kernel
theorem dL_sets_252 : decode cL_sets 252 = .ok (.iconst 1, 1) := by decide +kernel
theorem dL_sets_253 : decode cL_sets 253 = .ok (.iand, 1) := by decide +kernel
theorem dL_sets_254 : decode cL_sets 254 = .ok (.iconst 1, 1) := by decide +kernel
theorem dL_sets_255 : decode cL_sets 255 = .ok (.if_icmp .ne 7, 3) := by decide +kernel
theorem dL_sets_258 : decode cL_sets 258 = .ok (.iconst 1, 1) := by decide +kernel
theorem dL_sets_259 : decode cL_sets 259 = .ok (.goto 4, 3) := by decide +kernel
theorem dL_sets_262 : decode cL_sets 262 = .ok (.iconst 0, 1) := by decide +kernel
theorem dL_sets_263 : decode cL_sets 263 = .ok (.if_icmp .ne 41, 3) := by decide +kernel
theorem dL_sets_266 : decode cL_sets 266 = .ok (.iload 10, 2) := by decide +kernel
theorem dL_sets_268 : decode cL_sets 268 = .ok (.iload_n 2, 1) := by decide +kernel
theorem dL_sets_269 : decode cL_sets 269 = .ok (.if_icmp .ge 35, 3) := by decide +kernel
theorem dL_sets_272 : decode cL_sets 272 = .ok (.iload 10, 2) := by decide +kernel
theorem dL_sets_274 : decode cL_sets 274 = .ok (.ifCond .ne 7, 3) := by decide +kernel
theorem dL_sets_277 : decode cL_sets 277 = .ok (.iconst 1, 1) := by decide +kernel
theorem dL_sets_278 : decode cL_sets 278 = .ok (.goto 4, 3) := by decide +kernel
theorem dL_sets_281 : decode cL_sets 281 = .ok (.iconst 0, 1) := by decide +kernel
theorem dL_sets_282 : decode cL_sets 282 = .ok (.iload_n 1, 1) := by decide +kernel
theorem dL_sets_283 : decode cL_sets 283 = .ok (.iload 9, 2) := by decide +kernel
theorem dL_sets_285 : decode cL_sets 285 = .ok (.ishr, 1) := by decide +kernel
theorem dL_sets_286 : decode cL_sets 286 = .ok (.iconst 1, 1) := by decide +kernel
theorem dL_sets_287 : decode cL_sets 287 = .ok (.iand, 1) := by decide +kernel
theorem dL_sets_288 : decode cL_sets 288 = .ok (.iconst 1, 1) := by decide +kernel
theorem dL_sets_289 : decode cL_sets 289 = .ok (.if_icmp .ne 7, 3) := by decide +kernel
theorem dL_sets_292 : decode cL_sets 292 = .ok (.iconst 1, 1) := by decide +kernel
theorem dL_sets_293 : decode cL_sets 293 = .ok (.goto 4, 3) := by decide +kernel
theorem dL_sets_296 : decode cL_sets 296 = .ok (.iconst 0, 1) := by decide +kernel
theorem dL_sets_297 : decode cL_sets 297 = .ok (.if_icmp .ne 7, 3) := by decide +kernel
theorem dL_sets_300 : decode cL_sets 300 = .ok (.iconst 1, 1) := by decide +kernel
theorem dL_sets_301 : decode cL_sets 301 = .ok (.goto 4, 3) := by decide +kernel
theorem dL_sets_304 : decode cL_sets 304 = .ok (.iconst 0, 1) := by decide +kernel
theorem dL_sets_305 : decode cL_sets 305 = .ok (.istore 4, 2) := by decide +kernel
theorem dL_sets_307 : decode cL_sets 307 = .ok (.iinc 9 1, 3) := by decide +kernel
theorem dL_sets_310 : decode cL_sets 310 = .ok (.goto (-95), 3) := by decide +kernel
theorem dL_sets_313 : decode cL_sets 313 = .ok (.iinc 5 1, 3) := by decide +kernel
theorem dL_sets_316 : decode cL_sets 316 = .ok (.goto (-298), 3) := by decide +kernel
theorem dL_sets_319 : decode cL_sets 319 = .ok (.iload 4, 2) := by decide +kernel
theorem dL_sets_321 : decode cL_sets 321 = .ok (.ireturn, 1) := by decide +kernel
theorem dL_allMoves_0 : decode cL_allMoves 0 = .ok (.iconst 1, 1) := by decide +kernel
theorem dL_allMoves_1 : decode cL_allMoves 1 = .ok (.istore_n 3, 1) := by decide +kernel
theorem dL_allMoves_2 : decode cL_allMoves 2 = .ok (.iconst 0, 1) := by decide +kernel
theorem dL_allMoves_3 : decode cL_allMoves 3 = .ok (.istore 4, 2) := by decide +kernel
theorem dL_allMoves_5 : decode cL_allMoves 5 = .ok (.iload 4, 2) := by decide +kernel
theorem dL_allMoves_7 : decode cL_allMoves 7 = .ok (.aload_n 0, 1) := by decide +kernel
theorem dL_allMoves_8 : decode cL_allMoves 8 = .ok (.iconst 0, 1) := by decide +kernel
theorem dL_allMoves_9 : decode cL_allMoves 9 = .ok (.invokevirtual 91, 3) := by decide +kernel
theorem dL_allMoves_12 : decode cL_allMoves 12 = .ok (.if_icmp .ge 49, 3) := by decide +kernel
theorem dL_allMoves_15 : decode cL_allMoves 15 = .ok (.iload_n 3, 1) := by decide +kernel
theorem dL_allMoves_16 : decode cL_allMoves 16 = .ok (.ifCond .eq 37, 3) := by decide +kernel
theorem dL_allMoves_19 : decode cL_allMoves 19 = .ok (.iload_n 2, 1) := by decide +kernel
theorem dL_allMoves_20 : decode cL_allMoves 20 = .ok (.iload 4, 2) := by decide +kernel
theorem dL_allMoves_22 : decode cL_allMoves 22 = .ok (.ishr, 1) := by decide +kernel
theorem dL_allMoves_23 : decode cL_allMoves 23 = .ok (.iconst 1, 1) := by decide +kernel
theorem dL_allMoves_24 : decode cL_allMoves 24 = .ok (.iand, 1) := by decide +kernel
theorem dL_allMoves_25 : decode cL_allMoves 25 = .ok (.ifCond .eq 24, 3) := by decide +kernel
theorem dL_allMoves_28 : decode cL_allMoves 28 = .ok (.aload_n 0, 1) := by decide +kernel
theorem dL_allMoves_29 : decode cL_allMoves 29 = .ok (.iload 4, 2) := by decide +kernel
theorem dL_allMoves_31 : decode cL_allMoves 31 = .ok (.iconst 0, 1) := by decide +kernel
theorem dL_allMoves_32 : decode cL_allMoves 32 = .ok (.invokevirtual 94, 3) := by decide +kernel
theorem dL_allMoves_35 : decode cL_allMoves 35 = .ok (.iload_n 1, 1) := by decide +kernel
theorem dL_allMoves_36 : decode cL_allMoves 36 = .ok (.if_icmp .eq 13, 3) := by decide +kernel
theorem dL_allMoves_39 : decode cL_allMoves 39 = .ok (.aload_n 0, 1) := by decide +kernel
theorem dL_allMoves_40 : decode cL_allMoves 40 = .ok (.iload 4, 2) := by decide +kernel
theorem dL_allMoves_42 : decode cL_allMoves 42 = .ok (.iconst 2, 1) := by decide +kernel
theorem dL_allMoves_43 : decode cL_allMoves 43 = .ok (.invokevirtual 94, 3) := by decide +kernel
theorem dL_allMoves_46 : decode cL_allMoves 46 = .ok (.ifCond .le 7, 3) := by decide +kernel
theorem dL_allMoves_49 : decode cL_allMoves 49 = .ok (.iconst 1, 1) := by decide +kernel
theorem dL_allMoves_50 : decode cL_allMoves 50 = .ok (.goto 4, 3) := by decide +kernel
theorem dL_allMoves_53 : decode cL_allMoves 53 = .ok (.iconst 0, 1) := by decide +kernel
theorem dL_allMoves_54 : decode cL_allMoves 54 = .ok (.istore_n 3, 1) := by decide +kernel
theorem dL_allMoves_55 : decode cL_allMoves 55 = .ok (.iinc 4 1, 3) := by decide +kernel
theorem dL_allMoves_58 : decode cL_allMoves 58 = .ok (.goto (-53), 3) := by decide +kernel
theorem dL_allMoves_61 : decode cL_allMoves 61 = .ok (.iload_n 3, 1) := by decide +kernel
theorem dL_allMoves_62 : decode cL_allMoves 62 = .ok (.ireturn, 1) := by decide +kernel
theorem dL_dead_0 : decode cL_dead 0 = .ok (.iconst 0, 1) := by decide +kernel
theorem dL_dead_1 : decode cL_dead 1 = .ok (.istore_n 2, 1) := by decide +kernel
theorem dL_dead_2 : decode cL_dead 2 = .ok (.iconst 0, 1) := by decide +kernel
theorem dL_dead_3 : decode cL_dead 3 = .ok (.istore_n 3, 1) := by decide +kernel
theorem dL_dead_4 : decode cL_dead 4 = .ok (.iload_n 3, 1) := by decide +kernel
theorem dL_dead_5 : decode cL_dead 5 = .ok (.aload_n 0, 1) := by decide +kernel
theorem dL_dead_6 : decode cL_dead 6 = .ok (.iconst 0, 1) := by decide +kernel
theorem dL_dead_7 : decode cL_dead 7 = .ok (.invokevirtual 91, 3) := by decide +kernel
theorem dL_dead_10 : decode cL_dead 10 = .ok (.if_icmp .ge 28, 3) := by decide +kernel
theorem dL_dead_13 : decode cL_dead 13 = .ok (.iload_n 2, 1) := by decide +kernel
theorem dL_dead_14 : decode cL_dead 14 = .ok (.aload_n 0, 1) := by decide +kernel
theorem dL_dead_15 : decode cL_dead 15 = .ok (.iload_n 3, 1) := by decide +kernel
theorem dL_dead_16 : decode cL_dead 16 = .ok (.iconst 2, 1) := by decide +kernel
theorem dL_dead_17 : decode cL_dead 17 = .ok (.invokevirtual 94, 3) := by decide +kernel
theorem dL_dead_20 : decode cL_dead 20 = .ok (.ifCond .ne 9, 3) := by decide +kernel
theorem dL_dead_23 : decode cL_dead 23 = .ok (.iconst 1, 1) := by decide +kernel
theorem dL_dead_24 : decode cL_dead 24 = .ok (.iload_n 3, 1) := by decide +kernel
theorem dL_dead_25 : decode cL_dead 25 = .ok (.ishl, 1) := by decide +kernel
theorem dL_dead_26 : decode cL_dead 26 = .ok (.goto 4, 3) := by decide +kernel
theorem dL_dead_29 : decode cL_dead 29 = .ok (.iconst 0, 1) := by decide +kernel
theorem dL_dead_30 : decode cL_dead 30 = .ok (.ior, 1) := by decide +kernel
theorem dL_dead_31 : decode cL_dead 31 = .ok (.istore_n 2, 1) := by decide +kernel
theorem dL_dead_32 : decode cL_dead 32 = .ok (.iinc 3 1, 3) := by decide +kernel
theorem dL_dead_35 : decode cL_dead 35 = .ok (.goto (-31), 3) := by decide +kernel
theorem dL_dead_38 : decode cL_dead 38 = .ok (.aload_n 0, 1) := by decide +kernel
theorem dL_dead_39 : decode cL_dead 39 = .ok (.iconst 1, 1) := by decide +kernel
theorem dL_dead_40 : decode cL_dead 40 = .ok (.iload_n 1, 1) := by decide +kernel
theorem dL_dead_41 : decode cL_dead 41 = .ok (.isub, 1) := by decide +kernel
theorem dL_dead_42 : decode cL_dead 42 = .ok (.iload_n 2, 1) := by decide +kernel
theorem dL_dead_43 : decode cL_dead 43 = .ok (.invokevirtual 83, 3) := by decide +kernel
theorem dL_dead_46 : decode cL_dead 46 = .ok (.ireturn, 1) := by decide +kernel
theorem dL_act_0 : decode cL_act 0 = .ok (.aload_n 0, 1) := by decide +kernel
theorem dL_act_1 : decode cL_act 1 = .ok (.iconst 0, 1) := by decide +kernel
theorem dL_act_2 : decode cL_act 2 = .ok (.invokevirtual 91, 3) := by decide +kernel
theorem dL_act_5 : decode cL_act 5 = .ok (.istore_n 2, 1) := by decide +kernel
theorem dL_act_6 : decode cL_act 6 = .ok (.aload_n 1, 1) := by decide +kernel
theorem dL_act_7 : decode cL_act 7 = .ok (.invokestatic 57, 3) := by decide +kernel
theorem dL_act_10 : decode cL_act 10 = .ok (.iload_n 2, 1) := by decide +kernel
theorem dL_act_11 : decode cL_act 11 = .ok (.irem, 1) := by decide +kernel
theorem dL_act_12 : decode cL_act 12 = .ok (.istore_n 3, 1) := by decide +kernel
theorem dL_act_13 : decode cL_act 13 = .ok (.aload_n 0, 1) := by decide +kernel
theorem dL_act_14 : decode cL_act 14 = .ok (.iconst 1, 1) := by decide +kernel
theorem dL_act_15 : decode cL_act 15 = .ok (.invokevirtual 91, 3) := by decide +kernel
theorem dL_act_18 : decode cL_act 18 = .ok (.istore 4, 2) := by decide +kernel
theorem dL_act_20 : decode cL_act 20 = .ok (.aload_n 1, 1) := by decide +kernel
theorem dL_act_21 : decode cL_act 21 = .ok (.invokestatic 57, 3) := by decide +kernel
theorem dL_act_24 : decode cL_act 24 = .ok (.bipush 8, 2) := by decide +kernel
theorem dL_act_26 : decode cL_act 26 = .ok (.irem, 1) := by decide +kernel
theorem dL_act_27 : decode cL_act 27 = .ok (.tableswitch 548 0 6 #[41, 85, 125, 196, 273, 375, 451], 41) := by decide +kernel
theorem dL_act_68 : decode cL_act 68 = .ok (.aload_n 1, 1) := by decide +kernel
theorem dL_act_69 : decode cL_act 69 = .ok (.invokestatic 57, 3) := by decide +kernel
theorem dL_act_72 : decode cL_act 72 = .ok (.bipush 10, 2) := by decide +kernel
theorem dL_act_74 : decode cL_act 74 = .ok (.irem, 1) := by decide +kernel
theorem dL_act_75 : decode cL_act 75 = .ok (.istore 5, 2) := by decide +kernel
theorem dL_act_77 : decode cL_act 77 = .ok (.aload_n 0, 1) := by decide +kernel
