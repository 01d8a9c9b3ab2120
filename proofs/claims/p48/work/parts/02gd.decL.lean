theorem dL_act_78 : decode cL_act 78 = .ok (.iload_n 3, 1) := by decide +kernel
theorem dL_act_79 : decode cL_act 79 = .ok (.iload 5, 2) := by decide +kernel
theorem dL_act_81 : decode cL_act 81 = .ok (.invokevirtual 146, 3) := by decide +kernel
theorem dL_act_84 : decode cL_act 84 = .ok (.istore 6, 2) := by decide +kernel
theorem dL_act_86 : decode cL_act 86 = .ok (.aload_n 0, 1) := by decide +kernel
theorem dL_act_87 : decode cL_act 87 = .ok (.iload_n 3, 1) := by decide +kernel
theorem dL_act_88 : decode cL_act 88 = .ok (.iload 5, 2) := by decide +kernel
theorem dL_act_90 : decode cL_act 90 = .ok (.invokevirtual 86, 3) := by decide +kernel
theorem dL_act_93 : decode cL_act 93 = .ok (.ifCond .lt 17, 3) := by decide +kernel
theorem dL_act_96 : decode cL_act 96 = .ok (.aload_n 0, 1) := by decide +kernel
theorem dL_act_97 : decode cL_act 97 = .ok (.iconst 0, 1) := by decide +kernel
theorem dL_act_98 : decode cL_act 98 = .ok (.invokevirtual 103, 3) := by decide +kernel
theorem dL_act_101 : decode cL_act 101 = .ok (.iload 6, 2) := by decide +kernel
theorem dL_act_103 : decode cL_act 103 = .ok (.if_icmp .ne 7, 3) := by decide +kernel
theorem dL_act_106 : decode cL_act 106 = .ok (.iconst 1, 1) := by decide +kernel
theorem dL_act_107 : decode cL_act 107 = .ok (.goto 4, 3) := by decide +kernel
theorem dL_act_110 : decode cL_act 110 = .ok (.iconst 0, 1) := by decide +kernel
theorem dL_act_111 : decode cL_act 111 = .ok (.ireturn, 1) := by decide +kernel
theorem dL_act_112 : decode cL_act 112 = .ok (.aload_n 0, 1) := by decide +kernel
theorem dL_act_113 : decode cL_act 113 = .ok (.iload_n 3, 1) := by decide +kernel
theorem dL_act_114 : decode cL_act 114 = .ok (.invokevirtual 149, 3) := by decide +kernel
theorem dL_act_117 : decode cL_act 117 = .ok (.istore 7, 2) := by decide +kernel
theorem dL_act_119 : decode cL_act 119 = .ok (.aload_n 0, 1) := by decide +kernel
theorem dL_act_120 : decode cL_act 120 = .ok (.iload_n 3, 1) := by decide +kernel
theorem dL_act_121 : decode cL_act 121 = .ok (.iconst 1, 1) := by decide +kernel
theorem dL_act_122 : decode cL_act 122 = .ok (.aload_n 0, 1) := by decide +kernel
theorem dL_act_123 : decode cL_act 123 = .ok (.iload_n 3, 1) := by decide +kernel
theorem dL_act_124 : decode cL_act 124 = .ok (.iconst 0, 1) := by decide +kernel
theorem dL_act_125 : decode cL_act 125 = .ok (.invokevirtual 94, 3) := by decide +kernel
theorem dL_act_128 : decode cL_act 128 = .ok (.isub, 1) := by decide +kernel
theorem dL_act_129 : decode cL_act 129 = .ok (.invokevirtual 152, 3) := by decide +kernel
theorem dL_act_132 : decode cL_act 132 = .ok (.iconst 2, 1) := by decide +kernel
theorem dL_act_133 : decode cL_act 133 = .ok (.if_icmp .ge 17, 3) := by decide +kernel
theorem dL_act_136 : decode cL_act 136 = .ok (.aload_n 0, 1) := by decide +kernel
theorem dL_act_137 : decode cL_act 137 = .ok (.iconst 0, 1) := by decide +kernel
theorem dL_act_138 : decode cL_act 138 = .ok (.invokevirtual 103, 3) := by decide +kernel
theorem dL_act_141 : decode cL_act 141 = .ok (.iload 7, 2) := by decide +kernel
theorem dL_act_143 : decode cL_act 143 = .ok (.if_icmp .ne 7, 3) := by decide +kernel
theorem dL_act_146 : decode cL_act 146 = .ok (.iconst 1, 1) := by decide +kernel
theorem dL_act_147 : decode cL_act 147 = .ok (.goto 4, 3) := by decide +kernel
theorem dL_act_150 : decode cL_act 150 = .ok (.iconst 0, 1) := by decide +kernel
theorem dL_act_151 : decode cL_act 151 = .ok (.ireturn, 1) := by decide +kernel
theorem dL_act_152 : decode cL_act 152 = .ok (.iload 4, 2) := by decide +kernel
theorem dL_act_154 : decode cL_act 154 = .ok (.ifCond .ne 23, 3) := by decide +kernel
theorem dL_act_157 : decode cL_act 157 = .ok (.aload_n 0, 1) := by decide +kernel
theorem dL_act_158 : decode cL_act 158 = .ok (.iload_n 3, 1) := by decide +kernel
theorem dL_act_159 : decode cL_act 159 = .ok (.invokevirtual 155, 3) := by decide +kernel
theorem dL_act_162 : decode cL_act 162 = .ok (.aload_n 0, 1) := by decide +kernel
theorem dL_act_163 : decode cL_act 163 = .ok (.iload_n 3, 1) := by decide +kernel
theorem dL_act_164 : decode cL_act 164 = .ok (.iconst 4, 1) := by decide +kernel
theorem dL_act_165 : decode cL_act 165 = .ok (.invokevirtual 94, 3) := by decide +kernel
theorem dL_act_168 : decode cL_act 168 = .ok (.if_icmp .ne 7, 3) := by decide +kernel
theorem dL_act_171 : decode cL_act 171 = .ok (.iconst 1, 1) := by decide +kernel
theorem dL_act_172 : decode cL_act 172 = .ok (.goto 4, 3) := by decide +kernel
theorem dL_act_175 : decode cL_act 175 = .ok (.iconst 0, 1) := by decide +kernel
theorem dL_act_176 : decode cL_act 176 = .ok (.ireturn, 1) := by decide +kernel
theorem dL_act_177 : decode cL_act 177 = .ok (.aload_n 1, 1) := by decide +kernel
theorem dL_act_178 : decode cL_act 178 = .ok (.invokestatic 57, 3) := by decide +kernel
theorem dL_act_181 : decode cL_act 181 = .ok (.iload 4, 2) := by decide +kernel
theorem dL_act_183 : decode cL_act 183 = .ok (.irem, 1) := by decide +kernel
theorem dL_act_184 : decode cL_act 184 = .ok (.istore 8, 2) := by decide +kernel
theorem dL_act_186 : decode cL_act 186 = .ok (.aload_n 0, 1) := by decide +kernel
theorem dL_act_187 : decode cL_act 187 = .ok (.iload 8, 2) := by decide +kernel
theorem dL_act_189 : decode cL_act 189 = .ok (.invokevirtual 158, 3) := by decide +kernel
theorem dL_act_192 : decode cL_act 192 = .ok (.istore 9, 2) := by decide +kernel
theorem dL_act_194 : decode cL_act 194 = .ok (.aload_n 0, 1) := by decide +kernel
theorem dL_act_195 : decode cL_act 195 = .ok (.iload 8, 2) := by decide +kernel
theorem dL_act_197 : decode cL_act 197 = .ok (.invokevirtual 161, 3) := by decide +kernel
theorem dL_act_200 : decode cL_act 200 = .ok (.iload 4, 2) := by decide +kernel
theorem dL_act_202 : decode cL_act 202 = .ok (.iconst 1, 1) := by decide +kernel
theorem dL_act_203 : decode cL_act 203 = .ok (.isub, 1) := by decide +kernel
theorem dL_act_204 : decode cL_act 204 = .ok (.if_icmp .ne 17, 3) := by decide +kernel
theorem dL_act_207 : decode cL_act 207 = .ok (.aload_n 0, 1) := by decide +kernel
theorem dL_act_208 : decode cL_act 208 = .ok (.iconst 0, 1) := by decide +kernel
theorem dL_act_209 : decode cL_act 209 = .ok (.invokevirtual 103, 3) := by decide +kernel
theorem dL_act_212 : decode cL_act 212 = .ok (.iload 9, 2) := by decide +kernel
theorem dL_act_214 : decode cL_act 214 = .ok (.if_icmp .ne 7, 3) := by decide +kernel
theorem dL_act_217 : decode cL_act 217 = .ok (.iconst 1, 1) := by decide +kernel
theorem dL_act_218 : decode cL_act 218 = .ok (.goto 4, 3) := by decide +kernel
theorem dL_act_221 : decode cL_act 221 = .ok (.iconst 0, 1) := by decide +kernel
theorem dL_act_222 : decode cL_act 222 = .ok (.ireturn, 1) := by decide +kernel
theorem dL_act_223 : decode cL_act 223 = .ok (.aload_n 1, 1) := by decide +kernel
theorem dL_act_224 : decode cL_act 224 = .ok (.invokestatic 57, 3) := by decide +kernel
theorem dL_act_227 : decode cL_act 227 = .ok (.iload_n 2, 1) := by decide +kernel
theorem dL_act_228 : decode cL_act 228 = .ok (.irem, 1) := by decide +kernel
theorem dL_act_229 : decode cL_act 229 = .ok (.istore 10, 2) := by decide +kernel
theorem dL_act_231 : decode cL_act 231 = .ok (.aload_n 0, 1) := by decide +kernel
theorem dL_act_232 : decode cL_act 232 = .ok (.iload_n 3, 1) := by decide +kernel
theorem dL_act_233 : decode cL_act 233 = .ok (.iload 10, 2) := by decide +kernel
theorem dL_act_235 : decode cL_act 235 = .ok (.invokevirtual 164, 3) := by decide +kernel
theorem dL_act_238 : decode cL_act 238 = .ok (.istore 11, 2) := by decide +kernel
theorem dL_act_240 : decode cL_act 240 = .ok (.aload_n 0, 1) := by decide +kernel
theorem dL_act_241 : decode cL_act 241 = .ok (.iload_n 3, 1) := by decide +kernel
theorem dL_act_242 : decode cL_act 242 = .ok (.iload 10, 2) := by decide +kernel
theorem dL_act_244 : decode cL_act 244 = .ok (.invokevirtual 167, 3) := by decide +kernel
theorem dL_act_247 : decode cL_act 247 = .ok (.istore 12, 2) := by decide +kernel
theorem dL_act_249 : decode cL_act 249 = .ok (.aload_n 0, 1) := by decide +kernel
theorem dL_act_250 : decode cL_act 250 = .ok (.iload_n 3, 1) := by decide +kernel
theorem dL_act_251 : decode cL_act 251 = .ok (.iload 10, 2) := by decide +kernel
theorem dL_act_253 : decode cL_act 253 = .ok (.invokestatic 170, 3) := by decide +kernel
theorem dL_act_256 : decode cL_act 256 = .ok (.iload 11, 2) := by decide +kernel
theorem dL_act_258 : decode cL_act 258 = .ok (.ifCond .ge 8, 3) := by decide +kernel
theorem dL_act_261 : decode cL_act 261 = .ok (.iload 4, 2) := by decide +kernel
theorem dL_act_263 : decode cL_act 263 = .ok (.goto 5, 3) := by decide +kernel
theorem dL_act_266 : decode cL_act 266 = .ok (.bipush (-2), 2) := by decide +kernel
theorem dL_act_268 : decode cL_act 268 = .ok (.if_icmp .ne 30, 3) := by decide +kernel
theorem dL_act_271 : decode cL_act 271 = .ok (.iload 11, 2) := by decide +kernel
theorem dL_act_273 : decode cL_act 273 = .ok (.ifCond .lt 11, 3) := by decide +kernel
theorem dL_act_276 : decode cL_act 276 = .ok (.aload_n 0, 1) := by decide +kernel
theorem dL_act_277 : decode cL_act 277 = .ok (.iload_n 3, 1) := by decide +kernel
theorem dL_act_278 : decode cL_act 278 = .ok (.invokevirtual 155, 3) := by decide +kernel
theorem dL_act_281 : decode cL_act 281 = .ok (.ifCond .lt 17, 3) := by decide +kernel
theorem dL_act_284 : decode cL_act 284 = .ok (.aload_n 0, 1) := by decide +kernel
theorem dL_act_285 : decode cL_act 285 = .ok (.iconst 0, 1) := by decide +kernel
theorem dL_act_286 : decode cL_act 286 = .ok (.invokevirtual 103, 3) := by decide +kernel
theorem dL_act_289 : decode cL_act 289 = .ok (.iload 12, 2) := by decide +kernel
theorem dL_act_291 : decode cL_act 291 = .ok (.if_icmp .ne 7, 3) := by decide +kernel
theorem dL_act_294 : decode cL_act 294 = .ok (.iconst 1, 1) := by decide +kernel
theorem dL_act_295 : decode cL_act 295 = .ok (.goto 4, 3) := by decide +kernel
theorem dL_act_298 : decode cL_act 298 = .ok (.iconst 0, 1) := by decide +kernel
theorem dL_act_299 : decode cL_act 299 = .ok (.ireturn, 1) := by decide +kernel
theorem dL_act_300 : decode cL_act 300 = .ok (.iconst 1, 1) := by decide +kernel
theorem dL_act_301 : decode cL_act 301 = .ok (.aload_n 1, 1) := by decide +kernel
theorem dL_act_302 : decode cL_act 302 = .ok (.invokestatic 57, 3) := by decide +kernel
theorem dL_act_305 : decode cL_act 305 = .ok (.bipush 9, 2) := by decide +kernel
theorem dL_act_307 : decode cL_act 307 = .ok (.irem, 1) := by decide +kernel
theorem dL_act_308 : decode cL_act 308 = .ok (.iadd, 1) := by decide +kernel
theorem dL_act_309 : decode cL_act 309 = .ok (.istore 13, 2) := by decide +kernel
theorem dL_act_311 : decode cL_act 311 = .ok (.aload_n 0, 1) := by decide +kernel
theorem dL_act_312 : decode cL_act 312 = .ok (.aload_n 0, 1) := by decide +kernel
theorem dL_act_313 : decode cL_act 313 = .ok (.bipush 6, 2) := by decide +kernel
theorem dL_act_315 : decode cL_act 315 = .ok (.invokevirtual 91, 3) := by decide +kernel
theorem dL_act_318 : decode cL_act 318 = .ok (.iload 13, 2) := by decide +kernel
theorem dL_act_320 : decode cL_act 320 = .ok (.invokevirtual 128, 3) := by decide +kernel
theorem dL_act_323 : decode cL_act 323 = .ok (.istore 14, 2) := by decide +kernel
theorem dL_act_325 : decode cL_act 325 = .ok (.aload_n 0, 1) := by decide +kernel
theorem dL_act_326 : decode cL_act 326 = .ok (.bipush 7, 2) := by decide +kernel
theorem dL_act_328 : decode cL_act 328 = .ok (.invokevirtual 91, 3) := by decide +kernel
theorem dL_act_331 : decode cL_act 331 = .ok (.istore 15, 2) := by decide +kernel
theorem dL_act_333 : decode cL_act 333 = .ok (.aload_n 0, 1) := by decide +kernel
theorem dL_act_334 : decode cL_act 334 = .ok (.iload 13, 2) := by decide +kernel
theorem dL_act_336 : decode cL_act 336 = .ok (.invokevirtual 174, 3) := by decide +kernel
theorem dL_act_339 : decode cL_act 339 = .ok (.istore 16, 2) := by decide +kernel
theorem dL_act_341 : decode cL_act 341 = .ok (.iload 14, 2) := by decide +kernel
theorem dL_act_343 : decode cL_act 343 = .ok (.ifCond .lt 7, 3) := by decide +kernel
theorem dL_act_346 : decode cL_act 346 = .ok (.iconst 1, 1) := by decide +kernel
theorem dL_act_347 : decode cL_act 347 = .ok (.goto 4, 3) := by decide +kernel
theorem dL_act_350 : decode cL_act 350 = .ok (.iconst 0, 1) := by decide +kernel
theorem dL_act_351 : decode cL_act 351 = .ok (.iload 16, 2) := by decide +kernel
theorem dL_act_353 : decode cL_act 353 = .ok (.iload 13, 2) := by decide +kernel
theorem dL_act_355 : decode cL_act 355 = .ok (.if_icmp .ne 7, 3) := by decide +kernel
theorem dL_act_358 : decode cL_act 358 = .ok (.iconst 1, 1) := by decide +kernel
theorem dL_act_359 : decode cL_act 359 = .ok (.goto 4, 3) := by decide +kernel
theorem dL_act_362 : decode cL_act 362 = .ok (.iconst 0, 1) := by decide +kernel
theorem dL_act_363 : decode cL_act 363 = .ok (.if_icmp .ne 37, 3) := by decide +kernel
theorem dL_act_366 : decode cL_act 366 = .ok (.iload 14, 2) := by decide +kernel
theorem dL_act_368 : decode cL_act 368 = .ok (.ifCond .lt 14, 3) := by decide +kernel
theorem dL_act_371 : decode cL_act 371 = .ok (.aload_n 0, 1) := by decide +kernel
theorem dL_act_372 : decode cL_act 372 = .ok (.bipush 6, 2) := by decide +kernel
theorem dL_act_374 : decode cL_act 374 = .ok (.invokevirtual 91, 3) := by decide +kernel
theorem dL_act_377 : decode cL_act 377 = .ok (.iload 14, 2) := by decide +kernel
theorem dL_act_379 : decode cL_act 379 = .ok (.if_icmp .ne 21, 3) := by decide +kernel
theorem dL_act_382 : decode cL_act 382 = .ok (.aload_n 0, 1) := by decide +kernel
theorem dL_act_383 : decode cL_act 383 = .ok (.bipush 7, 2) := by decide +kernel
theorem dL_act_385 : decode cL_act 385 = .ok (.invokevirtual 91, 3) := by decide +kernel
theorem dL_act_388 : decode cL_act 388 = .ok (.iload 15, 2) := by decide +kernel
theorem dL_act_390 : decode cL_act 390 = .ok (.iload 16, 2) := by decide +kernel
theorem dL_act_392 : decode cL_act 392 = .ok (.iadd, 1) := by decide +kernel
theorem dL_act_393 : decode cL_act 393 = .ok (.if_icmp .ne 7, 3) := by decide +kernel
theorem dL_act_396 : decode cL_act 396 = .ok (.iconst 1, 1) := by decide +kernel
theorem dL_act_397 : decode cL_act 397 = .ok (.goto 4, 3) := by decide +kernel
theorem dL_act_400 : decode cL_act 400 = .ok (.iconst 0, 1) := by decide +kernel
theorem dL_act_401 : decode cL_act 401 = .ok (.ireturn, 1) := by decide +kernel
theorem dL_act_402 : decode cL_act 402 = .ok (.aload_n 0, 1) := by decide +kernel
theorem dL_act_403 : decode cL_act 403 = .ok (.iconst 1, 1) := by decide +kernel
theorem dL_act_404 : decode cL_act 404 = .ok (.invokevirtual 103, 3) := by decide +kernel
theorem dL_act_407 : decode cL_act 407 = .ok (.istore 17, 2) := by decide +kernel
theorem dL_act_409 : decode cL_act 409 = .ok (.aload_n 0, 1) := by decide +kernel
theorem dL_act_410 : decode cL_act 410 = .ok (.iconst 5, 1) := by decide +kernel
theorem dL_act_411 : decode cL_act 411 = .ok (.invokevirtual 91, 3) := by decide +kernel
theorem dL_act_414 : decode cL_act 414 = .ok (.bipush 9, 2) := by decide +kernel
theorem dL_act_416 : decode cL_act 416 = .ok (.if_icmp .ge 7, 3) := by decide +kernel
theorem dL_act_419 : decode cL_act 419 = .ok (.iconst 1, 1) := by decide +kernel
theorem dL_act_420 : decode cL_act 420 = .ok (.goto 4, 3) := by decide +kernel
theorem dL_act_423 : decode cL_act 423 = .ok (.iconst 0, 1) := by decide +kernel
theorem dL_act_424 : decode cL_act 424 = .ok (.istore 18, 2) := by decide +kernel
theorem dL_act_426 : decode cL_act 426 = .ok (.iload 18, 2) := by decide +kernel
theorem dL_act_428 : decode cL_act 428 = .ok (.ifCond .eq 30, 3) := by decide +kernel
theorem dL_act_431 : decode cL_act 431 = .ok (.aload_n 0, 1) := by decide +kernel
theorem dL_act_432 : decode cL_act 432 = .ok (.invokevirtual 177, 3) := by decide +kernel
theorem dL_act_435 : decode cL_act 435 = .ok (.bipush 9, 2) := by decide +kernel
theorem dL_act_437 : decode cL_act 437 = .ok (.if_icmp .gt 17, 3) := by decide +kernel
theorem dL_act_440 : decode cL_act 440 = .ok (.aload_n 0, 1) := by decide +kernel
theorem dL_act_441 : decode cL_act 441 = .ok (.iconst 0, 1) := by decide +kernel
theorem dL_act_442 : decode cL_act 442 = .ok (.invokevirtual 103, 3) := by decide +kernel
theorem dL_act_445 : decode cL_act 445 = .ok (.iload 17, 2) := by decide +kernel
theorem dL_act_447 : decode cL_act 447 = .ok (.if_icmp .ne 7, 3) := by decide +kernel
theorem dL_act_450 : decode cL_act 450 = .ok (.iconst 1, 1) := by decide +kernel
theorem dL_act_451 : decode cL_act 451 = .ok (.goto 26, 3) := by decide +kernel
theorem dL_act_454 : decode cL_act 454 = .ok (.iconst 0, 1) := by decide +kernel
theorem dL_act_455 : decode cL_act 455 = .ok (.goto 22, 3) := by decide +kernel
theorem dL_act_458 : decode cL_act 458 = .ok (.aload_n 0, 1) := by decide +kernel
theorem dL_act_459 : decode cL_act 459 = .ok (.iload_n 3, 1) := by decide +kernel
theorem dL_act_460 : decode cL_act 460 = .ok (.invokevirtual 155, 3) := by decide +kernel
theorem dL_act_463 : decode cL_act 463 = .ok (.aload_n 0, 1) := by decide +kernel
theorem dL_act_464 : decode cL_act 464 = .ok (.iload_n 3, 1) := by decide +kernel
theorem dL_act_465 : decode cL_act 465 = .ok (.iconst 4, 1) := by decide +kernel
theorem dL_act_466 : decode cL_act 466 = .ok (.invokevirtual 94, 3) := by decide +kernel
theorem dL_act_469 : decode cL_act 469 = .ok (.if_icmp .ne 7, 3) := by decide +kernel
theorem dL_act_472 : decode cL_act 472 = .ok (.iconst 1, 1) := by decide +kernel
theorem dL_act_473 : decode cL_act 473 = .ok (.goto 4, 3) := by decide +kernel
theorem dL_act_476 : decode cL_act 476 = .ok (.iconst 0, 1) := by decide +kernel
theorem dL_act_477 : decode cL_act 477 = .ok (.ireturn, 1) := by decide +kernel
theorem dL_act_478 : decode cL_act 478 = .ok (.iload 4, 2) := by decide +kernel
theorem dL_act_480 : decode cL_act 480 = .ok (.ifCond .ne 23, 3) := by decide +kernel
theorem dL_act_483 : decode cL_act 483 = .ok (.aload_n 0, 1) := by decide +kernel
theorem dL_act_484 : decode cL_act 484 = .ok (.iconst 0, 1) := by decide +kernel
theorem dL_act_485 : decode cL_act 485 = .ok (.invokevirtual 155, 3) := by decide +kernel
theorem dL_act_488 : decode cL_act 488 = .ok (.aload_n 0, 1) := by decide +kernel
theorem dL_act_489 : decode cL_act 489 = .ok (.iconst 0, 1) := by decide +kernel
theorem dL_act_490 : decode cL_act 490 = .ok (.iconst 4, 1) := by decide +kernel
theorem dL_act_491 : decode cL_act 491 = .ok (.invokevirtual 94, 3) := by decide +kernel
theorem dL_act_494 : decode cL_act 494 = .ok (.if_icmp .ne 7, 3) := by decide +kernel
theorem dL_act_497 : decode cL_act 497 = .ok (.iconst 1, 1) := by decide +kernel
theorem dL_act_498 : decode cL_act 498 = .ok (.goto 4, 3) := by decide +kernel
theorem dL_act_501 : decode cL_act 501 = .ok (.iconst 0, 1) := by decide +kernel
theorem dL_act_502 : decode cL_act 502 = .ok (.ireturn, 1) := by decide +kernel
theorem dL_act_503 : decode cL_act 503 = .ok (.aload_n 1, 1) := by decide +kernel
theorem dL_act_504 : decode cL_act 504 = .ok (.invokestatic 57, 3) := by decide +kernel
theorem dL_act_507 : decode cL_act 507 = .ok (.iload 4, 2) := by decide +kernel
theorem dL_act_509 : decode cL_act 509 = .ok (.irem, 1) := by decide +kernel
theorem dL_act_510 : decode cL_act 510 = .ok (.istore 19, 2) := by decide +kernel
theorem dL_act_512 : decode cL_act 512 = .ok (.aload_n 0, 1) := by decide +kernel
theorem dL_act_513 : decode cL_act 513 = .ok (.iload 19, 2) := by decide +kernel
theorem dL_act_515 : decode cL_act 515 = .ok (.iconst 0, 1) := by decide +kernel
theorem dL_act_516 : decode cL_act 516 = .ok (.invokevirtual 97, 3) := by decide +kernel
theorem dL_act_519 : decode cL_act 519 = .ok (.istore 20, 2) := by decide +kernel
theorem dL_act_521 : decode cL_act 521 = .ok (.aload_n 0, 1) := by decide +kernel
theorem dL_act_522 : decode cL_act 522 = .ok (.iload 19, 2) := by decide +kernel
theorem dL_act_524 : decode cL_act 524 = .ok (.iconst 1, 1) := by decide +kernel
theorem dL_act_525 : decode cL_act 525 = .ok (.invokevirtual 97, 3) := by decide +kernel
theorem dL_act_528 : decode cL_act 528 = .ok (.istore 21, 2) := by decide +kernel
theorem dL_act_530 : decode cL_act 530 = .ok (.aload_n 0, 1) := by decide +kernel
theorem dL_act_531 : decode cL_act 531 = .ok (.iconst 0, 1) := by decide +kernel
theorem dL_act_532 : decode cL_act 532 = .ok (.invokevirtual 103, 3) := by decide +kernel
theorem dL_act_535 : decode cL_act 535 = .ok (.istore 22, 2) := by decide +kernel
theorem dL_act_537 : decode cL_act 537 = .ok (.aload_n 0, 1) := by decide +kernel
theorem dL_act_538 : decode cL_act 538 = .ok (.iload 19, 2) := by decide +kernel
theorem dL_act_540 : decode cL_act 540 = .ok (.invokevirtual 180, 3) := by decide +kernel
theorem dL_act_543 : decode cL_act 543 = .ok (.iload 20, 2) := by decide +kernel
theorem dL_act_545 : decode cL_act 545 = .ok (.if_icmp .ne 28, 3) := by decide +kernel
theorem dL_act_548 : decode cL_act 548 = .ok (.aload_n 0, 1) := by decide +kernel
theorem dL_act_549 : decode cL_act 549 = .ok (.iconst 0, 1) := by decide +kernel
theorem dL_act_550 : decode cL_act 550 = .ok (.iconst 1, 1) := by decide +kernel
theorem dL_act_551 : decode cL_act 551 = .ok (.invokevirtual 97, 3) := by decide +kernel
theorem dL_act_554 : decode cL_act 554 = .ok (.iload 21, 2) := by decide +kernel
theorem dL_act_556 : decode cL_act 556 = .ok (.if_icmp .ne 17, 3) := by decide +kernel
theorem dL_act_559 : decode cL_act 559 = .ok (.aload_n 0, 1) := by decide +kernel
theorem dL_act_560 : decode cL_act 560 = .ok (.iconst 0, 1) := by decide +kernel
theorem dL_act_561 : decode cL_act 561 = .ok (.invokevirtual 103, 3) := by decide +kernel
theorem dL_act_564 : decode cL_act 564 = .ok (.iload 22, 2) := by decide +kernel
theorem dL_act_566 : decode cL_act 566 = .ok (.if_icmp .ne 7, 3) := by decide +kernel
theorem dL_act_569 : decode cL_act 569 = .ok (.iconst 1, 1) := by decide +kernel
theorem dL_act_570 : decode cL_act 570 = .ok (.goto 4, 3) := by decide +kernel
theorem dL_act_573 : decode cL_act 573 = .ok (.iconst 0, 1) := by decide +kernel
theorem dL_act_574 : decode cL_act 574 = .ok (.ireturn, 1) := by decide +kernel
theorem dL_act_575 : decode cL_act 575 = .ok (.aload_n 0, 1) := by decide +kernel
theorem dL_act_576 : decode cL_act 576 = .ok (.bipush 6, 2) := by decide +kernel
theorem dL_act_578 : decode cL_act 578 = .ok (.invokevirtual 91, 3) := by decide +kernel
theorem dL_act_581 : decode cL_act 581 = .ok (.istore 23, 2) := by decide +kernel
theorem dL_act_583 : decode cL_act 583 = .ok (.iload 4, 2) := by decide +kernel
theorem dL_act_585 : decode cL_act 585 = .ok (.ifCond .ne 7, 3) := by decide +kernel
theorem dL_act_588 : decode cL_act 588 = .ok (.iconst 0, 1) := by decide +kernel
theorem dL_act_589 : decode cL_act 589 = .ok (.goto 10, 3) := by decide +kernel
theorem dL_act_592 : decode cL_act 592 = .ok (.aload_n 1, 1) := by decide +kernel
theorem dL_act_593 : decode cL_act 593 = .ok (.invokestatic 57, 3) := by decide +kernel
theorem dL_act_596 : decode cL_act 596 = .ok (.iload 4, 2) := by decide +kernel
theorem dL_act_598 : decode cL_act 598 = .ok (.irem, 1) := by decide +kernel
theorem dL_act_599 : decode cL_act 599 = .ok (.istore 24, 2) := by decide +kernel
theorem dL_act_601 : decode cL_act 601 = .ok (.iload 4, 2) := by decide +kernel
theorem dL_act_603 : decode cL_act 603 = .ok (.ifCond .le 19, 3) := by decide +kernel
theorem dL_act_606 : decode cL_act 606 = .ok (.aload_n 0, 1) := by decide +kernel
theorem dL_act_607 : decode cL_act 607 = .ok (.iload 24, 2) := by decide +kernel
theorem dL_act_609 : decode cL_act 609 = .ok (.iconst 0, 1) := by decide +kernel
theorem dL_act_610 : decode cL_act 610 = .ok (.invokevirtual 97, 3) := by decide +kernel
theorem dL_act_613 : decode cL_act 613 = .ok (.iload 23, 2) := by decide +kernel
theorem dL_act_615 : decode cL_act 615 = .ok (.if_icmp .ne 7, 3) := by decide +kernel
theorem dL_act_618 : decode cL_act 618 = .ok (.iconst 1, 1) := by decide +kernel
theorem dL_act_619 : decode cL_act 619 = .ok (.goto 4, 3) := by decide +kernel
theorem dL_act_622 : decode cL_act 622 = .ok (.iconst 0, 1) := by decide +kernel
theorem dL_act_623 : decode cL_act 623 = .ok (.istore 25, 2) := by decide +kernel
theorem dL_act_625 : decode cL_act 625 = .ok (.aload_n 0, 1) := by decide +kernel
theorem dL_act_626 : decode cL_act 626 = .ok (.iload 24, 2) := by decide +kernel
theorem dL_act_628 : decode cL_act 628 = .ok (.invokestatic 183, 3) := by decide +kernel
theorem dL_act_631 : decode cL_act 631 = .ok (.istore 26, 2) := by decide +kernel
theorem dL_act_633 : decode cL_act 633 = .ok (.iload 25, 2) := by decide +kernel
theorem dL_act_635 : decode cL_act 635 = .ok (.ifCond .eq 27, 3) := by decide +kernel
theorem dL_act_638 : decode cL_act 638 = .ok (.iload 26, 2) := by decide +kernel
theorem dL_act_640 : decode cL_act 640 = .ok (.aload_n 0, 1) := by decide +kernel
theorem dL_act_641 : decode cL_act 641 = .ok (.aload_n 0, 1) := by decide +kernel
