/-! the law: words, and the roads joined -/
theorem d_law_0 : decode code 0 = .ok (.new 8, 3) := by decide +kernel
theorem d_law_3 : decode code 3 = .ok (.dup, 1) := by decide +kernel
theorem d_law_4 : decode code 4 = .ok (.invokespecial 44, 3) := by decide +kernel
theorem d_law_7 : decode code 7 = .ok (.astore_n 1, 1) := by decide +kernel
theorem d_law_8 : decode code 8 = .ok (.new 45, 3) := by decide +kernel
theorem d_law_11 : decode code 11 = .ok (.dup, 1) := by decide +kernel
theorem d_law_12 : decode code 12 = .ok (.invokespecial 47, 3) := by decide +kernel
theorem d_law_15 : decode code 15 = .ok (.astore_n 2, 1) := by decide +kernel
theorem d_law_16 : decode code 16 = .ok (.iconst 1, 1) := by decide +kernel
theorem d_law_17 : decode code 17 = .ok (.newarray .long, 2) := by decide +kernel
theorem d_law_19 : decode code 19 = .ok (.astore_n 3, 1) := by decide +kernel
theorem d_law_20 : decode code 20 = .ok (.iconst 0, 1) := by decide +kernel
theorem d_law_21 : decode code 21 = .ok (.istore 4, 2) := by decide +kernel
theorem d_law_23 : decode code 23 = .ok (.iload 4, 2) := by decide +kernel
theorem d_law_25 : decode code 25 = .ok (.aload_n 0, 1) := by decide +kernel
theorem d_law_26 : decode code 26 = .ok (.arraylength, 1) := by decide +kernel
theorem d_law_27 : decode code 27 = .ok (.iconst 5, 1) := by decide +kernel
theorem d_law_28 : decode code 28 = .ok (.isub, 1) := by decide +kernel
theorem d_law_29 : decode code 29 = .ok (.if_icmp .gt 646, 3) := by decide +kernel
theorem d_law_32 : decode code 32 = .ok (.aload_n 0, 1) := by decide +kernel
theorem d_law_33 : decode code 33 = .ok (.iload 4, 2) := by decide +kernel
theorem d_law_35 : decode code 35 = .ok (.iaload, 1) := by decide +kernel
theorem d_law_36 : decode code 36 = .ok (.bipush 15, 2) := by decide +kernel
theorem d_law_38 : decode code 38 = .ok (.iand, 1) := by decide +kernel
theorem d_law_39 : decode code 39 = .ok (.tableswitch 630 0 11 #[61, 153, 221, 234, 297, 372, 428, 486, 499, 555, 580, 605], 61) := by decide +kernel
theorem d_law_100 : decode code 100 = .ok (.aload_n 1, 1) := by decide +kernel
theorem d_law_101 : decode code 101 = .ok (.aload_n 0, 1) := by decide +kernel
theorem d_law_102 : decode code 102 = .ok (.iload 4, 2) := by decide +kernel
theorem d_law_104 : decode code 104 = .ok (.iconst 1, 1) := by decide +kernel
theorem d_law_105 : decode code 105 = .ok (.iadd, 1) := by decide +kernel
theorem d_law_106 : decode code 106 = .ok (.iaload, 1) := by decide +kernel
theorem d_law_107 : decode code 107 = .ok (.aload_n 0, 1) := by decide +kernel
theorem d_law_108 : decode code 108 = .ok (.iload 4, 2) := by decide +kernel
theorem d_law_110 : decode code 110 = .ok (.iconst 2, 1) := by decide +kernel
theorem d_law_111 : decode code 111 = .ok (.iadd, 1) := by decide +kernel
theorem d_law_112 : decode code 112 = .ok (.iaload, 1) := by decide +kernel
theorem d_law_113 : decode code 113 = .ok (.aload_n 0, 1) := by decide +kernel
theorem d_law_114 : decode code 114 = .ok (.iload 4, 2) := by decide +kernel
theorem d_law_116 : decode code 116 = .ok (.iconst 3, 1) := by decide +kernel
theorem d_law_117 : decode code 117 = .ok (.iadd, 1) := by decide +kernel
theorem d_law_118 : decode code 118 = .ok (.iaload, 1) := by decide +kernel
theorem d_law_119 : decode code 119 = .ok (.aload_n 0, 1) := by decide +kernel
theorem d_law_120 : decode code 120 = .ok (.iload 4, 2) := by decide +kernel
theorem d_law_122 : decode code 122 = .ok (.iconst 4, 1) := by decide +kernel
theorem d_law_123 : decode code 123 = .ok (.iadd, 1) := by decide +kernel
theorem d_law_124 : decode code 124 = .ok (.iaload, 1) := by decide +kernel
theorem d_law_125 : decode code 125 = .ok (.aload_n 3, 1) := by decide +kernel
theorem d_law_126 : decode code 126 = .ok (.invokestatic 48, 3) := by decide +kernel
theorem d_law_129 : decode code 129 = .ok (.istore 5, 2) := by decide +kernel
theorem d_law_131 : decode code 131 = .ok (.aload_n 2, 1) := by decide +kernel
theorem d_law_132 : decode code 132 = .ok (.aload_n 0, 1) := by decide +kernel
theorem d_law_133 : decode code 133 = .ok (.iload 4, 2) := by decide +kernel
theorem d_law_135 : decode code 135 = .ok (.iconst 1, 1) := by decide +kernel
theorem d_law_136 : decode code 136 = .ok (.iadd, 1) := by decide +kernel
theorem d_law_137 : decode code 137 = .ok (.iaload, 1) := by decide +kernel
theorem d_law_138 : decode code 138 = .ok (.aload_n 0, 1) := by decide +kernel
theorem d_law_139 : decode code 139 = .ok (.iload 4, 2) := by decide +kernel
theorem d_law_141 : decode code 141 = .ok (.iconst 2, 1) := by decide +kernel
theorem d_law_142 : decode code 142 = .ok (.iadd, 1) := by decide +kernel
theorem d_law_143 : decode code 143 = .ok (.iaload, 1) := by decide +kernel
theorem d_law_144 : decode code 144 = .ok (.aload_n 0, 1) := by decide +kernel
theorem d_law_145 : decode code 145 = .ok (.iload 4, 2) := by decide +kernel
theorem d_law_147 : decode code 147 = .ok (.iconst 3, 1) := by decide +kernel
theorem d_law_148 : decode code 148 = .ok (.iadd, 1) := by decide +kernel
theorem d_law_149 : decode code 149 = .ok (.iaload, 1) := by decide +kernel
theorem d_law_150 : decode code 150 = .ok (.aload_n 0, 1) := by decide +kernel
theorem d_law_151 : decode code 151 = .ok (.iload 4, 2) := by decide +kernel
theorem d_law_153 : decode code 153 = .ok (.iconst 4, 1) := by decide +kernel
theorem d_law_154 : decode code 154 = .ok (.iadd, 1) := by decide +kernel
theorem d_law_155 : decode code 155 = .ok (.iaload, 1) := by decide +kernel
theorem d_law_156 : decode code 156 = .ok (.invokevirtual 53, 3) := by decide +kernel
theorem d_law_159 : decode code 159 = .ok (.istore 6, 2) := by decide +kernel
theorem d_law_161 : decode code 161 = .ok (.aload_n 2, 1) := by decide +kernel
theorem d_law_162 : decode code 162 = .ok (.invokevirtual 54, 3) := by decide +kernel
theorem d_law_165 : decode code 165 = .ok (.iload 5, 2) := by decide +kernel
theorem d_law_167 : decode code 167 = .ok (.if_icmp .eq 5, 3) := by decide +kernel
theorem d_law_172 : decode code 172 = .ok (.iload 5, 2) := by decide +kernel
theorem d_law_174 : decode code 174 = .ok (.ifCond .ne 15, 3) := by decide +kernel
theorem d_law_177 : decode code 177 = .ok (.aload_n 3, 1) := by decide +kernel
theorem d_law_178 : decode code 178 = .ok (.iconst 0, 1) := by decide +kernel
theorem d_law_179 : decode code 179 = .ok (.laload, 1) := by decide +kernel
theorem d_law_180 : decode code 180 = .ok (.iload 6, 2) := by decide +kernel
theorem d_law_182 : decode code 182 = .ok (.i2l, 1) := by decide +kernel
theorem d_law_183 : decode code 183 = .ok (.lcmp, 1) := by decide +kernel
theorem d_law_184 : decode code 184 = .ok (.ifCond .eq 5, 3) := by decide +kernel
theorem d_law_189 : decode code 189 = .ok (.goto 480, 3) := by decide +kernel
theorem d_law_192 : decode code 192 = .ok (.aload_n 1, 1) := by decide +kernel
theorem d_law_193 : decode code 193 = .ok (.aload_n 0, 1) := by decide +kernel
theorem d_law_194 : decode code 194 = .ok (.iload 4, 2) := by decide +kernel
theorem d_law_196 : decode code 196 = .ok (.iconst 1, 1) := by decide +kernel
theorem d_law_197 : decode code 197 = .ok (.iadd, 1) := by decide +kernel
theorem d_law_198 : decode code 198 = .ok (.iaload, 1) := by decide +kernel
theorem d_law_199 : decode code 199 = .ok (.aload_n 0, 1) := by decide +kernel
theorem d_law_200 : decode code 200 = .ok (.iload 4, 2) := by decide +kernel
theorem d_law_202 : decode code 202 = .ok (.iconst 2, 1) := by decide +kernel
theorem d_law_203 : decode code 203 = .ok (.iadd, 1) := by decide +kernel
theorem d_law_204 : decode code 204 = .ok (.iaload, 1) := by decide +kernel
theorem d_law_205 : decode code 205 = .ok (.aload_n 3, 1) := by decide +kernel
theorem d_law_206 : decode code 206 = .ok (.invokestatic 58, 3) := by decide +kernel
theorem d_law_209 : decode code 209 = .ok (.istore 5, 2) := by decide +kernel
theorem d_law_211 : decode code 211 = .ok (.aload_n 2, 1) := by decide +kernel
theorem d_law_212 : decode code 212 = .ok (.aload_n 0, 1) := by decide +kernel
theorem d_law_213 : decode code 213 = .ok (.iload 4, 2) := by decide +kernel
theorem d_law_215 : decode code 215 = .ok (.iconst 1, 1) := by decide +kernel
theorem d_law_216 : decode code 216 = .ok (.iadd, 1) := by decide +kernel
theorem d_law_217 : decode code 217 = .ok (.iaload, 1) := by decide +kernel
theorem d_law_218 : decode code 218 = .ok (.aload_n 0, 1) := by decide +kernel
theorem d_law_219 : decode code 219 = .ok (.iload 4, 2) := by decide +kernel
theorem d_law_221 : decode code 221 = .ok (.iconst 2, 1) := by decide +kernel
theorem d_law_222 : decode code 222 = .ok (.iadd, 1) := by decide +kernel
theorem d_law_223 : decode code 223 = .ok (.iaload, 1) := by decide +kernel
theorem d_law_224 : decode code 224 = .ok (.invokevirtual 61, 3) := by decide +kernel
theorem d_law_227 : decode code 227 = .ok (.istore 6, 2) := by decide +kernel
theorem d_law_229 : decode code 229 = .ok (.aload_n 2, 1) := by decide +kernel
theorem d_law_230 : decode code 230 = .ok (.invokevirtual 54, 3) := by decide +kernel
theorem d_law_233 : decode code 233 = .ok (.iload 5, 2) := by decide +kernel
theorem d_law_235 : decode code 235 = .ok (.if_icmp .eq 5, 3) := by decide +kernel
theorem d_law_240 : decode code 240 = .ok (.iload 5, 2) := by decide +kernel
theorem d_law_242 : decode code 242 = .ok (.ifCond .ne 15, 3) := by decide +kernel
theorem d_law_245 : decode code 245 = .ok (.aload_n 3, 1) := by decide +kernel
theorem d_law_246 : decode code 246 = .ok (.iconst 0, 1) := by decide +kernel
theorem d_law_247 : decode code 247 = .ok (.laload, 1) := by decide +kernel
theorem d_law_248 : decode code 248 = .ok (.iload 6, 2) := by decide +kernel
theorem d_law_250 : decode code 250 = .ok (.i2l, 1) := by decide +kernel
theorem d_law_251 : decode code 251 = .ok (.lcmp, 1) := by decide +kernel
theorem d_law_252 : decode code 252 = .ok (.ifCond .eq 5, 3) := by decide +kernel
theorem d_law_257 : decode code 257 = .ok (.goto 412, 3) := by decide +kernel
theorem d_law_260 : decode code 260 = .ok (.aload_n 1, 1) := by decide +kernel
theorem d_law_261 : decode code 261 = .ok (.invokevirtual 62, 3) := by decide +kernel
theorem d_law_264 : decode code 264 = .ok (.aload_n 2, 1) := by decide +kernel
theorem d_law_265 : decode code 265 = .ok (.invokevirtual 65, 3) := by decide +kernel
theorem d_law_268 : decode code 268 = .ok (.if_icmp .eq 401, 3) := by decide +kernel
theorem d_law_273 : decode code 273 = .ok (.aload_n 1, 1) := by decide +kernel
theorem d_law_274 : decode code 274 = .ok (.aload_n 0, 1) := by decide +kernel
theorem d_law_275 : decode code 275 = .ok (.iload 4, 2) := by decide +kernel
theorem d_law_277 : decode code 277 = .ok (.iconst 1, 1) := by decide +kernel
theorem d_law_278 : decode code 278 = .ok (.iadd, 1) := by decide +kernel
theorem d_law_279 : decode code 279 = .ok (.iaload, 1) := by decide +kernel
theorem d_law_280 : decode code 280 = .ok (.aload_n 3, 1) := by decide +kernel
theorem d_law_281 : decode code 281 = .ok (.invokestatic 66, 3) := by decide +kernel
theorem d_law_284 : decode code 284 = .ok (.istore 5, 2) := by decide +kernel
theorem d_law_286 : decode code 286 = .ok (.aload_n 2, 1) := by decide +kernel
theorem d_law_287 : decode code 287 = .ok (.aload_n 0, 1) := by decide +kernel
theorem d_law_288 : decode code 288 = .ok (.iload 4, 2) := by decide +kernel
theorem d_law_290 : decode code 290 = .ok (.iconst 1, 1) := by decide +kernel
theorem d_law_291 : decode code 291 = .ok (.iadd, 1) := by decide +kernel
theorem d_law_292 : decode code 292 = .ok (.iaload, 1) := by decide +kernel
theorem d_law_293 : decode code 293 = .ok (.invokevirtual 69, 3) := by decide +kernel
theorem d_law_296 : decode code 296 = .ok (.istore 6, 2) := by decide +kernel
theorem d_law_298 : decode code 298 = .ok (.aload_n 2, 1) := by decide +kernel
theorem d_law_299 : decode code 299 = .ok (.invokevirtual 54, 3) := by decide +kernel
theorem d_law_302 : decode code 302 = .ok (.iload 5, 2) := by decide +kernel
theorem d_law_304 : decode code 304 = .ok (.if_icmp .eq 5, 3) := by decide +kernel
theorem d_law_309 : decode code 309 = .ok (.iload 5, 2) := by decide +kernel
theorem d_law_311 : decode code 311 = .ok (.ifCond .ne 22, 3) := by decide +kernel
theorem d_law_314 : decode code 314 = .ok (.aload_n 3, 1) := by decide +kernel
theorem d_law_315 : decode code 315 = .ok (.iconst 0, 1) := by decide +kernel
theorem d_law_316 : decode code 316 = .ok (.laload, 1) := by decide +kernel
theorem d_law_317 : decode code 317 = .ok (.iload 6, 2) := by decide +kernel
theorem d_law_319 : decode code 319 = .ok (.ifCond .eq 7, 3) := by decide +kernel
theorem d_law_322 : decode code 322 = .ok (.lconst 1, 1) := by decide +kernel
theorem d_law_323 : decode code 323 = .ok (.goto 4, 3) := by decide +kernel
theorem d_law_326 : decode code 326 = .ok (.lconst 0, 1) := by decide +kernel
theorem d_law_327 : decode code 327 = .ok (.lcmp, 1) := by decide +kernel
theorem d_law_328 : decode code 328 = .ok (.ifCond .eq 5, 3) := by decide +kernel
theorem d_law_333 : decode code 333 = .ok (.goto 336, 3) := by decide +kernel
theorem d_law_336 : decode code 336 = .ok (.aload_n 1, 1) := by decide +kernel
theorem d_law_337 : decode code 337 = .ok (.aload_n 0, 1) := by decide +kernel
theorem d_law_338 : decode code 338 = .ok (.iload 4, 2) := by decide +kernel
theorem d_law_340 : decode code 340 = .ok (.iconst 1, 1) := by decide +kernel
theorem d_law_341 : decode code 341 = .ok (.iadd, 1) := by decide +kernel
theorem d_law_342 : decode code 342 = .ok (.iaload, 1) := by decide +kernel
theorem d_law_343 : decode code 343 = .ok (.aload_n 0, 1) := by decide +kernel
theorem d_law_344 : decode code 344 = .ok (.iload 4, 2) := by decide +kernel
theorem d_law_346 : decode code 346 = .ok (.iconst 2, 1) := by decide +kernel
theorem d_law_347 : decode code 347 = .ok (.iadd, 1) := by decide +kernel
theorem d_law_348 : decode code 348 = .ok (.iaload, 1) := by decide +kernel
theorem d_law_349 : decode code 349 = .ok (.aload_n 3, 1) := by decide +kernel
theorem d_law_350 : decode code 350 = .ok (.invokestatic 70, 3) := by decide +kernel
theorem d_law_353 : decode code 353 = .ok (.istore 5, 2) := by decide +kernel
theorem d_law_355 : decode code 355 = .ok (.aload_n 2, 1) := by decide +kernel
theorem d_law_356 : decode code 356 = .ok (.aload_n 0, 1) := by decide +kernel
theorem d_law_357 : decode code 357 = .ok (.iload 4, 2) := by decide +kernel
theorem d_law_359 : decode code 359 = .ok (.iconst 1, 1) := by decide +kernel
theorem d_law_360 : decode code 360 = .ok (.iadd, 1) := by decide +kernel
theorem d_law_361 : decode code 361 = .ok (.iaload, 1) := by decide +kernel
theorem d_law_362 : decode code 362 = .ok (.aload_n 0, 1) := by decide +kernel
theorem d_law_363 : decode code 363 = .ok (.iload 4, 2) := by decide +kernel
theorem d_law_365 : decode code 365 = .ok (.iconst 2, 1) := by decide +kernel
theorem d_law_366 : decode code 366 = .ok (.iadd, 1) := by decide +kernel
theorem d_law_367 : decode code 367 = .ok (.iaload, 1) := by decide +kernel
theorem d_law_368 : decode code 368 = .ok (.invokevirtual 72, 3) := by decide +kernel
theorem d_law_371 : decode code 371 = .ok (.istore 6, 2) := by decide +kernel
theorem d_law_373 : decode code 373 = .ok (.aload_n 2, 1) := by decide +kernel
theorem d_law_374 : decode code 374 = .ok (.invokevirtual 54, 3) := by decide +kernel
theorem d_law_377 : decode code 377 = .ok (.iload 5, 2) := by decide +kernel
theorem d_law_379 : decode code 379 = .ok (.if_icmp .eq 5, 3) := by decide +kernel
theorem d_law_384 : decode code 384 = .ok (.iload 5, 2) := by decide +kernel
theorem d_law_386 : decode code 386 = .ok (.ifCond .ne 22, 3) := by decide +kernel
theorem d_law_389 : decode code 389 = .ok (.aload_n 3, 1) := by decide +kernel
theorem d_law_390 : decode code 390 = .ok (.iconst 0, 1) := by decide +kernel
theorem d_law_391 : decode code 391 = .ok (.laload, 1) := by decide +kernel
theorem d_law_392 : decode code 392 = .ok (.iload 6, 2) := by decide +kernel
theorem d_law_394 : decode code 394 = .ok (.ifCond .eq 7, 3) := by decide +kernel
theorem d_law_397 : decode code 397 = .ok (.lconst 1, 1) := by decide +kernel
theorem d_law_398 : decode code 398 = .ok (.goto 4, 3) := by decide +kernel
theorem d_law_401 : decode code 401 = .ok (.lconst 0, 1) := by decide +kernel
theorem d_law_402 : decode code 402 = .ok (.lcmp, 1) := by decide +kernel
theorem d_law_403 : decode code 403 = .ok (.ifCond .eq 5, 3) := by decide +kernel
theorem d_law_408 : decode code 408 = .ok (.goto 261, 3) := by decide +kernel
theorem d_law_411 : decode code 411 = .ok (.aload_n 1, 1) := by decide +kernel
theorem d_law_412 : decode code 412 = .ok (.aload_n 0, 1) := by decide +kernel
theorem d_law_413 : decode code 413 = .ok (.iload 4, 2) := by decide +kernel
theorem d_law_415 : decode code 415 = .ok (.iconst 1, 1) := by decide +kernel
theorem d_law_416 : decode code 416 = .ok (.iadd, 1) := by decide +kernel
theorem d_law_417 : decode code 417 = .ok (.iaload, 1) := by decide +kernel
theorem d_law_418 : decode code 418 = .ok (.aload_n 3, 1) := by decide +kernel
theorem d_law_419 : decode code 419 = .ok (.invokestatic 73, 3) := by decide +kernel
theorem d_law_422 : decode code 422 = .ok (.istore 5, 2) := by decide +kernel
theorem d_law_424 : decode code 424 = .ok (.aload_n 2, 1) := by decide +kernel
theorem d_law_425 : decode code 425 = .ok (.aload_n 0, 1) := by decide +kernel
theorem d_law_426 : decode code 426 = .ok (.iload 4, 2) := by decide +kernel
theorem d_law_428 : decode code 428 = .ok (.iconst 1, 1) := by decide +kernel
theorem d_law_429 : decode code 429 = .ok (.iadd, 1) := by decide +kernel
theorem d_law_430 : decode code 430 = .ok (.iaload, 1) := by decide +kernel
theorem d_law_431 : decode code 431 = .ok (.invokevirtual 75, 3) := by decide +kernel
theorem d_law_434 : decode code 434 = .ok (.istore 6, 2) := by decide +kernel
theorem d_law_436 : decode code 436 = .ok (.aload_n 2, 1) := by decide +kernel
theorem d_law_437 : decode code 437 = .ok (.invokevirtual 54, 3) := by decide +kernel
theorem d_law_440 : decode code 440 = .ok (.iload 5, 2) := by decide +kernel
theorem d_law_442 : decode code 442 = .ok (.if_icmp .eq 5, 3) := by decide +kernel
theorem d_law_447 : decode code 447 = .ok (.iload 5, 2) := by decide +kernel
theorem d_law_449 : decode code 449 = .ok (.ifCond .ne 15, 3) := by decide +kernel
theorem d_law_452 : decode code 452 = .ok (.aload_n 3, 1) := by decide +kernel
theorem d_law_453 : decode code 453 = .ok (.iconst 0, 1) := by decide +kernel
theorem d_law_454 : decode code 454 = .ok (.laload, 1) := by decide +kernel
theorem d_law_455 : decode code 455 = .ok (.iload 6, 2) := by decide +kernel
theorem d_law_457 : decode code 457 = .ok (.i2l, 1) := by decide +kernel
theorem d_law_458 : decode code 458 = .ok (.lcmp, 1) := by decide +kernel
theorem d_law_459 : decode code 459 = .ok (.ifCond .eq 5, 3) := by decide +kernel
theorem d_law_464 : decode code 464 = .ok (.goto 205, 3) := by decide +kernel
theorem d_law_467 : decode code 467 = .ok (.aload_n 1, 1) := by decide +kernel
theorem d_law_468 : decode code 468 = .ok (.aload_n 0, 1) := by decide +kernel
theorem d_law_469 : decode code 469 = .ok (.iload 4, 2) := by decide +kernel
theorem d_law_471 : decode code 471 = .ok (.iconst 1, 1) := by decide +kernel
theorem d_law_472 : decode code 472 = .ok (.iadd, 1) := by decide +kernel
theorem d_law_473 : decode code 473 = .ok (.iaload, 1) := by decide +kernel
theorem d_law_474 : decode code 474 = .ok (.i2c, 1) := by decide +kernel
theorem d_law_475 : decode code 475 = .ok (.aload_n 3, 1) := by decide +kernel
theorem d_law_476 : decode code 476 = .ok (.invokestatic 76, 3) := by decide +kernel
theorem d_law_479 : decode code 479 = .ok (.istore 5, 2) := by decide +kernel
theorem d_law_481 : decode code 481 = .ok (.aload_n 2, 1) := by decide +kernel
theorem d_law_482 : decode code 482 = .ok (.aload_n 0, 1) := by decide +kernel
theorem d_law_483 : decode code 483 = .ok (.iload 4, 2) := by decide +kernel
theorem d_law_485 : decode code 485 = .ok (.iconst 1, 1) := by decide +kernel
theorem d_law_486 : decode code 486 = .ok (.iadd, 1) := by decide +kernel
theorem d_law_487 : decode code 487 = .ok (.iaload, 1) := by decide +kernel
theorem d_law_488 : decode code 488 = .ok (.i2c, 1) := by decide +kernel
theorem d_law_489 : decode code 489 = .ok (.invokevirtual 79, 3) := by decide +kernel
theorem d_law_492 : decode code 492 = .ok (.istore 6, 2) := by decide +kernel
theorem d_law_494 : decode code 494 = .ok (.aload_n 2, 1) := by decide +kernel
theorem d_law_495 : decode code 495 = .ok (.invokevirtual 54, 3) := by decide +kernel
theorem d_law_498 : decode code 498 = .ok (.iload 5, 2) := by decide +kernel
theorem d_law_500 : decode code 500 = .ok (.if_icmp .eq 5, 3) := by decide +kernel
theorem d_law_505 : decode code 505 = .ok (.iload 5, 2) := by decide +kernel
theorem d_law_507 : decode code 507 = .ok (.ifCond .ne 15, 3) := by decide +kernel
theorem d_law_510 : decode code 510 = .ok (.aload_n 3, 1) := by decide +kernel
theorem d_law_511 : decode code 511 = .ok (.iconst 0, 1) := by decide +kernel
theorem d_law_512 : decode code 512 = .ok (.laload, 1) := by decide +kernel
theorem d_law_513 : decode code 513 = .ok (.iload 6, 2) := by decide +kernel
theorem d_law_515 : decode code 515 = .ok (.i2l, 1) := by decide +kernel
theorem d_law_516 : decode code 516 = .ok (.lcmp, 1) := by decide +kernel
theorem d_law_517 : decode code 517 = .ok (.ifCond .eq 5, 3) := by decide +kernel
theorem d_law_522 : decode code 522 = .ok (.goto 147, 3) := by decide +kernel
theorem d_law_525 : decode code 525 = .ok (.aload_n 1, 1) := by decide +kernel
theorem d_law_526 : decode code 526 = .ok (.invokevirtual 80, 3) := by decide +kernel
theorem d_law_529 : decode code 529 = .ok (.aload_n 2, 1) := by decide +kernel
theorem d_law_530 : decode code 530 = .ok (.invokevirtual 83, 3) := by decide +kernel
theorem d_law_533 : decode code 533 = .ok (.if_icmp .eq 136, 3) := by decide +kernel
theorem d_law_538 : decode code 538 = .ok (.aload_n 1, 1) := by decide +kernel
theorem d_law_539 : decode code 539 = .ok (.aload_n 0, 1) := by decide +kernel
theorem d_law_540 : decode code 540 = .ok (.iload 4, 2) := by decide +kernel
theorem d_law_542 : decode code 542 = .ok (.iconst 1, 1) := by decide +kernel
theorem d_law_543 : decode code 543 = .ok (.iadd, 1) := by decide +kernel
theorem d_law_544 : decode code 544 = .ok (.iaload, 1) := by decide +kernel
theorem d_law_545 : decode code 545 = .ok (.aload_n 3, 1) := by decide +kernel
theorem d_law_546 : decode code 546 = .ok (.invokestatic 84, 3) := by decide +kernel
theorem d_law_549 : decode code 549 = .ok (.istore 5, 2) := by decide +kernel
theorem d_law_551 : decode code 551 = .ok (.aload_n 2, 1) := by decide +kernel
theorem d_law_552 : decode code 552 = .ok (.aload_n 0, 1) := by decide +kernel
theorem d_law_553 : decode code 553 = .ok (.iload 4, 2) := by decide +kernel
theorem d_law_555 : decode code 555 = .ok (.iconst 1, 1) := by decide +kernel
theorem d_law_556 : decode code 556 = .ok (.iadd, 1) := by decide +kernel
theorem d_law_557 : decode code 557 = .ok (.iaload, 1) := by decide +kernel
theorem d_law_558 : decode code 558 = .ok (.invokevirtual 86, 3) := by decide +kernel
theorem d_law_561 : decode code 561 = .ok (.istore 6, 2) := by decide +kernel
theorem d_law_563 : decode code 563 = .ok (.aload_n 2, 1) := by decide +kernel
theorem d_law_564 : decode code 564 = .ok (.invokevirtual 54, 3) := by decide +kernel
theorem d_law_567 : decode code 567 = .ok (.iload 5, 2) := by decide +kernel
theorem d_law_569 : decode code 569 = .ok (.if_icmp .eq 5, 3) := by decide +kernel
theorem d_law_574 : decode code 574 = .ok (.iload 5, 2) := by decide +kernel
theorem d_law_576 : decode code 576 = .ok (.ifCond .ne 15, 3) := by decide +kernel
theorem d_law_579 : decode code 579 = .ok (.aload_n 3, 1) := by decide +kernel
theorem d_law_580 : decode code 580 = .ok (.iconst 0, 1) := by decide +kernel
theorem d_law_581 : decode code 581 = .ok (.laload, 1) := by decide +kernel
theorem d_law_582 : decode code 582 = .ok (.iload 6, 2) := by decide +kernel
theorem d_law_584 : decode code 584 = .ok (.i2l, 1) := by decide +kernel
theorem d_law_585 : decode code 585 = .ok (.lcmp, 1) := by decide +kernel
theorem d_law_586 : decode code 586 = .ok (.ifCond .eq 5, 3) := by decide +kernel
theorem d_law_591 : decode code 591 = .ok (.goto 78, 3) := by decide +kernel
theorem d_law_594 : decode code 594 = .ok (.aload_n 1, 1) := by decide +kernel
theorem d_law_595 : decode code 595 = .ok (.aload_n 0, 1) := by decide +kernel
theorem d_law_596 : decode code 596 = .ok (.iload 4, 2) := by decide +kernel
theorem d_law_598 : decode code 598 = .ok (.iconst 1, 1) := by decide +kernel
theorem d_law_599 : decode code 599 = .ok (.iadd, 1) := by decide +kernel
theorem d_law_600 : decode code 600 = .ok (.iaload, 1) := by decide +kernel
theorem d_law_601 : decode code 601 = .ok (.invokevirtual 87, 3) := by decide +kernel
theorem d_law_604 : decode code 604 = .ok (.aload_n 2, 1) := by decide +kernel
theorem d_law_605 : decode code 605 = .ok (.aload_n 0, 1) := by decide +kernel
theorem d_law_606 : decode code 606 = .ok (.iload 4, 2) := by decide +kernel
theorem d_law_608 : decode code 608 = .ok (.iconst 1, 1) := by decide +kernel
theorem d_law_609 : decode code 609 = .ok (.iadd, 1) := by decide +kernel
theorem d_law_610 : decode code 610 = .ok (.iaload, 1) := by decide +kernel
theorem d_law_611 : decode code 611 = .ok (.invokevirtual 90, 3) := by decide +kernel
theorem d_law_614 : decode code 614 = .ok (.if_icmp .eq 55, 3) := by decide +kernel
theorem d_law_619 : decode code 619 = .ok (.aload_n 1, 1) := by decide +kernel
theorem d_law_620 : decode code 620 = .ok (.aload_n 0, 1) := by decide +kernel
theorem d_law_621 : decode code 621 = .ok (.iload 4, 2) := by decide +kernel
theorem d_law_623 : decode code 623 = .ok (.iconst 1, 1) := by decide +kernel
theorem d_law_624 : decode code 624 = .ok (.iadd, 1) := by decide +kernel
theorem d_law_625 : decode code 625 = .ok (.iaload, 1) := by decide +kernel
theorem d_law_626 : decode code 626 = .ok (.invokevirtual 91, 3) := by decide +kernel
theorem d_law_629 : decode code 629 = .ok (.aload_n 2, 1) := by decide +kernel
theorem d_law_630 : decode code 630 = .ok (.aload_n 0, 1) := by decide +kernel
theorem d_law_631 : decode code 631 = .ok (.iload 4, 2) := by decide +kernel
theorem d_law_633 : decode code 633 = .ok (.iconst 1, 1) := by decide +kernel
theorem d_law_634 : decode code 634 = .ok (.iadd, 1) := by decide +kernel
theorem d_law_635 : decode code 635 = .ok (.iaload, 1) := by decide +kernel
theorem d_law_636 : decode code 636 = .ok (.invokevirtual 94, 3) := by decide +kernel
theorem d_law_639 : decode code 639 = .ok (.if_icmp .eq 30, 3) := by decide +kernel
theorem d_law_644 : decode code 644 = .ok (.aload_n 1, 1) := by decide +kernel
theorem d_law_645 : decode code 645 = .ok (.aload_n 0, 1) := by decide +kernel
theorem d_law_646 : decode code 646 = .ok (.iload 4, 2) := by decide +kernel
theorem d_law_648 : decode code 648 = .ok (.iconst 1, 1) := by decide +kernel
theorem d_law_649 : decode code 649 = .ok (.iadd, 1) := by decide +kernel
theorem d_law_650 : decode code 650 = .ok (.iaload, 1) := by decide +kernel
theorem d_law_651 : decode code 651 = .ok (.invokevirtual 95, 3) := by decide +kernel
theorem d_law_654 : decode code 654 = .ok (.aload_n 2, 1) := by decide +kernel
theorem d_law_655 : decode code 655 = .ok (.aload_n 0, 1) := by decide +kernel
theorem d_law_656 : decode code 656 = .ok (.iload 4, 2) := by decide +kernel
theorem d_law_658 : decode code 658 = .ok (.iconst 1, 1) := by decide +kernel
theorem d_law_659 : decode code 659 = .ok (.iadd, 1) := by decide +kernel
theorem d_law_660 : decode code 660 = .ok (.iaload, 1) := by decide +kernel
theorem d_law_661 : decode code 661 = .ok (.invokevirtual 98, 3) := by decide +kernel
theorem d_law_664 : decode code 664 = .ok (.if_icmp .eq 5, 3) := by decide +kernel
theorem d_law_669 : decode code 669 = .ok (.iinc 4 5, 3) := by decide +kernel
theorem d_law_672 : decode code 672 = .ok (.goto (-649), 3) := by decide +kernel
theorem d_law_675 : decode code 675 = .ok (.iconst 1, 1) := by decide +kernel
theorem d_law_676 : decode code 676 = .ok (.ireturn, 1) := by decide +kernel
theorem cw_L_53 {R : Room} {s : State} {args : Array Value} (hts : ∀ w ∈ AW_, w.before args s = true) (hR : rm_R_node.frames + 1 ≤ R.frames ∧ 8 + (5 + 11) + rm_R_node.locals ≤ R.locals) : CallW R s args "StagedParsersLaw" "StagedParsersModel" 53 y_R_node prog_9_method_10_code 5 (some .int) w_R_node rm_R_node 0 0 4 :=
  ⟨callB_of 4 hts (aw_in kw_921) rfl rfl rfl (hts _ kw_9) (hts _ kw_918) ⟨by decide, by decide, by decide +kernel⟩ hR, hts _ kw_919, hts _ kw_920⟩
theorem cw_L_54 {R : Room} {s : State} {args : Array Value} (hts : ∀ w ∈ AW_, w.before args s = true) (hR : rm_R_thrown.frames + 1 ≤ R.frames ∧ 8 + (1 + 11) + rm_R_thrown.locals ≤ R.locals) : CallW R s args "StagedParsersLaw" "StagedParsersModel" 54 y_R_thrown prog_9_method_2_code 1 (some .int) w_R_thrown rm_R_thrown 0 0 0 :=
  ⟨callB_of 0 hts (aw_in kw_917) rfl rfl rfl (hts _ kw_9) (hts _ kw_914) ⟨by decide, by decide, by decide +kernel⟩ hR, hts _ kw_915, hts _ kw_916⟩
theorem cw_L_61 {R : Room} {s : State} {args : Array Value} (hts : ∀ w ∈ AW_, w.before args s = true) (hR : rm_R_rule.frames + 1 ≤ R.frames ∧ 8 + (3 + 11) + rm_R_rule.locals ≤ R.locals) : CallW R s args "StagedParsersLaw" "StagedParsersModel" 61 y_R_rule prog_9_method_12_code 3 (some .int) w_R_rule rm_R_rule 0 0 2 :=
  ⟨callB_of 2 hts (aw_in kw_950) rfl rfl rfl (hts _ kw_9) (hts _ kw_947) ⟨by decide, by decide, by decide +kernel⟩ hR, hts _ kw_948, hts _ kw_949⟩
theorem cw_L_62 {R : Room} {s : State} {args : Array Value} (hts : ∀ w ∈ AW_, w.before args s = true) (hR : rm_S_stage.frames + 1 ≤ R.frames ∧ 8 + (2 + 11) + rm_S_stage.locals ≤ R.locals) : CallW R s args "StagedParsersLaw" "StagedParsers" 62 y_S_stage prog_1_method_4_code 2 (some .int) w_S_stage rm_S_stage 0 0 0 :=
  ⟨callB_of 0 hts (aw_in kw_216) rfl rfl rfl (hts _ kw_1) (hts _ kw_213) ⟨by decide, by decide, by decide +kernel⟩ hR, hts _ kw_214, hts _ kw_215⟩
theorem cw_L_65 {R : Room} {s : State} {args : Array Value} (hts : ∀ w ∈ AW_, w.before args s = true) (hR : rm_R_stage.frames + 1 ≤ R.frames ∧ 8 + (2 + 11) + rm_R_stage.locals ≤ R.locals) : CallW R s args "StagedParsersLaw" "StagedParsersModel" 65 y_R_stage prog_9_method_25_code 2 (some .int) w_R_stage rm_R_stage 0 0 0 :=
  ⟨callB_of 0 hts (aw_in kw_994) rfl rfl rfl (hts _ kw_9) (hts _ kw_991) ⟨by decide, by decide, by decide +kernel⟩ hR, hts _ kw_992, hts _ kw_993⟩
theorem cw_L_69 {R : Room} {s : State} {args : Array Value} (hts : ∀ w ∈ AW_, w.before args s = true) (hR : rm_R_empty.frames + 1 ≤ R.frames ∧ 8 + (2 + 11) + rm_R_empty.locals ≤ R.locals) : CallW R s args "StagedParsersLaw" "StagedParsersModel" 69 y_R_empty prog_9_method_19_code 2 (some .boolean) w_R_empty rm_R_empty 0 0 1 :=
  ⟨callB_of 1 hts (aw_in kw_958) rfl rfl rfl (hts _ kw_9) (hts _ kw_955) ⟨by decide, by decide, by decide +kernel⟩ hR, hts _ kw_956, hts _ kw_957⟩
theorem cw_L_72 {R : Room} {s : State} {args : Array Value} (hts : ∀ w ∈ AW_, w.before args s = true) (hR : rm_R_begins.frames + 1 ≤ R.frames ∧ 8 + (3 + 11) + rm_R_begins.locals ≤ R.locals) : CallW R s args "StagedParsersLaw" "StagedParsersModel" 72 y_R_begins prog_9_method_20_code 3 (some .boolean) w_R_begins rm_R_begins 0 0 2 :=
  ⟨callB_of 2 hts (aw_in kw_970) rfl rfl rfl (hts _ kw_9) (hts _ kw_967) ⟨by decide, by decide, by decide +kernel⟩ hR, hts _ kw_968, hts _ kw_969⟩
theorem cw_L_75 {R : Room} {s : State} {args : Array Value} (hts : ∀ w ∈ AW_, w.before args s = true) (hR : rm_R_leads.frames + 1 ≤ R.frames ∧ 8 + (2 + 11) + rm_R_leads.locals ≤ R.locals) : CallW R s args "StagedParsersLaw" "StagedParsersModel" 75 y_R_leads prog_9_method_21_code 2 (some .int) w_R_leads rm_R_leads 0 0 1 :=
  ⟨callB_of 1 hts (aw_in kw_982) rfl rfl rfl (hts _ kw_9) (hts _ kw_979) ⟨by decide, by decide, by decide +kernel⟩ hR, hts _ kw_980, hts _ kw_981⟩
theorem cw_L_79 {R : Room} {s : State} {args : Array Value} (hts : ∀ w ∈ AW_, w.before args s = true) (hR : rm_R_type.frames + 1 ≤ R.frames ∧ 8 + (2 + 11) + rm_R_type.locals ≤ R.locals) : CallW R s args "StagedParsersLaw" "StagedParsersModel" 79 y_R_type prog_9_method_26_code 2 (some .int) w_R_type rm_R_type 0 0 1 :=
  ⟨callB_of 1 hts (aw_in kw_1010) rfl rfl rfl (hts _ kw_9) (hts _ kw_1007) ⟨by decide, by decide, by decide +kernel⟩ hR, hts _ kw_1008, hts _ kw_1009⟩
theorem cw_L_80 {R : Room} {s : State} {args : Array Value} (hts : ∀ w ∈ AW_, w.before args s = true) (hR : rm_S_clear.frames + 1 ≤ R.frames ∧ 8 + (2 + 11) + rm_S_clear.locals ≤ R.locals) : CallW R s args "StagedParsersLaw" "StagedParsers" 80 y_S_clear prog_1_method_9_code 2 (some .int) w_S_clear rm_S_clear 0 0 0 :=
  ⟨callB_of 0 hts (aw_in kw_360) rfl rfl rfl (hts _ kw_1) (hts _ kw_357) ⟨by decide, by decide, by decide +kernel⟩ hR, hts _ kw_358, hts _ kw_359⟩
theorem cw_L_83 {R : Room} {s : State} {args : Array Value} (hts : ∀ w ∈ AW_, w.before args s = true) (hR : rm_R_clear.frames + 1 ≤ R.frames ∧ 8 + (2 + 11) + rm_R_clear.locals ≤ R.locals) : CallW R s args "StagedParsersLaw" "StagedParsersModel" 83 y_R_clear prog_9_method_27_code 2 (some .int) w_R_clear rm_R_clear 0 0 0 :=
  ⟨callB_of 0 hts (aw_in kw_1014) rfl rfl rfl (hts _ kw_9) (hts _ kw_1011) ⟨by decide, by decide, by decide +kernel⟩ hR, hts _ kw_1012, hts _ kw_1013⟩
theorem cw_L_86 {R : Room} {s : State} {args : Array Value} (hts : ∀ w ∈ AW_, w.before args s = true) (hR : rm_R_parse.frames + 1 ≤ R.frames ∧ 8 + (2 + 11) + rm_R_parse.locals ≤ R.locals) : CallW R s args "StagedParsersLaw" "StagedParsersModel" 86 y_R_parse prog_9_method_40_code 2 (some .int) w_R_parse rm_R_parse 0 0 1 :=
  ⟨callB_of 1 hts (aw_in kw_1018) rfl rfl rfl (hts _ kw_9) (hts _ kw_1015) ⟨by decide, by decide, by decide +kernel⟩ hR, hts _ kw_1016, hts _ kw_1017⟩
theorem cw_L_87 {R : Room} {s : State} {args : Array Value} (hts : ∀ w ∈ AW_, w.before args s = true) (hR : rm_S_latest.frames + 1 ≤ R.frames ∧ 8 + (2 + 11) + rm_S_latest.locals ≤ R.locals) : CallW R s args "StagedParsersLaw" "StagedParsers" 87 y_S_latest prog_1_method_11_code 2 (some .int) w_S_latest rm_S_latest 0 0 1 :=
  ⟨callB_of 1 hts (aw_in kw_372) rfl rfl rfl (hts _ kw_1) (hts _ kw_369) ⟨by decide, by decide, by decide +kernel⟩ hR, hts _ kw_370, hts _ kw_371⟩
theorem cw_L_90 {R : Room} {s : State} {args : Array Value} (hts : ∀ w ∈ AW_, w.before args s = true) (hR : rm_R_latest.frames + 1 ≤ R.frames ∧ 8 + (2 + 11) + rm_R_latest.locals ≤ R.locals) : CallW R s args "StagedParsersLaw" "StagedParsersModel" 90 y_R_latest prog_9_method_41_code 2 (some .int) w_R_latest rm_R_latest 0 0 1 :=
  ⟨callB_of 1 hts (aw_in kw_1069) rfl rfl rfl (hts _ kw_9) (hts _ kw_1066) ⟨by decide, by decide, by decide +kernel⟩ hR, hts _ kw_1067, hts _ kw_1068⟩
theorem cw_L_91 {R : Room} {s : State} {args : Array Value} (hts : ∀ w ∈ AW_, w.before args s = true) (hR : rm_S_register.frames + 1 ≤ R.frames ∧ 8 + (2 + 11) + rm_S_register.locals ≤ R.locals) : CallW R s args "StagedParsersLaw" "StagedParsers" 91 y_S_register prog_1_method_12_code 2 (some .int) w_S_register rm_S_register 0 0 1 :=
  ⟨callB_of 1 hts (aw_in kw_400) rfl rfl rfl (hts _ kw_1) (hts _ kw_397) ⟨by decide, by decide, by decide +kernel⟩ hR, hts _ kw_398, hts _ kw_399⟩
theorem cw_L_94 {R : Room} {s : State} {args : Array Value} (hts : ∀ w ∈ AW_, w.before args s = true) (hR : rm_R_register.frames + 1 ≤ R.frames ∧ 8 + (2 + 11) + rm_R_register.locals ≤ R.locals) : CallW R s args "StagedParsersLaw" "StagedParsersModel" 94 y_R_register prog_9_method_42_code 2 (some .int) w_R_register rm_R_register 0 0 1 :=
  ⟨callB_of 1 hts (aw_in kw_1073) rfl rfl rfl (hts _ kw_9) (hts _ kw_1070) ⟨by decide, by decide, by decide +kernel⟩ hR, hts _ kw_1071, hts _ kw_1072⟩
theorem cw_L_95 {R : Room} {s : State} {args : Array Value} (hts : ∀ w ∈ AW_, w.before args s = true) (hR : rm_S_count.frames + 1 ≤ R.frames ∧ 8 + (2 + 11) + rm_S_count.locals ≤ R.locals) : CallW R s args "StagedParsersLaw" "StagedParsers" 95 y_S_count prog_1_method_13_code 2 (some .int) w_S_count rm_S_count 0 0 1 :=
  ⟨callB_of 1 hts (aw_in kw_412) rfl rfl rfl (hts _ kw_1) (hts _ kw_409) ⟨by decide, by decide, by decide +kernel⟩ hR, hts _ kw_410, hts _ kw_411⟩
theorem cw_L_98 {R : Room} {s : State} {args : Array Value} (hts : ∀ w ∈ AW_, w.before args s = true) (hR : rm_R_count.frames + 1 ≤ R.frames ∧ 8 + (2 + 11) + rm_R_count.locals ≤ R.locals) : CallW R s args "StagedParsersLaw" "StagedParsersModel" 98 y_R_count prog_9_method_43_code 2 (some .int) w_R_count rm_R_count 0 0 1 :=
  ⟨callB_of 1 hts (aw_in kw_1077) rfl rfl rfl (hts _ kw_9) (hts _ kw_1074) ⟨by decide, by decide, by decide +kernel⟩ hR, hts _ kw_1075, hts _ kw_1076⟩
theorem lg_same (x : Int64) : lg_cmp x x = 0 := by unfold lg_cmp; simp
theorem aw_inW {y : MethodName} {bs : ByteArray} {n : Nat} {r : Option FieldType} {hh : List (Nat × Nat × Nat × Nat)} (h : Cond.codeWith y bs n r hh ∈ AW_) : GoodIn AW_ (Cond.codeWith y bs n r hh :: AW_) := by
  intro w hw
  have hm : w ∈ AW_ := by
    rcases List.mem_cons.mp hw with rfl | hw
    · exact h
    · exact hw
  exact ⟨hm, good_of_word (List.mem_filter.mp hm).2⟩
theorem un_node {σ μ : MZ_} {a1 a2 a3 a4 : Int32} (f : Nat → Int64) (h : Vn_ σ μ) : ∃ (kq : Int32) (σ2 : MZ_) (f2 : Nat → Int64) (y : Int32) (μ2 : MZ_), ((kq = 0 ∧ ∃ x, f_S_node σ a1 a2 a3 a4 = some (x, σ2) ∧ f2 = vp_updL f 0 x.toInt64) ∨ (kq = 1 ∧ f2 = f ∧ f_S_node_t1 σ a1 a2 a3 a4 = some σ2) ∨ (kq = 2 ∧ f2 = f ∧ f_S_node_t2 σ a1 a2 a3 a4 = some σ2)) ∧ f_R_node μ a1 a2 a3 a4 = some (y, μ2) ∧ Vn_ σ2 μ2 ∧ μ2 30 0 = kq ∧ (kq = 0 → f2 0 = y.toInt64) := by
  rcases al_node (k := a1) (a := a2) (b := a3) (c := a4) h with ⟨x, σ2, μ2, e1, e2, e3, e4⟩ | ⟨σ2, μ2, y, e1, e2, e3, e4⟩ | ⟨σ2, μ2, y, e1, e2, e3, e4⟩
  · exact ⟨0, σ2, _, x, μ2, Or.inl ⟨rfl, x, e1, rfl⟩, e2, e3, e4, fun _ => pk_uLs⟩
  · exact ⟨1, σ2, f, y, μ2, Or.inr (Or.inl ⟨rfl, rfl, e1⟩), e2, e3, e4, fun h9 => absurd h9 (by decide)⟩
  · exact ⟨2, σ2, f, y, μ2, Or.inr (Or.inr ⟨rfl, rfl, e1⟩), e2, e3, e4, fun h9 => absurd h9 (by decide)⟩
theorem un_rule {σ μ : MZ_} {a1 a2 : Int32} (f : Nat → Int64) (h : Vn_ σ μ) : ∃ (kq : Int32) (σ2 : MZ_) (f2 : Nat → Int64) (y : Int32) (μ2 : MZ_), ((kq = 0 ∧ ∃ x, f_S_rule σ a1 a2 = some (x, σ2) ∧ f2 = vp_updL f 0 x.toInt64) ∨ (kq = 1 ∧ f2 = f ∧ f_S_rule_t1 σ a1 a2 = some σ2)) ∧ f_R_rule μ a1 a2 = some (y, μ2) ∧ Vn_ σ2 μ2 ∧ μ2 30 0 = kq ∧ (kq = 0 → f2 0 = y.toInt64) := by
  rcases al_rule (a := a1) (b := a2) h with ⟨x, σ2, μ2, e1, e2, e3, e4⟩ | ⟨σ2, μ2, y, e1, e2, e3, e4⟩
  · exact ⟨0, σ2, _, x, μ2, Or.inl ⟨rfl, x, e1, rfl⟩, e2, e3, e4, fun _ => pk_uLs⟩
  · exact ⟨1, σ2, f, y, μ2, Or.inr ⟨rfl, rfl, e1⟩, e2, e3, e4, fun h9 => absurd h9 (by decide)⟩
theorem un_empty {σ μ : MZ_} {a1 : Int32} (f : Nat → Int64) (h : Vn_ σ μ) : ∃ (kq : Int32) (σ2 : MZ_) (f2 : Nat → Int64) (y : Int32) (μ2 : MZ_), ((kq = 0 ∧ ∃ x, f_S_empty σ a1 = some (x, σ2) ∧ f2 = vp_updL f 0 (if x = 0 then (0 : Int64) else 1)) ∨ (kq = 1 ∧ f2 = f ∧ f_S_empty_t1 σ a1 = some σ2)) ∧ f_R_empty μ a1 = some (y, μ2) ∧ Vn_ σ2 μ2 ∧ μ2 30 0 = kq ∧ (kq = 0 → f2 0 = (if y = 0 then (0 : Int64) else 1)) := by
  rcases al_empty (a := a1) h with ⟨x, σ2, μ2, e1, e2, e3, e4⟩ | ⟨σ2, μ2, y, e1, e2, e3, e4⟩
  · exact ⟨0, σ2, _, x, μ2, Or.inl ⟨rfl, x, e1, rfl⟩, e2, e3, e4, fun _ => pk_uLs⟩
  · exact ⟨1, σ2, f, y, μ2, Or.inr ⟨rfl, rfl, e1⟩, e2, e3, e4, fun h9 => absurd h9 (by decide)⟩
theorem un_begins {σ μ : MZ_} {a1 a2 : Int32} (f : Nat → Int64) (h : Vn_ σ μ) : ∃ (kq : Int32) (σ2 : MZ_) (f2 : Nat → Int64) (y : Int32) (μ2 : MZ_), ((kq = 0 ∧ ∃ x, f_S_begins σ a1 a2 = some (x, σ2) ∧ f2 = vp_updL f 0 (if x = 0 then (0 : Int64) else 1)) ∨ (kq = 1 ∧ f2 = f ∧ f_S_begins_t1 σ a1 a2 = some σ2)) ∧ f_R_begins μ a1 a2 = some (y, μ2) ∧ Vn_ σ2 μ2 ∧ μ2 30 0 = kq ∧ (kq = 0 → f2 0 = (if y = 0 then (0 : Int64) else 1)) := by
  rcases al_begins (a := a1) (b := a2) h with ⟨x, σ2, μ2, e1, e2, e3, e4⟩ | ⟨σ2, μ2, y, e1, e2, e3, e4⟩
  · exact ⟨0, σ2, _, x, μ2, Or.inl ⟨rfl, x, e1, rfl⟩, e2, e3, e4, fun _ => pk_uLs⟩
  · exact ⟨1, σ2, f, y, μ2, Or.inr ⟨rfl, rfl, e1⟩, e2, e3, e4, fun h9 => absurd h9 (by decide)⟩
theorem un_leads {σ μ : MZ_} {a1 : Int32} (f : Nat → Int64) (h : Vn_ σ μ) : ∃ (kq : Int32) (σ2 : MZ_) (f2 : Nat → Int64) (y : Int32) (μ2 : MZ_), ((kq = 0 ∧ ∃ x, f_S_leads σ a1 = some (x, σ2) ∧ f2 = vp_updL f 0 x.toInt64) ∨ (kq = 1 ∧ f2 = f ∧ f_S_leads_t1 σ a1 = some σ2)) ∧ f_R_leads μ a1 = some (y, μ2) ∧ Vn_ σ2 μ2 ∧ μ2 30 0 = kq ∧ (kq = 0 → f2 0 = y.toInt64) := by
  rcases al_leads (a := a1) h with ⟨x, σ2, μ2, e1, e2, e3, e4⟩ | ⟨σ2, μ2, y, e1, e2, e3, e4⟩
  · exact ⟨0, σ2, _, x, μ2, Or.inl ⟨rfl, x, e1, rfl⟩, e2, e3, e4, fun _ => pk_uLs⟩
  · exact ⟨1, σ2, f, y, μ2, Or.inr ⟨rfl, rfl, e1⟩, e2, e3, e4, fun h9 => absurd h9 (by decide)⟩
theorem un_type {σ μ : MZ_} {t : Nat} (f : Nat → Int64) (h : Vn_ σ μ) (ht : t < 65536) : ∃ (kq : Int32) (σ2 : MZ_) (f2 : Nat → Int64) (y : Int32) (μ2 : MZ_), ((kq = 0 ∧ ∃ x, f_S_type σ (nI t) = some (x, σ2) ∧ f2 = vp_updL f 0 x.toInt64) ∨ (kq = 1 ∧ f2 = f ∧ f_S_type_t1 σ (nI t) = some σ2) ∨ (kq = 2 ∧ f2 = f ∧ f_S_type_t2 σ (nI t) = some σ2)) ∧ f_R_type μ (nI t) = some (y, μ2) ∧ Vn_ σ2 μ2 ∧ μ2 30 0 = kq ∧ (kq = 0 → f2 0 = y.toInt64) := by
  rcases al_type h ht with ⟨x, σ2, μ2, e1, e2, e3, e4⟩ | ⟨σ2, μ2, y, e1, e2, e3, e4⟩ | ⟨σ2, μ2, y, e1, e2, e3, e4⟩
  · exact ⟨0, σ2, _, x, μ2, Or.inl ⟨rfl, x, e1, rfl⟩, e2, e3, e4, fun _ => pk_uLs⟩
  · exact ⟨1, σ2, f, y, μ2, Or.inr (Or.inl ⟨rfl, rfl, e1⟩), e2, e3, e4, fun h9 => absurd h9 (by decide)⟩
  · exact ⟨2, σ2, f, y, μ2, Or.inr (Or.inr ⟨rfl, rfl, e1⟩), e2, e3, e4, fun h9 => absurd h9 (by decide)⟩
theorem un_parse {σ μ : MZ_} {a1 : Int32} (f : Nat → Int64) (h : Vn_ σ μ) : ∃ (K : Nat) (kq : Int32) (σ2 : MZ_) (f2 : Nat → Int64) (y : Int32) (μ2 : MZ_), ((kq = 0 ∧ ∃ x, f_S_parse σ a1 = some (x, σ2) ∧ f2 = vp_updL f 0 x.toInt64) ∨ (kq = 1 ∧ f2 = f ∧ f_S_parse_t1 σ a1 = some σ2) ∨ (kq = 2 ∧ f2 = f ∧ f_S_parse_t2 σ a1 = some σ2) ∨ (kq = 3 ∧ f2 = f ∧ f_S_parse_t3 σ a1 = some σ2) ∨ (kq = 4 ∧ f2 = f ∧ f_S_parse_t4 σ a1 = some σ2)) ∧ f_R_parse K μ a1 = some (y, μ2) ∧ Vn_ σ2 μ2 ∧ μ2 30 0 = kq ∧ (kq = 0 → f2 0 = y.toInt64) := by
  obtain ⟨K, hal⟩ := al_parse (a := a1) h
  rcases hal with ⟨x, σ2, μ2, e1, e2, e3, e4⟩ | ⟨σ2, μ2, y, e1, e2, e3, e4⟩ | ⟨σ2, μ2, y, e1, e2, e3, e4⟩ | ⟨σ2, μ2, y, e1, e2, e3, e4⟩ | ⟨σ2, μ2, y, e1, e2, e3, e4⟩
  · exact ⟨K, 0, σ2, _, x, μ2, Or.inl ⟨rfl, x, e1, rfl⟩, e2, e3, e4, fun _ => pk_uLs⟩
  · exact ⟨K, 1, σ2, f, y, μ2, Or.inr (Or.inl ⟨rfl, rfl, e1⟩), e2, e3, e4, fun h9 => absurd h9 (by decide)⟩
  · exact ⟨K, 2, σ2, f, y, μ2, Or.inr (Or.inr (Or.inl ⟨rfl, rfl, e1⟩)), e2, e3, e4, fun h9 => absurd h9 (by decide)⟩
  · exact ⟨K, 3, σ2, f, y, μ2, Or.inr (Or.inr (Or.inr (Or.inl ⟨rfl, rfl, e1⟩))), e2, e3, e4, fun h9 => absurd h9 (by decide)⟩
  · exact ⟨K, 4, σ2, f, y, μ2, Or.inr (Or.inr (Or.inr (Or.inr ⟨rfl, rfl, e1⟩))), e2, e3, e4, fun h9 => absurd h9 (by decide)⟩
