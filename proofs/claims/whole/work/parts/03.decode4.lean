theorem dX9_free_149 : decode cX9_free 149 = .ok (.lstore 10, 2) := by decide +kernel
theorem dX9_free_151 : decode cX9_free 151 = .ok (.lload 4, 2) := by decide +kernel
theorem dX9_free_153 : decode cX9_free 153 = .ok (.lconst 1, 1) := by decide +kernel
theorem dX9_free_154 : decode cX9_free 154 = .ok (.lcmp, 1) := by decide +kernel
theorem dX9_free_155 : decode cX9_free 155 = .ok (.ifCond .ne 15, 3) := by decide +kernel
theorem dX9_free_158 : decode cX9_free 158 = .ok (.aload_n 0, 1) := by decide +kernel
theorem dX9_free_159 : decode cX9_free 159 = .ok (.getfield 54, 3) := by decide +kernel
theorem dX9_free_162 : decode cX9_free 162 = .ok (.iload_n 2, 1) := by decide +kernel
theorem dX9_free_163 : decode cX9_free 163 = .ok (.laload, 1) := by decide +kernel
theorem dX9_free_164 : decode cX9_free 164 = .ok (.lload 6, 2) := by decide +kernel
theorem dX9_free_166 : decode cX9_free 166 = .ok (.lsub, 1) := by decide +kernel
theorem dX9_free_167 : decode cX9_free 167 = .ok (.goto 12, 3) := by decide +kernel
theorem dX9_free_170 : decode cX9_free 170 = .ok (.lload 8, 2) := by decide +kernel
theorem dX9_free_172 : decode cX9_free 172 = .ok (.aload_n 0, 1) := by decide +kernel
theorem dX9_free_173 : decode cX9_free 173 = .ok (.getfield 54, 3) := by decide +kernel
theorem dX9_free_176 : decode cX9_free 176 = .ok (.iload_n 2, 1) := by decide +kernel
theorem dX9_free_177 : decode cX9_free 177 = .ok (.laload, 1) := by decide +kernel
theorem dX9_free_178 : decode cX9_free 178 = .ok (.lsub, 1) := by decide +kernel
theorem dX9_free_179 : decode cX9_free 179 = .ok (.lstore 12, 2) := by decide +kernel
theorem dX9_free_181 : decode cX9_free 181 = .ok (.lload 4, 2) := by decide +kernel
theorem dX9_free_183 : decode cX9_free 183 = .ok (.aload_n 0, 1) := by decide +kernel
theorem dX9_free_184 : decode cX9_free 184 = .ok (.getfield 54, 3) := by decide +kernel
theorem dX9_free_187 : decode cX9_free 187 = .ok (.iload_n 2, 1) := by decide +kernel
theorem dX9_free_188 : decode cX9_free 188 = .ok (.laload, 1) := by decide +kernel
theorem dX9_free_189 : decode cX9_free 189 = .ok (.lmul, 1) := by decide +kernel
theorem dX9_free_190 : decode cX9_free 190 = .ok (.lstore 14, 2) := by decide +kernel
theorem dX9_free_192 : decode cX9_free 192 = .ok (.lload 10, 2) := by decide +kernel
theorem dX9_free_194 : decode cX9_free 194 = .ok (.aload_n 0, 1) := by decide +kernel
theorem dX9_free_195 : decode cX9_free 195 = .ok (.getfield 31, 3) := by decide +kernel
theorem dX9_free_198 : decode cX9_free 198 = .ok (.iload_n 1, 1) := by decide +kernel
theorem dX9_free_199 : decode cX9_free 199 = .ok (.iaload, 1) := by decide +kernel
theorem dX9_free_200 : decode cX9_free 200 = .ok (.i2l, 1) := by decide +kernel
theorem dX9_free_201 : decode cX9_free 201 = .ok (.lcmp, 1) := by decide +kernel
theorem dX9_free_202 : decode cX9_free 202 = .ok (.ifCond .lt 41, 3) := by decide +kernel
theorem dX9_free_205 : decode cX9_free 205 = .ok (.lload 12, 2) := by decide +kernel
theorem dX9_free_207 : decode cX9_free 207 = .ok (.aload_n 0, 1) := by decide +kernel
theorem dX9_free_208 : decode cX9_free 208 = .ok (.getfield 34, 3) := by decide +kernel
theorem dX9_free_211 : decode cX9_free 211 = .ok (.iload_n 1, 1) := by decide +kernel
theorem dX9_free_212 : decode cX9_free 212 = .ok (.iaload, 1) := by decide +kernel
theorem dX9_free_213 : decode cX9_free 213 = .ok (.i2l, 1) := by decide +kernel
theorem dX9_free_214 : decode cX9_free 214 = .ok (.lcmp, 1) := by decide +kernel
theorem dX9_free_215 : decode cX9_free 215 = .ok (.ifCond .gt 28, 3) := by decide +kernel
theorem dX9_free_218 : decode cX9_free 218 = .ok (.lload 14, 2) := by decide +kernel
theorem dX9_free_220 : decode cX9_free 220 = .ok (.aload_n 0, 1) := by decide +kernel
theorem dX9_free_221 : decode cX9_free 221 = .ok (.getfield 43, 3) := by decide +kernel
theorem dX9_free_224 : decode cX9_free 224 = .ok (.iload_n 1, 1) := by decide +kernel
theorem dX9_free_225 : decode cX9_free 225 = .ok (.laload, 1) := by decide +kernel
theorem dX9_free_226 : decode cX9_free 226 = .ok (.lmul, 1) := by decide +kernel
theorem dX9_free_227 : decode cX9_free 227 = .ok (.ldc2_w 255, 3) := by decide +kernel
theorem dX9_free_230 : decode cX9_free 230 = .ok (.ldc2_w 257, 3) := by decide +kernel
theorem dX9_free_233 : decode cX9_free 233 = .ok (.invokestatic 133, 3) := by decide +kernel
theorem dX9_free_236 : decode cX9_free 236 = .ok (.ifCond .eq 7, 3) := by decide +kernel
theorem dX9_free_239 : decode cX9_free 239 = .ok (.iconst 1, 1) := by decide +kernel
theorem dX9_free_240 : decode cX9_free 240 = .ok (.goto 4, 3) := by decide +kernel
theorem dX9_free_243 : decode cX9_free 243 = .ok (.iconst 0, 1) := by decide +kernel
theorem dX9_free_244 : decode cX9_free 244 = .ok (.istore 16, 2) := by decide +kernel
theorem dX9_free_246 : decode cX9_free 246 = .ok (.iconst 0, 1) := by decide +kernel
theorem dX9_free_247 : decode cX9_free 247 = .ok (.istore 17, 2) := by decide +kernel
theorem dX9_free_249 : decode cX9_free 249 = .ok (.iload 17, 2) := by decide +kernel
theorem dX9_free_251 : decode cX9_free 251 = .ok (.aload_n 0, 1) := by decide +kernel
theorem dX9_free_252 : decode cX9_free 252 = .ok (.getfield 141, 3) := by decide +kernel
theorem dX9_free_255 : decode cX9_free 255 = .ok (.if_icmp .ge 73, 3) := by decide +kernel
theorem dX9_free_258 : decode cX9_free 258 = .ok (.iload 16, 2) := by decide +kernel
theorem dX9_free_260 : decode cX9_free 260 = .ok (.ifCond .eq 59, 3) := by decide +kernel
theorem dX9_free_263 : decode cX9_free 263 = .ok (.iload 17, 2) := by decide +kernel
theorem dX9_free_265 : decode cX9_free 265 = .ok (.iload_n 1, 1) := by decide +kernel
theorem dX9_free_266 : decode cX9_free 266 = .ok (.if_icmp .eq 49, 3) := by decide +kernel
theorem dX9_free_269 : decode cX9_free 269 = .ok (.aload_n 0, 1) := by decide +kernel
theorem dX9_free_270 : decode cX9_free 270 = .ok (.iload_n 2, 1) := by decide +kernel
theorem dX9_free_271 : decode cX9_free 271 = .ok (.iload 17, 2) := by decide +kernel
theorem dX9_free_273 : decode cX9_free 273 = .ok (.invokevirtual 165, 3) := by decide +kernel
theorem dX9_free_276 : decode cX9_free 276 = .ok (.ifCond .eq 39, 3) := by decide +kernel
theorem dX9_free_279 : decode cX9_free 279 = .ok (.aload_n 0, 1) := by decide +kernel
theorem dX9_free_280 : decode cX9_free 280 = .ok (.getfield 43, 3) := by decide +kernel
theorem dX9_free_283 : decode cX9_free 283 = .ok (.iload 17, 2) := by decide +kernel
theorem dX9_free_285 : decode cX9_free 285 = .ok (.laload, 1) := by decide +kernel
theorem dX9_free_286 : decode cX9_free 286 = .ok (.lload 4, 2) := by decide +kernel
theorem dX9_free_288 : decode cX9_free 288 = .ok (.aload_n 0, 1) := by decide +kernel
theorem dX9_free_289 : decode cX9_free 289 = .ok (.getfield 60, 3) := by decide +kernel
theorem dX9_free_292 : decode cX9_free 292 = .ok (.bipush 12, 2) := by decide +kernel
theorem dX9_free_294 : decode cX9_free 294 = .ok (.iload_n 2, 1) := by decide +kernel
theorem dX9_free_295 : decode cX9_free 295 = .ok (.imul, 1) := by decide +kernel
theorem dX9_free_296 : decode cX9_free 296 = .ok (.iload 17, 2) := by decide +kernel
theorem dX9_free_298 : decode cX9_free 298 = .ok (.iadd, 1) := by decide +kernel
theorem dX9_free_299 : decode cX9_free 299 = .ok (.laload, 1) := by decide +kernel
theorem dX9_free_300 : decode cX9_free 300 = .ok (.lmul, 1) := by decide +kernel
theorem dX9_free_301 : decode cX9_free 301 = .ok (.aload_n 0, 1) := by decide +kernel
theorem dX9_free_302 : decode cX9_free 302 = .ok (.getfield 43, 3) := by decide +kernel
theorem dX9_free_305 : decode cX9_free 305 = .ok (.iload_n 1, 1) := by decide +kernel
theorem dX9_free_306 : decode cX9_free 306 = .ok (.laload, 1) := by decide +kernel
theorem dX9_free_307 : decode cX9_free 307 = .ok (.lmul, 1) := by decide +kernel
theorem dX9_free_308 : decode cX9_free 308 = .ok (.lsub, 1) := by decide +kernel
theorem dX9_free_309 : decode cX9_free 309 = .ok (.invokestatic 252, 3) := by decide +kernel
theorem dX9_free_312 : decode cX9_free 312 = .ok (.ifCond .eq 7, 3) := by decide +kernel
theorem dX9_free_315 : decode cX9_free 315 = .ok (.iconst 1, 1) := by decide +kernel
theorem dX9_free_316 : decode cX9_free 316 = .ok (.goto 4, 3) := by decide +kernel
theorem dX9_free_319 : decode cX9_free 319 = .ok (.iconst 0, 1) := by decide +kernel
theorem dX9_free_320 : decode cX9_free 320 = .ok (.istore 16, 2) := by decide +kernel
theorem dX9_free_322 : decode cX9_free 322 = .ok (.iinc 17 1, 3) := by decide +kernel
theorem dX9_free_325 : decode cX9_free 325 = .ok (.goto (-76), 3) := by decide +kernel
theorem dX9_free_328 : decode cX9_free 328 = .ok (.iload 16, 2) := by decide +kernel
theorem dX9_free_330 : decode cX9_free 330 = .ok (.ifCond .ne 4, 3) := by decide +kernel
theorem dX9_free_333 : decode cX9_free 333 = .ok (.return_, 1) := by decide +kernel
theorem dX9_free_334 : decode cX9_free 334 = .ok (.iconst 0, 1) := by decide +kernel
theorem dX9_free_335 : decode cX9_free 335 = .ok (.istore 17, 2) := by decide +kernel
theorem dX9_free_337 : decode cX9_free 337 = .ok (.iload 17, 2) := by decide +kernel
theorem dX9_free_339 : decode cX9_free 339 = .ok (.aload_n 0, 1) := by decide +kernel
theorem dX9_free_340 : decode cX9_free 340 = .ok (.getfield 141, 3) := by decide +kernel
theorem dX9_free_343 : decode cX9_free 343 = .ok (.if_icmp .ge 98, 3) := by decide +kernel
theorem dX9_free_346 : decode cX9_free 346 = .ok (.iload 17, 2) := by decide +kernel
theorem dX9_free_348 : decode cX9_free 348 = .ok (.iload_n 1, 1) := by decide +kernel
theorem dX9_free_349 : decode cX9_free 349 = .ok (.if_icmp .eq 17, 3) := by decide +kernel
theorem dX9_free_352 : decode cX9_free 352 = .ok (.aload_n 0, 1) := by decide +kernel
theorem dX9_free_353 : decode cX9_free 353 = .ok (.iload_n 2, 1) := by decide +kernel
theorem dX9_free_354 : decode cX9_free 354 = .ok (.iload 17, 2) := by decide +kernel
theorem dX9_free_356 : decode cX9_free 356 = .ok (.invokevirtual 165, 3) := by decide +kernel
theorem dX9_free_359 : decode cX9_free 359 = .ok (.ifCond .eq 7, 3) := by decide +kernel
theorem dX9_free_362 : decode cX9_free 362 = .ok (.iconst 1, 1) := by decide +kernel
theorem dX9_free_363 : decode cX9_free 363 = .ok (.goto 4, 3) := by decide +kernel
theorem dX9_free_366 : decode cX9_free 366 = .ok (.iconst 0, 1) := by decide +kernel
theorem dX9_free_367 : decode cX9_free 367 = .ok (.istore 18, 2) := by decide +kernel
theorem dX9_free_369 : decode cX9_free 369 = .ok (.aload_n 0, 1) := by decide +kernel
theorem dX9_free_370 : decode cX9_free 370 = .ok (.getfield 84, 3) := by decide +kernel
theorem dX9_free_373 : decode cX9_free 373 = .ok (.bipush 12, 2) := by decide +kernel
theorem dX9_free_375 : decode cX9_free 375 = .ok (.iload_n 1, 1) := by decide +kernel
theorem dX9_free_376 : decode cX9_free 376 = .ok (.imul, 1) := by decide +kernel
theorem dX9_free_377 : decode cX9_free 377 = .ok (.iload 17, 2) := by decide +kernel
theorem dX9_free_379 : decode cX9_free 379 = .ok (.iadd, 1) := by decide +kernel
theorem dX9_free_380 : decode cX9_free 380 = .ok (.iload 18, 2) := by decide +kernel
theorem dX9_free_382 : decode cX9_free 382 = .ok (.ifCond .eq 22, 3) := by decide +kernel
theorem dX9_free_385 : decode cX9_free 385 = .ok (.lload 4, 2) := by decide +kernel
theorem dX9_free_387 : decode cX9_free 387 = .ok (.lneg, 1) := by decide +kernel
theorem dX9_free_388 : decode cX9_free 388 = .ok (.aload_n 0, 1) := by decide +kernel
theorem dX9_free_389 : decode cX9_free 389 = .ok (.getfield 60, 3) := by decide +kernel
theorem dX9_free_392 : decode cX9_free 392 = .ok (.bipush 12, 2) := by decide +kernel
theorem dX9_free_394 : decode cX9_free 394 = .ok (.iload_n 2, 1) := by decide +kernel
theorem dX9_free_395 : decode cX9_free 395 = .ok (.imul, 1) := by decide +kernel
theorem dX9_free_396 : decode cX9_free 396 = .ok (.iload 17, 2) := by decide +kernel
theorem dX9_free_398 : decode cX9_free 398 = .ok (.iadd, 1) := by decide +kernel
theorem dX9_free_399 : decode cX9_free 399 = .ok (.laload, 1) := by decide +kernel
theorem dX9_free_400 : decode cX9_free 400 = .ok (.lmul, 1) := by decide +kernel
theorem dX9_free_401 : decode cX9_free 401 = .ok (.goto 4, 3) := by decide +kernel
theorem dX9_free_404 : decode cX9_free 404 = .ok (.lconst 0, 1) := by decide +kernel
theorem dX9_free_405 : decode cX9_free 405 = .ok (.lastore, 1) := by decide +kernel
theorem dX9_free_406 : decode cX9_free 406 = .ok (.aload_n 0, 1) := by decide +kernel
theorem dX9_free_407 : decode cX9_free 407 = .ok (.getfield 43, 3) := by decide +kernel
theorem dX9_free_410 : decode cX9_free 410 = .ok (.iload 17, 2) := by decide +kernel
theorem dX9_free_412 : decode cX9_free 412 = .ok (.dup2, 1) := by decide +kernel
theorem dX9_free_413 : decode cX9_free 413 = .ok (.laload, 1) := by decide +kernel
theorem dX9_free_414 : decode cX9_free 414 = .ok (.aload_n 0, 1) := by decide +kernel
theorem dX9_free_415 : decode cX9_free 415 = .ok (.getfield 84, 3) := by decide +kernel
theorem dX9_free_418 : decode cX9_free 418 = .ok (.bipush 12, 2) := by decide +kernel
theorem dX9_free_420 : decode cX9_free 420 = .ok (.iload_n 1, 1) := by decide +kernel
theorem dX9_free_421 : decode cX9_free 421 = .ok (.imul, 1) := by decide +kernel
theorem dX9_free_422 : decode cX9_free 422 = .ok (.iload 17, 2) := by decide +kernel
theorem dX9_free_424 : decode cX9_free 424 = .ok (.iadd, 1) := by decide +kernel
theorem dX9_free_425 : decode cX9_free 425 = .ok (.laload, 1) := by decide +kernel
theorem dX9_free_426 : decode cX9_free 426 = .ok (.aload_n 0, 1) := by decide +kernel
theorem dX9_free_427 : decode cX9_free 427 = .ok (.getfield 43, 3) := by decide +kernel
theorem dX9_free_430 : decode cX9_free 430 = .ok (.iload_n 1, 1) := by decide +kernel
theorem dX9_free_431 : decode cX9_free 431 = .ok (.laload, 1) := by decide +kernel
theorem dX9_free_432 : decode cX9_free 432 = .ok (.lmul, 1) := by decide +kernel
theorem dX9_free_433 : decode cX9_free 433 = .ok (.ladd, 1) := by decide +kernel
theorem dX9_free_434 : decode cX9_free 434 = .ok (.lastore, 1) := by decide +kernel
theorem dX9_free_435 : decode cX9_free 435 = .ok (.iinc 17 1, 3) := by decide +kernel
theorem dX9_free_438 : decode cX9_free 438 = .ok (.goto (-101), 3) := by decide +kernel
theorem dX9_free_441 : decode cX9_free 441 = .ok (.aload_n 0, 1) := by decide +kernel
theorem dX9_free_442 : decode cX9_free 442 = .ok (.bipush 11, 2) := by decide +kernel
theorem dX9_free_444 : decode cX9_free 444 = .ok (.iload_n 2, 1) := by decide +kernel
theorem dX9_free_445 : decode cX9_free 445 = .ok (.iload_n 1, 1) := by decide +kernel
theorem dX9_free_446 : decode cX9_free 446 = .ok (.lload 14, 2) := by decide +kernel
theorem dX9_free_448 : decode cX9_free 448 = .ok (.invokevirtual 245, 3) := by decide +kernel
theorem dX9_free_451 : decode cX9_free 451 = .ok (.return_, 1) := by decide +kernel
theorem dX9_byRow_0 : decode cX9_byRow 0 = .ok (.iload_n 1, 1) := by decide +kernel
theorem dX9_byRow_1 : decode cX9_byRow 1 = .ok (.tableswitch 107 1 9 #[51, 59, 67, 75, 83, 107, 91, 107, 99], 51) := by decide +kernel
theorem dX9_byRow_52 : decode cX9_byRow 52 = .ok (.aload_n 0, 1) := by decide +kernel
theorem dX9_byRow_53 : decode cX9_byRow 53 = .ok (.iload_n 2, 1) := by decide +kernel
theorem dX9_byRow_54 : decode cX9_byRow 54 = .ok (.invokevirtual 263, 3) := by decide +kernel
theorem dX9_byRow_57 : decode cX9_byRow 57 = .ok (.goto 56, 3) := by decide +kernel
theorem dX9_byRow_60 : decode cX9_byRow 60 = .ok (.aload_n 0, 1) := by decide +kernel
theorem dX9_byRow_61 : decode cX9_byRow 61 = .ok (.iload_n 2, 1) := by decide +kernel
theorem dX9_byRow_62 : decode cX9_byRow 62 = .ok (.invokevirtual 266, 3) := by decide +kernel
theorem dX9_byRow_65 : decode cX9_byRow 65 = .ok (.goto 48, 3) := by decide +kernel
theorem dX9_byRow_68 : decode cX9_byRow 68 = .ok (.aload_n 0, 1) := by decide +kernel
theorem dX9_byRow_69 : decode cX9_byRow 69 = .ok (.iload_n 2, 1) := by decide +kernel
theorem dX9_byRow_70 : decode cX9_byRow 70 = .ok (.invokevirtual 269, 3) := by decide +kernel
theorem dX9_byRow_73 : decode cX9_byRow 73 = .ok (.goto 40, 3) := by decide +kernel
theorem dX9_byRow_76 : decode cX9_byRow 76 = .ok (.aload_n 0, 1) := by decide +kernel
theorem dX9_byRow_77 : decode cX9_byRow 77 = .ok (.iload_n 2, 1) := by decide +kernel
theorem dX9_byRow_78 : decode cX9_byRow 78 = .ok (.invokevirtual 272, 3) := by decide +kernel
theorem dX9_byRow_81 : decode cX9_byRow 81 = .ok (.goto 32, 3) := by decide +kernel
theorem dX9_byRow_84 : decode cX9_byRow 84 = .ok (.aload_n 0, 1) := by decide +kernel
theorem dX9_byRow_85 : decode cX9_byRow 85 = .ok (.iload_n 2, 1) := by decide +kernel
theorem dX9_byRow_86 : decode cX9_byRow 86 = .ok (.invokevirtual 275, 3) := by decide +kernel
theorem dX9_byRow_89 : decode cX9_byRow 89 = .ok (.goto 24, 3) := by decide +kernel
theorem dX9_byRow_92 : decode cX9_byRow 92 = .ok (.aload_n 0, 1) := by decide +kernel
theorem dX9_byRow_93 : decode cX9_byRow 93 = .ok (.iload_n 2, 1) := by decide +kernel
theorem dX9_byRow_94 : decode cX9_byRow 94 = .ok (.invokevirtual 278, 3) := by decide +kernel
theorem dX9_byRow_97 : decode cX9_byRow 97 = .ok (.goto 16, 3) := by decide +kernel
theorem dX9_byRow_100 : decode cX9_byRow 100 = .ok (.aload_n 0, 1) := by decide +kernel
theorem dX9_byRow_101 : decode cX9_byRow 101 = .ok (.iload_n 2, 1) := by decide +kernel
theorem dX9_byRow_102 : decode cX9_byRow 102 = .ok (.invokevirtual 281, 3) := by decide +kernel
theorem dX9_byRow_105 : decode cX9_byRow 105 = .ok (.goto 8, 3) := by decide +kernel
theorem dX9_byRow_108 : decode cX9_byRow 108 = .ok (.aload_n 0, 1) := by decide +kernel
theorem dX9_byRow_109 : decode cX9_byRow 109 = .ok (.iload_n 2, 1) := by decide +kernel
theorem dX9_byRow_110 : decode cX9_byRow 110 = .ok (.invokevirtual 284, 3) := by decide +kernel
theorem dX9_byRow_113 : decode cX9_byRow 113 = .ok (.return_, 1) := by decide +kernel
theorem dX9_byColumn_0 : decode cX9_byColumn 0 = .ok (.iload_n 1, 1) := by decide +kernel
theorem dX9_byColumn_1 : decode cX9_byColumn 1 = .ok (.bipush 6, 2) := by decide +kernel
theorem dX9_byColumn_3 : decode cX9_byColumn 3 = .ok (.if_icmp .ne 11, 3) := by decide +kernel
theorem dX9_byColumn_6 : decode cX9_byColumn 6 = .ok (.aload_n 0, 1) := by decide +kernel
theorem dX9_byColumn_7 : decode cX9_byColumn 7 = .ok (.iload_n 2, 1) := by decide +kernel
theorem dX9_byColumn_8 : decode cX9_byColumn 8 = .ok (.invokevirtual 287, 3) := by decide +kernel
theorem dX9_byColumn_11 : decode cX9_byColumn 11 = .ok (.goto 22, 3) := by decide +kernel
theorem dX9_byColumn_14 : decode cX9_byColumn 14 = .ok (.iload_n 1, 1) := by decide +kernel
theorem dX9_byColumn_15 : decode cX9_byColumn 15 = .ok (.bipush 8, 2) := by decide +kernel
theorem dX9_byColumn_17 : decode cX9_byColumn 17 = .ok (.if_icmp .ne 11, 3) := by decide +kernel
theorem dX9_byColumn_20 : decode cX9_byColumn 20 = .ok (.aload_n 0, 1) := by decide +kernel
theorem dX9_byColumn_21 : decode cX9_byColumn 21 = .ok (.iload_n 2, 1) := by decide +kernel
theorem dX9_byColumn_22 : decode cX9_byColumn 22 = .ok (.invokevirtual 290, 3) := by decide +kernel
theorem dX9_byColumn_25 : decode cX9_byColumn 25 = .ok (.goto 8, 3) := by decide +kernel
theorem dX9_byColumn_28 : decode cX9_byColumn 28 = .ok (.aload_n 0, 1) := by decide +kernel
theorem dX9_byColumn_29 : decode cX9_byColumn 29 = .ok (.iload_n 2, 1) := by decide +kernel
theorem dX9_byColumn_30 : decode cX9_byColumn 30 = .ok (.invokevirtual 293, 3) := by decide +kernel
theorem dX9_byColumn_33 : decode cX9_byColumn 33 = .ok (.return_, 1) := by decide +kernel
theorem dX9_rule_0 : decode cX9_rule 0 = .ok (.iload_n 1, 1) := by decide +kernel
theorem dX9_rule_1 : decode cX9_rule 1 = .ok (.bipush 6, 2) := by decide +kernel
theorem dX9_rule_3 : decode cX9_rule 3 = .ok (.if_icmp .eq 15, 3) := by decide +kernel
theorem dX9_rule_6 : decode cX9_rule 6 = .ok (.iload_n 1, 1) := by decide +kernel
theorem dX9_rule_7 : decode cX9_rule 7 = .ok (.bipush 8, 2) := by decide +kernel
theorem dX9_rule_9 : decode cX9_rule 9 = .ok (.if_icmp .eq 9, 3) := by decide +kernel
theorem dX9_rule_12 : decode cX9_rule 12 = .ok (.iload_n 1, 1) := by decide +kernel
theorem dX9_rule_13 : decode cX9_rule 13 = .ok (.bipush 11, 2) := by decide +kernel
theorem dX9_rule_15 : decode cX9_rule 15 = .ok (.if_icmp .ne 7, 3) := by decide +kernel
theorem dX9_rule_18 : decode cX9_rule 18 = .ok (.iconst 1, 1) := by decide +kernel
theorem dX9_rule_19 : decode cX9_rule 19 = .ok (.goto 4, 3) := by decide +kernel
theorem dX9_rule_22 : decode cX9_rule 22 = .ok (.iconst 0, 1) := by decide +kernel
theorem dX9_rule_23 : decode cX9_rule 23 = .ok (.istore_n 2, 1) := by decide +kernel
theorem dX9_rule_24 : decode cX9_rule 24 = .ok (.iconst 0, 1) := by decide +kernel
theorem dX9_rule_25 : decode cX9_rule 25 = .ok (.istore_n 3, 1) := by decide +kernel
theorem dX9_rule_26 : decode cX9_rule 26 = .ok (.iload_n 3, 1) := by decide +kernel
theorem dX9_rule_27 : decode cX9_rule 27 = .ok (.aload_n 0, 1) := by decide +kernel
theorem dX9_rule_28 : decode cX9_rule 28 = .ok (.getfield 151, 3) := by decide +kernel
theorem dX9_rule_31 : decode cX9_rule 31 = .ok (.if_icmp .ge 35, 3) := by decide +kernel
theorem dX9_rule_34 : decode cX9_rule 34 = .ok (.iload_n 2, 1) := by decide +kernel
theorem dX9_rule_35 : decode cX9_rule 35 = .ok (.ifCond .ne 31, 3) := by decide +kernel
theorem dX9_rule_38 : decode cX9_rule 38 = .ok (.aload_n 0, 1) := by decide +kernel
theorem dX9_rule_39 : decode cX9_rule 39 = .ok (.getfield 50, 3) := by decide +kernel
theorem dX9_rule_42 : decode cX9_rule 42 = .ok (.iload_n 3, 1) := by decide +kernel
theorem dX9_rule_43 : decode cX9_rule 43 = .ok (.baload, 1) := by decide +kernel
theorem dX9_rule_44 : decode cX9_rule 44 = .ok (.ifCond .ne 16, 3) := by decide +kernel
theorem dX9_rule_47 : decode cX9_rule 47 = .ok (.aload_n 0, 1) := by decide +kernel
theorem dX9_rule_48 : decode cX9_rule 48 = .ok (.invokevirtual 175, 3) := by decide +kernel
theorem dX9_rule_51 : decode cX9_rule 51 = .ok (.ifCond .eq 9, 3) := by decide +kernel
theorem dX9_rule_54 : decode cX9_rule 54 = .ok (.aload_n 0, 1) := by decide +kernel
theorem dX9_rule_55 : decode cX9_rule 55 = .ok (.iload_n 1, 1) := by decide +kernel
theorem dX9_rule_56 : decode cX9_rule 56 = .ok (.iload_n 3, 1) := by decide +kernel
theorem dX9_rule_57 : decode cX9_rule 57 = .ok (.invokevirtual 296, 3) := by decide +kernel
theorem dX9_rule_60 : decode cX9_rule 60 = .ok (.iinc 3 1, 3) := by decide +kernel
theorem dX9_rule_63 : decode cX9_rule 63 = .ok (.goto (-37), 3) := by decide +kernel
theorem dX9_rule_66 : decode cX9_rule 66 = .ok (.iconst 0, 1) := by decide +kernel
theorem dX9_rule_67 : decode cX9_rule 67 = .ok (.istore_n 3, 1) := by decide +kernel
theorem dX9_rule_68 : decode cX9_rule 68 = .ok (.iload_n 3, 1) := by decide +kernel
theorem dX9_rule_69 : decode cX9_rule 69 = .ok (.aload_n 0, 1) := by decide +kernel
theorem dX9_rule_70 : decode cX9_rule 70 = .ok (.getfield 141, 3) := by decide +kernel
theorem dX9_rule_73 : decode cX9_rule 73 = .ok (.if_icmp .ge 35, 3) := by decide +kernel
theorem dX9_rule_76 : decode cX9_rule 76 = .ok (.iload_n 2, 1) := by decide +kernel
theorem dX9_rule_77 : decode cX9_rule 77 = .ok (.ifCond .eq 31, 3) := by decide +kernel
theorem dX9_rule_80 : decode cX9_rule 80 = .ok (.aload_n 0, 1) := by decide +kernel
theorem dX9_rule_81 : decode cX9_rule 81 = .ok (.getfield 28, 3) := by decide +kernel
theorem dX9_rule_84 : decode cX9_rule 84 = .ok (.iload_n 3, 1) := by decide +kernel
theorem dX9_rule_85 : decode cX9_rule 85 = .ok (.iaload, 1) := by decide +kernel
theorem dX9_rule_86 : decode cX9_rule 86 = .ok (.ifCond .ne 16, 3) := by decide +kernel
theorem dX9_rule_89 : decode cX9_rule 89 = .ok (.aload_n 0, 1) := by decide +kernel
theorem dX9_rule_90 : decode cX9_rule 90 = .ok (.invokevirtual 175, 3) := by decide +kernel
theorem dX9_rule_93 : decode cX9_rule 93 = .ok (.ifCond .eq 9, 3) := by decide +kernel
theorem dX9_rule_96 : decode cX9_rule 96 = .ok (.aload_n 0, 1) := by decide +kernel
theorem dX9_rule_97 : decode cX9_rule 97 = .ok (.iload_n 1, 1) := by decide +kernel
theorem dX9_rule_98 : decode cX9_rule 98 = .ok (.iload_n 3, 1) := by decide +kernel
theorem dX9_rule_99 : decode cX9_rule 99 = .ok (.invokevirtual 299, 3) := by decide +kernel
theorem dX9_rule_102 : decode cX9_rule 102 = .ok (.iinc 3 1, 3) := by decide +kernel
theorem dX9_rule_105 : decode cX9_rule 105 = .ok (.goto (-37), 3) := by decide +kernel
theorem dX9_rule_108 : decode cX9_rule 108 = .ok (.return_, 1) := by decide +kernel
theorem dX9_makeSmall_0 : decode cX9_makeSmall 0 = .ok (.aload_n 0, 1) := by decide +kernel
theorem dX9_makeSmall_1 : decode cX9_makeSmall 1 = .ok (.iconst 1, 1) := by decide +kernel
theorem dX9_makeSmall_2 : decode cX9_makeSmall 2 = .ok (.putfield 123, 3) := by decide +kernel
theorem dX9_makeSmall_5 : decode cX9_makeSmall 5 = .ok (.aload_n 0, 1) := by decide +kernel
theorem dX9_makeSmall_6 : decode cX9_makeSmall 6 = .ok (.invokevirtual 126, 3) := by decide +kernel
theorem dX9_makeSmall_9 : decode cX9_makeSmall 9 = .ok (.aload_n 0, 1) := by decide +kernel
theorem dX9_makeSmall_10 : decode cX9_makeSmall 10 = .ok (.lconst 0, 1) := by decide +kernel
theorem dX9_makeSmall_11 : decode cX9_makeSmall 11 = .ok (.putfield 222, 3) := by decide +kernel
theorem dX9_makeSmall_14 : decode cX9_makeSmall 14 = .ok (.aload_n 0, 1) := by decide +kernel
theorem dX9_makeSmall_15 : decode cX9_makeSmall 15 = .ok (.iconst (-1), 1) := by decide +kernel
theorem dX9_makeSmall_16 : decode cX9_makeSmall 16 = .ok (.putfield 172, 3) := by decide +kernel
theorem dX9_makeSmall_19 : decode cX9_makeSmall 19 = .ok (.aload_n 0, 1) := by decide +kernel
theorem dX9_makeSmall_20 : decode cX9_makeSmall 20 = .ok (.iconst 0, 1) := by decide +kernel
theorem dX9_makeSmall_21 : decode cX9_makeSmall 21 = .ok (.putfield 169, 3) := by decide +kernel
theorem dX9_makeSmall_24 : decode cX9_makeSmall 24 = .ok (.aload_n 0, 1) := by decide +kernel
theorem dX9_makeSmall_25 : decode cX9_makeSmall 25 = .ok (.iconst 0, 1) := by decide +kernel
theorem dX9_makeSmall_26 : decode cX9_makeSmall 26 = .ok (.putfield 249, 3) := by decide +kernel
theorem dX9_makeSmall_29 : decode cX9_makeSmall 29 = .ok (.iconst 0, 1) := by decide +kernel
theorem dX9_makeSmall_30 : decode cX9_makeSmall 30 = .ok (.istore_n 1, 1) := by decide +kernel
theorem dX9_makeSmall_31 : decode cX9_makeSmall 31 = .ok (.iload_n 1, 1) := by decide +kernel
theorem dX9_makeSmall_32 : decode cX9_makeSmall 32 = .ok (.aload_n 0, 1) := by decide +kernel
theorem dX9_makeSmall_33 : decode cX9_makeSmall 33 = .ok (.getfield 141, 3) := by decide +kernel
theorem dX9_makeSmall_36 : decode cX9_makeSmall 36 = .ok (.if_icmp .ge 67, 3) := by decide +kernel
theorem dX9_makeSmall_39 : decode cX9_makeSmall 39 = .ok (.aload_n 0, 1) := by decide +kernel
theorem dX9_makeSmall_40 : decode cX9_makeSmall 40 = .ok (.getfield 28, 3) := by decide +kernel
theorem dX9_makeSmall_43 : decode cX9_makeSmall 43 = .ok (.iload_n 1, 1) := by decide +kernel
theorem dX9_makeSmall_44 : decode cX9_makeSmall 44 = .ok (.iconst 0, 1) := by decide +kernel
theorem dX9_makeSmall_45 : decode cX9_makeSmall 45 = .ok (.iastore, 1) := by decide +kernel
theorem dX9_makeSmall_46 : decode cX9_makeSmall 46 = .ok (.aload_n 0, 1) := by decide +kernel
theorem dX9_makeSmall_47 : decode cX9_makeSmall 47 = .ok (.getfield 31, 3) := by decide +kernel
theorem dX9_makeSmall_50 : decode cX9_makeSmall 50 = .ok (.iload_n 1, 1) := by decide +kernel
theorem dX9_makeSmall_51 : decode cX9_makeSmall 51 = .ok (.aload_n 0, 1) := by decide +kernel
theorem dX9_makeSmall_52 : decode cX9_makeSmall 52 = .ok (.getfield 7, 3) := by decide +kernel
theorem dX9_makeSmall_55 : decode cX9_makeSmall 55 = .ok (.iload_n 1, 1) := by decide +kernel
theorem dX9_makeSmall_56 : decode cX9_makeSmall 56 = .ok (.iaload, 1) := by decide +kernel
theorem dX9_makeSmall_57 : decode cX9_makeSmall 57 = .ok (.iastore, 1) := by decide +kernel
theorem dX9_makeSmall_58 : decode cX9_makeSmall 58 = .ok (.aload_n 0, 1) := by decide +kernel
theorem dX9_makeSmall_59 : decode cX9_makeSmall 59 = .ok (.getfield 34, 3) := by decide +kernel
theorem dX9_makeSmall_62 : decode cX9_makeSmall 62 = .ok (.iload_n 1, 1) := by decide +kernel
theorem dX9_makeSmall_63 : decode cX9_makeSmall 63 = .ok (.aload_n 0, 1) := by decide +kernel
theorem dX9_makeSmall_64 : decode cX9_makeSmall 64 = .ok (.getfield 13, 3) := by decide +kernel
theorem dX9_makeSmall_67 : decode cX9_makeSmall 67 = .ok (.iload_n 1, 1) := by decide +kernel
theorem dX9_makeSmall_68 : decode cX9_makeSmall 68 = .ok (.iaload, 1) := by decide +kernel
theorem dX9_makeSmall_69 : decode cX9_makeSmall 69 = .ok (.iastore, 1) := by decide +kernel
theorem dX9_makeSmall_70 : decode cX9_makeSmall 70 = .ok (.aload_n 0, 1) := by decide +kernel
theorem dX9_makeSmall_71 : decode cX9_makeSmall 71 = .ok (.getfield 43, 3) := by decide +kernel
theorem dX9_makeSmall_74 : decode cX9_makeSmall 74 = .ok (.iload_n 1, 1) := by decide +kernel
theorem dX9_makeSmall_75 : decode cX9_makeSmall 75 = .ok (.aload_n 0, 1) := by decide +kernel
theorem dX9_makeSmall_76 : decode cX9_makeSmall 76 = .ok (.getfield 16, 3) := by decide +kernel
theorem dX9_makeSmall_79 : decode cX9_makeSmall 79 = .ok (.iload_n 1, 1) := by decide +kernel
theorem dX9_makeSmall_80 : decode cX9_makeSmall 80 = .ok (.iaload, 1) := by decide +kernel
theorem dX9_makeSmall_81 : decode cX9_makeSmall 81 = .ok (.i2l, 1) := by decide +kernel
theorem dX9_makeSmall_82 : decode cX9_makeSmall 82 = .ok (.lastore, 1) := by decide +kernel
theorem dX9_makeSmall_83 : decode cX9_makeSmall 83 = .ok (.aload_n 0, 1) := by decide +kernel
theorem dX9_makeSmall_84 : decode cX9_makeSmall 84 = .ok (.getfield 37, 3) := by decide +kernel
theorem dX9_makeSmall_87 : decode cX9_makeSmall 87 = .ok (.iload_n 1, 1) := by decide +kernel
theorem dX9_makeSmall_88 : decode cX9_makeSmall 88 = .ok (.iconst 0, 1) := by decide +kernel
theorem dX9_makeSmall_89 : decode cX9_makeSmall 89 = .ok (.iastore, 1) := by decide +kernel
theorem dX9_makeSmall_90 : decode cX9_makeSmall 90 = .ok (.aload_n 0, 1) := by decide +kernel
theorem dX9_makeSmall_91 : decode cX9_makeSmall 91 = .ok (.getfield 40, 3) := by decide +kernel
theorem dX9_makeSmall_94 : decode cX9_makeSmall 94 = .ok (.iload_n 1, 1) := by decide +kernel
theorem dX9_makeSmall_95 : decode cX9_makeSmall 95 = .ok (.iconst 0, 1) := by decide +kernel
theorem dX9_makeSmall_96 : decode cX9_makeSmall 96 = .ok (.iastore, 1) := by decide +kernel
theorem dX9_makeSmall_97 : decode cX9_makeSmall 97 = .ok (.iinc 1 1, 3) := by decide +kernel
theorem dX9_makeSmall_100 : decode cX9_makeSmall 100 = .ok (.goto (-69), 3) := by decide +kernel
theorem dX9_makeSmall_103 : decode cX9_makeSmall 103 = .ok (.iconst 0, 1) := by decide +kernel
theorem dX9_makeSmall_104 : decode cX9_makeSmall 104 = .ok (.istore_n 1, 1) := by decide +kernel
theorem dX9_makeSmall_105 : decode cX9_makeSmall 105 = .ok (.iload_n 1, 1) := by decide +kernel
theorem dX9_makeSmall_106 : decode cX9_makeSmall 106 = .ok (.aload_n 0, 1) := by decide +kernel
theorem dX9_makeSmall_107 : decode cX9_makeSmall 107 = .ok (.getfield 151, 3) := by decide +kernel
theorem dX9_makeSmall_110 : decode cX9_makeSmall 110 = .ok (.if_icmp .ge 89, 3) := by decide +kernel
theorem dX9_makeSmall_113 : decode cX9_makeSmall 113 = .ok (.aload_n 0, 1) := by decide +kernel
theorem dX9_makeSmall_114 : decode cX9_makeSmall 114 = .ok (.getfield 50, 3) := by decide +kernel
theorem dX9_makeSmall_117 : decode cX9_makeSmall 117 = .ok (.iload_n 1, 1) := by decide +kernel
theorem dX9_makeSmall_118 : decode cX9_makeSmall 118 = .ok (.iconst 0, 1) := by decide +kernel
theorem dX9_makeSmall_119 : decode cX9_makeSmall 119 = .ok (.bastore, 1) := by decide +kernel
theorem dX9_makeSmall_120 : decode cX9_makeSmall 120 = .ok (.aload_n 0, 1) := by decide +kernel
theorem dX9_makeSmall_121 : decode cX9_makeSmall 121 = .ok (.getfield 47, 3) := by decide +kernel
theorem dX9_makeSmall_124 : decode cX9_makeSmall 124 = .ok (.iload_n 1, 1) := by decide +kernel
theorem dX9_makeSmall_125 : decode cX9_makeSmall 125 = .ok (.aload_n 0, 1) := by decide +kernel
theorem dX9_makeSmall_126 : decode cX9_makeSmall 126 = .ok (.getfield 19, 3) := by decide +kernel
theorem dX9_makeSmall_129 : decode cX9_makeSmall 129 = .ok (.iload_n 1, 1) := by decide +kernel
theorem dX9_makeSmall_130 : decode cX9_makeSmall 130 = .ok (.iaload, 1) := by decide +kernel
theorem dX9_makeSmall_131 : decode cX9_makeSmall 131 = .ok (.iastore, 1) := by decide +kernel
theorem dX9_makeSmall_132 : decode cX9_makeSmall 132 = .ok (.aload_n 0, 1) := by decide +kernel
theorem dX9_makeSmall_133 : decode cX9_makeSmall 133 = .ok (.getfield 54, 3) := by decide +kernel
theorem dX9_makeSmall_136 : decode cX9_makeSmall 136 = .ok (.iload_n 1, 1) := by decide +kernel
theorem dX9_makeSmall_137 : decode cX9_makeSmall 137 = .ok (.aload_n 0, 1) := by decide +kernel
theorem dX9_makeSmall_138 : decode cX9_makeSmall 138 = .ok (.getfield 22, 3) := by decide +kernel
theorem dX9_makeSmall_141 : decode cX9_makeSmall 141 = .ok (.iload_n 1, 1) := by decide +kernel
theorem dX9_makeSmall_142 : decode cX9_makeSmall 142 = .ok (.iaload, 1) := by decide +kernel
theorem dX9_makeSmall_143 : decode cX9_makeSmall 143 = .ok (.i2l, 1) := by decide +kernel
theorem dX9_makeSmall_144 : decode cX9_makeSmall 144 = .ok (.lastore, 1) := by decide +kernel
theorem dX9_makeSmall_145 : decode cX9_makeSmall 145 = .ok (.aload_n 0, 1) := by decide +kernel
theorem dX9_makeSmall_146 : decode cX9_makeSmall 146 = .ok (.getfield 57, 3) := by decide +kernel
theorem dX9_makeSmall_149 : decode cX9_makeSmall 149 = .ok (.iload_n 1, 1) := by decide +kernel
theorem dX9_makeSmall_150 : decode cX9_makeSmall 150 = .ok (.iconst 1, 1) := by decide +kernel
theorem dX9_makeSmall_151 : decode cX9_makeSmall 151 = .ok (.iload_n 1, 1) := by decide +kernel
theorem dX9_makeSmall_152 : decode cX9_makeSmall 152 = .ok (.ishl, 1) := by decide +kernel
theorem dX9_makeSmall_153 : decode cX9_makeSmall 153 = .ok (.iastore, 1) := by decide +kernel
theorem dX9_makeSmall_154 : decode cX9_makeSmall 154 = .ok (.iconst 0, 1) := by decide +kernel
theorem dX9_makeSmall_155 : decode cX9_makeSmall 155 = .ok (.istore_n 2, 1) := by decide +kernel
theorem dX9_makeSmall_156 : decode cX9_makeSmall 156 = .ok (.iload_n 2, 1) := by decide +kernel
theorem dX9_makeSmall_157 : decode cX9_makeSmall 157 = .ok (.aload_n 0, 1) := by decide +kernel
theorem dX9_makeSmall_158 : decode cX9_makeSmall 158 = .ok (.getfield 141, 3) := by decide +kernel
theorem dX9_makeSmall_161 : decode cX9_makeSmall 161 = .ok (.if_icmp .ge 32, 3) := by decide +kernel
theorem dX9_makeSmall_164 : decode cX9_makeSmall 164 = .ok (.aload_n 0, 1) := by decide +kernel
theorem dX9_makeSmall_165 : decode cX9_makeSmall 165 = .ok (.getfield 60, 3) := by decide +kernel
theorem dX9_makeSmall_168 : decode cX9_makeSmall 168 = .ok (.bipush 12, 2) := by decide +kernel
theorem dX9_makeSmall_170 : decode cX9_makeSmall 170 = .ok (.iload_n 1, 1) := by decide +kernel
theorem dX9_makeSmall_171 : decode cX9_makeSmall 171 = .ok (.imul, 1) := by decide +kernel
theorem dX9_makeSmall_172 : decode cX9_makeSmall 172 = .ok (.iload_n 2, 1) := by decide +kernel
theorem dX9_makeSmall_173 : decode cX9_makeSmall 173 = .ok (.iadd, 1) := by decide +kernel
theorem dX9_makeSmall_174 : decode cX9_makeSmall 174 = .ok (.aload_n 0, 1) := by decide +kernel
theorem dX9_makeSmall_175 : decode cX9_makeSmall 175 = .ok (.getfield 25, 3) := by decide +kernel
theorem dX9_makeSmall_178 : decode cX9_makeSmall 178 = .ok (.bipush 12, 2) := by decide +kernel
theorem dX9_makeSmall_180 : decode cX9_makeSmall 180 = .ok (.iload_n 1, 1) := by decide +kernel
theorem dX9_makeSmall_181 : decode cX9_makeSmall 181 = .ok (.imul, 1) := by decide +kernel
theorem dX9_makeSmall_182 : decode cX9_makeSmall 182 = .ok (.iload_n 2, 1) := by decide +kernel
theorem dX9_makeSmall_183 : decode cX9_makeSmall 183 = .ok (.iadd, 1) := by decide +kernel
theorem dX9_makeSmall_184 : decode cX9_makeSmall 184 = .ok (.iaload, 1) := by decide +kernel
theorem dX9_makeSmall_185 : decode cX9_makeSmall 185 = .ok (.i2l, 1) := by decide +kernel
theorem dX9_makeSmall_186 : decode cX9_makeSmall 186 = .ok (.lastore, 1) := by decide +kernel
theorem dX9_makeSmall_187 : decode cX9_makeSmall 187 = .ok (.iinc 2 1, 3) := by decide +kernel
theorem dX9_makeSmall_190 : decode cX9_makeSmall 190 = .ok (.goto (-34), 3) := by decide +kernel
theorem dX9_makeSmall_193 : decode cX9_makeSmall 193 = .ok (.iinc 1 1, 3) := by decide +kernel
theorem dX9_makeSmall_196 : decode cX9_makeSmall 196 = .ok (.goto (-91), 3) := by decide +kernel
theorem dX9_makeSmall_199 : decode cX9_makeSmall 199 = .ok (.return_, 1) := by decide +kernel
theorem dX9_shrink_0 : decode cX9_shrink 0 = .ok (.aload_n 0, 1) := by decide +kernel
theorem dX9_shrink_1 : decode cX9_shrink 1 = .ok (.iload_n 1, 1) := by decide +kernel
theorem dX9_shrink_2 : decode cX9_shrink 2 = .ok (.i2l, 1) := by decide +kernel
theorem dX9_shrink_3 : decode cX9_shrink 3 = .ok (.lconst 0, 1) := by decide +kernel
theorem dX9_shrink_4 : decode cX9_shrink 4 = .ok (.ldc2_w 302, 3) := by decide +kernel
theorem dX9_shrink_7 : decode cX9_shrink 7 = .ok (.invokestatic 133, 3) := by decide +kernel
theorem dX9_shrink_10 : decode cX9_shrink 10 = .ok (.ifCond .eq 15, 3) := by decide +kernel
theorem dX9_shrink_13 : decode cX9_shrink 13 = .ok (.iload_n 2, 1) := by decide +kernel
theorem dX9_shrink_14 : decode cX9_shrink 14 = .ok (.i2l, 1) := by decide +kernel
theorem dX9_shrink_15 : decode cX9_shrink 15 = .ok (.lconst 1, 1) := by decide +kernel
theorem dX9_shrink_16 : decode cX9_shrink 16 = .ok (.ldc2_w 304, 3) := by decide +kernel
theorem dX9_shrink_19 : decode cX9_shrink 19 = .ok (.invokestatic 133, 3) := by decide +kernel
theorem dX9_shrink_22 : decode cX9_shrink 22 = .ok (.ifCond .ne 7, 3) := by decide +kernel
theorem dX9_shrink_25 : decode cX9_shrink 25 = .ok (.iconst 1, 1) := by decide +kernel
theorem dX9_shrink_26 : decode cX9_shrink 26 = .ok (.goto 4, 3) := by decide +kernel
theorem dX9_shrink_29 : decode cX9_shrink 29 = .ok (.iconst 0, 1) := by decide +kernel
theorem dX9_shrink_30 : decode cX9_shrink 30 = .ok (.iconst 0, 1) := by decide +kernel
theorem dX9_shrink_31 : decode cX9_shrink 31 = .ok (.invokevirtual 144, 3) := by decide +kernel
theorem dX9_shrink_34 : decode cX9_shrink 34 = .ok (.ifCond .ne 5, 3) := by decide +kernel
theorem dX9_shrink_37 : decode cX9_shrink 37 = .ok (.iconst 0, 1) := by decide +kernel
theorem dX9_shrink_38 : decode cX9_shrink 38 = .ok (.ireturn, 1) := by decide +kernel
theorem dX9_shrink_39 : decode cX9_shrink 39 = .ok (.aload_n 0, 1) := by decide +kernel
theorem dX9_shrink_40 : decode cX9_shrink 40 = .ok (.invokevirtual 306, 3) := by decide +kernel
theorem dX9_shrink_43 : decode cX9_shrink 43 = .ok (.iconst 0, 1) := by decide +kernel
theorem dX9_shrink_44 : decode cX9_shrink 44 = .ok (.istore_n 3, 1) := by decide +kernel
theorem dX9_shrink_45 : decode cX9_shrink 45 = .ok (.iconst 1, 1) := by decide +kernel
theorem dX9_shrink_46 : decode cX9_shrink 46 = .ok (.istore 4, 2) := by decide +kernel
theorem dX9_shrink_48 : decode cX9_shrink 48 = .ok (.iload 4, 2) := by decide +kernel
theorem dX9_shrink_50 : decode cX9_shrink 50 = .ok (.ifCond .eq 84, 3) := by decide +kernel
theorem dX9_shrink_53 : decode cX9_shrink 53 = .ok (.iload_n 3, 1) := by decide +kernel
theorem dX9_shrink_54 : decode cX9_shrink 54 = .ok (.iload_n 2, 1) := by decide +kernel
theorem dX9_shrink_55 : decode cX9_shrink 55 = .ok (.if_icmp .ge 79, 3) := by decide +kernel
theorem dX9_shrink_58 : decode cX9_shrink 58 = .ok (.aload_n 0, 1) := by decide +kernel
theorem dX9_shrink_59 : decode cX9_shrink 59 = .ok (.invokevirtual 175, 3) := by decide +kernel
theorem dX9_shrink_62 : decode cX9_shrink 62 = .ok (.ifCond .eq 72, 3) := by decide +kernel
theorem dX9_shrink_65 : decode cX9_shrink 65 = .ok (.aload_n 0, 1) := by decide +kernel
theorem dX9_shrink_66 : decode cX9_shrink 66 = .ok (.getfield 169, 3) := by decide +kernel
theorem dX9_shrink_69 : decode cX9_shrink 69 = .ok (.istore 5, 2) := by decide +kernel
theorem dX9_shrink_71 : decode cX9_shrink 71 = .ok (.iconst 1, 1) := by decide +kernel
theorem dX9_shrink_72 : decode cX9_shrink 72 = .ok (.istore 6, 2) := by decide +kernel
theorem dX9_shrink_74 : decode cX9_shrink 74 = .ok (.iload 6, 2) := by decide +kernel
theorem dX9_shrink_76 : decode cX9_shrink 76 = .ok (.bipush 11, 2) := by decide +kernel
theorem dX9_shrink_78 : decode cX9_shrink 78 = .ok (.if_icmp .gt 34, 3) := by decide +kernel
theorem dX9_shrink_81 : decode cX9_shrink 81 = .ok (.iload_n 1, 1) := by decide +kernel
theorem dX9_shrink_82 : decode cX9_shrink 82 = .ok (.iload 6, 2) := by decide +kernel
theorem dX9_shrink_84 : decode cX9_shrink 84 = .ok (.iconst 1, 1) := by decide +kernel
theorem dX9_shrink_85 : decode cX9_shrink 85 = .ok (.isub, 1) := by decide +kernel
theorem dX9_shrink_86 : decode cX9_shrink 86 = .ok (.ishr, 1) := by decide +kernel
theorem dX9_shrink_87 : decode cX9_shrink 87 = .ok (.iconst 1, 1) := by decide +kernel
theorem dX9_shrink_88 : decode cX9_shrink 88 = .ok (.iand, 1) := by decide +kernel
theorem dX9_shrink_89 : decode cX9_shrink 89 = .ok (.iconst 1, 1) := by decide +kernel
theorem dX9_shrink_90 : decode cX9_shrink 90 = .ok (.if_icmp .ne 16, 3) := by decide +kernel
theorem dX9_shrink_93 : decode cX9_shrink 93 = .ok (.aload_n 0, 1) := by decide +kernel
theorem dX9_shrink_94 : decode cX9_shrink 94 = .ok (.invokevirtual 175, 3) := by decide +kernel
theorem dX9_shrink_97 : decode cX9_shrink 97 = .ok (.ifCond .eq 9, 3) := by decide +kernel
theorem dX9_shrink_100 : decode cX9_shrink 100 = .ok (.aload_n 0, 1) := by decide +kernel
theorem dX9_shrink_101 : decode cX9_shrink 101 = .ok (.iload 6, 2) := by decide +kernel
theorem dX9_shrink_103 : decode cX9_shrink 103 = .ok (.invokevirtual 309, 3) := by decide +kernel
theorem dX9_shrink_106 : decode cX9_shrink 106 = .ok (.iinc 6 1, 3) := by decide +kernel
theorem dX9_shrink_109 : decode cX9_shrink 109 = .ok (.goto (-35), 3) := by decide +kernel
theorem dX9_shrink_112 : decode cX9_shrink 112 = .ok (.iinc 3 1, 3) := by decide +kernel
theorem dX9_shrink_115 : decode cX9_shrink 115 = .ok (.aload_n 0, 1) := by decide +kernel
theorem dX9_shrink_116 : decode cX9_shrink 116 = .ok (.getfield 169, 3) := by decide +kernel
theorem dX9_shrink_119 : decode cX9_shrink 119 = .ok (.iload 5, 2) := by decide +kernel
theorem dX9_shrink_121 : decode cX9_shrink 121 = .ok (.if_icmp .le 7, 3) := by decide +kernel
theorem dX9_shrink_124 : decode cX9_shrink 124 = .ok (.iconst 1, 1) := by decide +kernel
theorem dX9_shrink_125 : decode cX9_shrink 125 = .ok (.goto 4, 3) := by decide +kernel
theorem dX9_shrink_128 : decode cX9_shrink 128 = .ok (.iconst 0, 1) := by decide +kernel
theorem dX9_shrink_129 : decode cX9_shrink 129 = .ok (.istore 4, 2) := by decide +kernel
theorem dX9_shrink_131 : decode cX9_shrink 131 = .ok (.goto (-83), 3) := by decide +kernel
theorem dX9_shrink_134 : decode cX9_shrink 134 = .ok (.aload_n 0, 1) := by decide +kernel
theorem dX9_shrink_135 : decode cX9_shrink 135 = .ok (.invokevirtual 175, 3) := by decide +kernel
theorem dX9_shrink_138 : decode cX9_shrink 138 = .ok (.ifCond .eq 7, 3) := by decide +kernel
theorem dX9_shrink_141 : decode cX9_shrink 141 = .ok (.iload_n 3, 1) := by decide +kernel
theorem dX9_shrink_142 : decode cX9_shrink 142 = .ok (.goto 4, 3) := by decide +kernel
theorem dX9_shrink_145 : decode cX9_shrink 145 = .ok (.iconst 0, 1) := by decide +kernel
theorem dX9_shrink_146 : decode cX9_shrink 146 = .ok (.ireturn, 1) := by decide +kernel
theorem dX9_state_0 : decode cX9_state 0 = .ok (.aload_n 0, 1) := by decide +kernel
theorem dX9_state_1 : decode cX9_state 1 = .ok (.aload_n 0, 1) := by decide +kernel
theorem dX9_state_2 : decode cX9_state 2 = .ok (.getfield 123, 3) := by decide +kernel
theorem dX9_state_5 : decode cX9_state 5 = .ok (.ifCond .ne 7, 3) := by decide +kernel
theorem dX9_state_8 : decode cX9_state 8 = .ok (.iconst 1, 1) := by decide +kernel
theorem dX9_state_9 : decode cX9_state 9 = .ok (.goto 4, 3) := by decide +kernel
theorem dX9_state_12 : decode cX9_state 12 = .ok (.iconst 0, 1) := by decide +kernel
theorem dX9_state_13 : decode cX9_state 13 = .ok (.aload_n 0, 1) := by decide +kernel
theorem dX9_state_14 : decode cX9_state 14 = .ok (.iload_n 1, 1) := by decide +kernel
theorem dX9_state_15 : decode cX9_state 15 = .ok (.invokevirtual 162, 3) := by decide +kernel
theorem dX9_state_18 : decode cX9_state 18 = .ok (.ifCond .ne 7, 3) := by decide +kernel
theorem dX9_state_21 : decode cX9_state 21 = .ok (.iconst 1, 1) := by decide +kernel
theorem dX9_state_22 : decode cX9_state 22 = .ok (.goto 4, 3) := by decide +kernel
theorem dX9_state_25 : decode cX9_state 25 = .ok (.iconst 0, 1) := by decide +kernel
theorem dX9_state_26 : decode cX9_state 26 = .ok (.invokevirtual 144, 3) := by decide +kernel
theorem dX9_state_29 : decode cX9_state 29 = .ok (.ifCond .eq 12, 3) := by decide +kernel
theorem dX9_state_32 : decode cX9_state 32 = .ok (.aload_n 0, 1) := by decide +kernel
theorem dX9_state_33 : decode cX9_state 33 = .ok (.getfield 28, 3) := by decide +kernel
theorem dX9_state_36 : decode cX9_state 36 = .ok (.iload_n 1, 1) := by decide +kernel
theorem dX9_state_37 : decode cX9_state 37 = .ok (.iaload, 1) := by decide +kernel
theorem dX9_state_38 : decode cX9_state 38 = .ok (.goto 4, 3) := by decide +kernel
theorem dX9_state_41 : decode cX9_state 41 = .ok (.iconst 0, 1) := by decide +kernel
theorem dX9_state_42 : decode cX9_state 42 = .ok (.ireturn, 1) := by decide +kernel
theorem dX9_bound_0 : decode cX9_bound 0 = .ok (.aload_n 0, 1) := by decide +kernel
theorem dX9_bound_1 : decode cX9_bound 1 = .ok (.aload_n 0, 1) := by decide +kernel
theorem dX9_bound_2 : decode cX9_bound 2 = .ok (.getfield 123, 3) := by decide +kernel
theorem dX9_bound_5 : decode cX9_bound 5 = .ok (.ifCond .ne 7, 3) := by decide +kernel
theorem dX9_bound_8 : decode cX9_bound 8 = .ok (.iconst 1, 1) := by decide +kernel
theorem dX9_bound_9 : decode cX9_bound 9 = .ok (.goto 4, 3) := by decide +kernel
theorem dX9_bound_12 : decode cX9_bound 12 = .ok (.iconst 0, 1) := by decide +kernel
theorem dX9_bound_13 : decode cX9_bound 13 = .ok (.aload_n 0, 1) := by decide +kernel
theorem dX9_bound_14 : decode cX9_bound 14 = .ok (.iload_n 1, 1) := by decide +kernel
theorem dX9_bound_15 : decode cX9_bound 15 = .ok (.invokevirtual 162, 3) := by decide +kernel
theorem dX9_bound_18 : decode cX9_bound 18 = .ok (.ifCond .ne 7, 3) := by decide +kernel
theorem dX9_bound_21 : decode cX9_bound 21 = .ok (.iconst 1, 1) := by decide +kernel
theorem dX9_bound_22 : decode cX9_bound 22 = .ok (.goto 4, 3) := by decide +kernel
theorem dX9_bound_25 : decode cX9_bound 25 = .ok (.iconst 0, 1) := by decide +kernel
theorem dX9_bound_26 : decode cX9_bound 26 = .ok (.invokevirtual 144, 3) := by decide +kernel
theorem dX9_bound_29 : decode cX9_bound 29 = .ok (.ifCond .ne 7, 3) := by decide +kernel
theorem dX9_bound_32 : decode cX9_bound 32 = .ok (.iconst 0, 1) := by decide +kernel
theorem dX9_bound_33 : decode cX9_bound 33 = .ok (.goto 22, 3) := by decide +kernel
theorem dX9_bound_36 : decode cX9_bound 36 = .ok (.iload_n 2, 1) := by decide +kernel
theorem dX9_bound_37 : decode cX9_bound 37 = .ok (.ifCond .eq 12, 3) := by decide +kernel
theorem dX9_bound_40 : decode cX9_bound 40 = .ok (.aload_n 0, 1) := by decide +kernel
theorem dX9_bound_41 : decode cX9_bound 41 = .ok (.getfield 34, 3) := by decide +kernel
theorem dX9_bound_44 : decode cX9_bound 44 = .ok (.iload_n 1, 1) := by decide +kernel
theorem dX9_bound_45 : decode cX9_bound 45 = .ok (.iaload, 1) := by decide +kernel
theorem dX9_bound_46 : decode cX9_bound 46 = .ok (.goto 9, 3) := by decide +kernel
theorem dX9_bound_49 : decode cX9_bound 49 = .ok (.aload_n 0, 1) := by decide +kernel
theorem dX9_bound_50 : decode cX9_bound 50 = .ok (.getfield 31, 3) := by decide +kernel
theorem dX9_bound_53 : decode cX9_bound 53 = .ok (.iload_n 1, 1) := by decide +kernel
theorem dX9_bound_54 : decode cX9_bound 54 = .ok (.iaload, 1) := by decide +kernel
theorem dX9_bound_55 : decode cX9_bound 55 = .ok (.ireturn, 1) := by decide +kernel
theorem dX9_cost_0 : decode cX9_cost 0 = .ok (.aload_n 0, 1) := by decide +kernel
theorem dX9_cost_1 : decode cX9_cost 1 = .ok (.aload_n 0, 1) := by decide +kernel
theorem dX9_cost_2 : decode cX9_cost 2 = .ok (.getfield 123, 3) := by decide +kernel
theorem dX9_cost_5 : decode cX9_cost 5 = .ok (.ifCond .ne 7, 3) := by decide +kernel
theorem dX9_cost_8 : decode cX9_cost 8 = .ok (.iconst 1, 1) := by decide +kernel
theorem dX9_cost_9 : decode cX9_cost 9 = .ok (.goto 4, 3) := by decide +kernel
theorem dX9_cost_12 : decode cX9_cost 12 = .ok (.iconst 0, 1) := by decide +kernel
theorem dX9_cost_13 : decode cX9_cost 13 = .ok (.aload_n 0, 1) := by decide +kernel
theorem dX9_cost_14 : decode cX9_cost 14 = .ok (.iload_n 1, 1) := by decide +kernel
theorem dX9_cost_15 : decode cX9_cost 15 = .ok (.invokevirtual 162, 3) := by decide +kernel
theorem dX9_cost_18 : decode cX9_cost 18 = .ok (.ifCond .ne 7, 3) := by decide +kernel
theorem dX9_cost_21 : decode cX9_cost 21 = .ok (.iconst 1, 1) := by decide +kernel
theorem dX9_cost_22 : decode cX9_cost 22 = .ok (.goto 4, 3) := by decide +kernel
theorem dX9_cost_25 : decode cX9_cost 25 = .ok (.iconst 0, 1) := by decide +kernel
theorem dX9_cost_26 : decode cX9_cost 26 = .ok (.invokevirtual 144, 3) := by decide +kernel
theorem dX9_cost_29 : decode cX9_cost 29 = .ok (.ifCond .eq 22, 3) := by decide +kernel
theorem dX9_cost_32 : decode cX9_cost 32 = .ok (.aload_n 0, 1) := by decide +kernel
theorem dX9_cost_33 : decode cX9_cost 33 = .ok (.getfield 28, 3) := by decide +kernel
theorem dX9_cost_36 : decode cX9_cost 36 = .ok (.iload_n 1, 1) := by decide +kernel
theorem dX9_cost_37 : decode cX9_cost 37 = .ok (.iaload, 1) := by decide +kernel
theorem dX9_cost_38 : decode cX9_cost 38 = .ok (.ifCond .ne 13, 3) := by decide +kernel
theorem dX9_cost_41 : decode cX9_cost 41 = .ok (.aload_n 0, 1) := by decide +kernel
theorem dX9_cost_42 : decode cX9_cost 42 = .ok (.getfield 43, 3) := by decide +kernel
theorem dX9_cost_45 : decode cX9_cost 45 = .ok (.iload_n 1, 1) := by decide +kernel
theorem dX9_cost_46 : decode cX9_cost 46 = .ok (.laload, 1) := by decide +kernel
theorem dX9_cost_47 : decode cX9_cost 47 = .ok (.l2i, 1) := by decide +kernel
theorem dX9_cost_48 : decode cX9_cost 48 = .ok (.goto 4, 3) := by decide +kernel
theorem dX9_cost_51 : decode cX9_cost 51 = .ok (.iconst 0, 1) := by decide +kernel
theorem dX9_cost_52 : decode cX9_cost 52 = .ok (.ireturn, 1) := by decide +kernel
theorem dX9_kind_0 : decode cX9_kind 0 = .ok (.aload_n 0, 1) := by decide +kernel
theorem dX9_kind_1 : decode cX9_kind 1 = .ok (.aload_n 0, 1) := by decide +kernel
theorem dX9_kind_2 : decode cX9_kind 2 = .ok (.getfield 123, 3) := by decide +kernel
theorem dX9_kind_5 : decode cX9_kind 5 = .ok (.ifCond .ne 7, 3) := by decide +kernel
theorem dX9_kind_8 : decode cX9_kind 8 = .ok (.iconst 1, 1) := by decide +kernel
theorem dX9_kind_9 : decode cX9_kind 9 = .ok (.goto 4, 3) := by decide +kernel
theorem dX9_kind_12 : decode cX9_kind 12 = .ok (.iconst 0, 1) := by decide +kernel
theorem dX9_kind_13 : decode cX9_kind 13 = .ok (.aload_n 0, 1) := by decide +kernel
theorem dX9_kind_14 : decode cX9_kind 14 = .ok (.iload_n 1, 1) := by decide +kernel
theorem dX9_kind_15 : decode cX9_kind 15 = .ok (.invokevirtual 158, 3) := by decide +kernel
theorem dX9_kind_18 : decode cX9_kind 18 = .ok (.ifCond .ne 7, 3) := by decide +kernel
theorem dX9_kind_21 : decode cX9_kind 21 = .ok (.iconst 1, 1) := by decide +kernel
theorem dX9_kind_22 : decode cX9_kind 22 = .ok (.goto 4, 3) := by decide +kernel
theorem dX9_kind_25 : decode cX9_kind 25 = .ok (.iconst 0, 1) := by decide +kernel
theorem dX9_kind_26 : decode cX9_kind 26 = .ok (.invokevirtual 144, 3) := by decide +kernel
theorem dX9_kind_29 : decode cX9_kind 29 = .ok (.ifCond .ne 7, 3) := by decide +kernel
theorem dX9_kind_32 : decode cX9_kind 32 = .ok (.iconst 0, 1) := by decide +kernel
theorem dX9_kind_33 : decode cX9_kind 33 = .ok (.goto 22, 3) := by decide +kernel
theorem dX9_kind_36 : decode cX9_kind 36 = .ok (.aload_n 0, 1) := by decide +kernel
theorem dX9_kind_37 : decode cX9_kind 37 = .ok (.getfield 50, 3) := by decide +kernel
theorem dX9_kind_40 : decode cX9_kind 40 = .ok (.iload_n 1, 1) := by decide +kernel
theorem dX9_kind_41 : decode cX9_kind 41 = .ok (.baload, 1) := by decide +kernel
theorem dX9_kind_42 : decode cX9_kind 42 = .ok (.ifCond .eq 7, 3) := by decide +kernel
theorem dX9_kind_45 : decode cX9_kind 45 = .ok (.iconst (-1), 1) := by decide +kernel
theorem dX9_kind_46 : decode cX9_kind 46 = .ok (.goto 9, 3) := by decide +kernel
theorem dX9_kind_49 : decode cX9_kind 49 = .ok (.aload_n 0, 1) := by decide +kernel
theorem dX9_kind_50 : decode cX9_kind 50 = .ok (.getfield 47, 3) := by decide +kernel
theorem dX9_kind_53 : decode cX9_kind 53 = .ok (.iload_n 1, 1) := by decide +kernel
theorem dX9_kind_54 : decode cX9_kind 54 = .ok (.iaload, 1) := by decide +kernel
theorem dX9_kind_55 : decode cX9_kind 55 = .ok (.ireturn, 1) := by decide +kernel
theorem dX9_right_0 : decode cX9_right 0 = .ok (.aload_n 0, 1) := by decide +kernel
theorem dX9_right_1 : decode cX9_right 1 = .ok (.aload_n 0, 1) := by decide +kernel
theorem dX9_right_2 : decode cX9_right 2 = .ok (.getfield 123, 3) := by decide +kernel
theorem dX9_right_5 : decode cX9_right 5 = .ok (.ifCond .ne 7, 3) := by decide +kernel
theorem dX9_right_8 : decode cX9_right 8 = .ok (.iconst 1, 1) := by decide +kernel
theorem dX9_right_9 : decode cX9_right 9 = .ok (.goto 4, 3) := by decide +kernel
theorem dX9_right_12 : decode cX9_right 12 = .ok (.iconst 0, 1) := by decide +kernel
theorem dX9_right_13 : decode cX9_right 13 = .ok (.aload_n 0, 1) := by decide +kernel
theorem dX9_right_14 : decode cX9_right 14 = .ok (.iload_n 1, 1) := by decide +kernel
theorem dX9_right_15 : decode cX9_right 15 = .ok (.invokevirtual 158, 3) := by decide +kernel
theorem dX9_right_18 : decode cX9_right 18 = .ok (.ifCond .ne 7, 3) := by decide +kernel
theorem dX9_right_21 : decode cX9_right 21 = .ok (.iconst 1, 1) := by decide +kernel
theorem dX9_right_22 : decode cX9_right 22 = .ok (.goto 4, 3) := by decide +kernel
theorem dX9_right_25 : decode cX9_right 25 = .ok (.iconst 0, 1) := by decide +kernel
theorem dX9_right_26 : decode cX9_right 26 = .ok (.invokevirtual 144, 3) := by decide +kernel
theorem dX9_right_29 : decode cX9_right 29 = .ok (.ifCond .eq 12, 3) := by decide +kernel
theorem dX9_right_32 : decode cX9_right 32 = .ok (.aload_n 0, 1) := by decide +kernel
theorem dX9_right_33 : decode cX9_right 33 = .ok (.getfield 54, 3) := by decide +kernel
theorem dX9_right_36 : decode cX9_right 36 = .ok (.iload_n 1, 1) := by decide +kernel
theorem dX9_right_37 : decode cX9_right 37 = .ok (.laload, 1) := by decide +kernel
theorem dX9_right_38 : decode cX9_right 38 = .ok (.goto 4, 3) := by decide +kernel
theorem dX9_right_41 : decode cX9_right 41 = .ok (.lconst 0, 1) := by decide +kernel
theorem dX9_right_42 : decode cX9_right 42 = .ok (.lreturn, 1) := by decide +kernel
theorem dX9_coefficient_0 : decode cX9_coefficient 0 = .ok (.aload_n 0, 1) := by decide +kernel
theorem dX9_coefficient_1 : decode cX9_coefficient 1 = .ok (.aload_n 0, 1) := by decide +kernel
theorem dX9_coefficient_2 : decode cX9_coefficient 2 = .ok (.getfield 123, 3) := by decide +kernel
theorem dX9_coefficient_5 : decode cX9_coefficient 5 = .ok (.ifCond .ne 7, 3) := by decide +kernel
theorem dX9_coefficient_8 : decode cX9_coefficient 8 = .ok (.iconst 1, 1) := by decide +kernel
theorem dX9_coefficient_9 : decode cX9_coefficient 9 = .ok (.goto 4, 3) := by decide +kernel
theorem dX9_coefficient_12 : decode cX9_coefficient 12 = .ok (.iconst 0, 1) := by decide +kernel
theorem dX9_coefficient_13 : decode cX9_coefficient 13 = .ok (.aload_n 0, 1) := by decide +kernel
theorem dX9_coefficient_14 : decode cX9_coefficient 14 = .ok (.iload_n 1, 1) := by decide +kernel
theorem dX9_coefficient_15 : decode cX9_coefficient 15 = .ok (.invokevirtual 158, 3) := by decide +kernel
theorem dX9_coefficient_18 : decode cX9_coefficient 18 = .ok (.ifCond .eq 11, 3) := by decide +kernel
theorem dX9_coefficient_21 : decode cX9_coefficient 21 = .ok (.aload_n 0, 1) := by decide +kernel
theorem dX9_coefficient_22 : decode cX9_coefficient 22 = .ok (.iload_n 2, 1) := by decide +kernel
theorem dX9_coefficient_23 : decode cX9_coefficient 23 = .ok (.invokevirtual 162, 3) := by decide +kernel
theorem dX9_coefficient_26 : decode cX9_coefficient 26 = .ok (.ifCond .ne 7, 3) := by decide +kernel
theorem dX9_coefficient_29 : decode cX9_coefficient 29 = .ok (.iconst 1, 1) := by decide +kernel
theorem dX9_coefficient_30 : decode cX9_coefficient 30 = .ok (.goto 4, 3) := by decide +kernel
theorem dX9_coefficient_33 : decode cX9_coefficient 33 = .ok (.iconst 0, 1) := by decide +kernel
theorem dX9_coefficient_34 : decode cX9_coefficient 34 = .ok (.invokevirtual 144, 3) := by decide +kernel
theorem dX9_coefficient_37 : decode cX9_coefficient 37 = .ok (.ifCond .eq 36, 3) := by decide +kernel
theorem dX9_coefficient_40 : decode cX9_coefficient 40 = .ok (.aload_n 0, 1) := by decide +kernel
theorem dX9_coefficient_41 : decode cX9_coefficient 41 = .ok (.getfield 50, 3) := by decide +kernel
theorem dX9_coefficient_44 : decode cX9_coefficient 44 = .ok (.iload_n 1, 1) := by decide +kernel
theorem dX9_coefficient_45 : decode cX9_coefficient 45 = .ok (.baload, 1) := by decide +kernel
theorem dX9_coefficient_46 : decode cX9_coefficient 46 = .ok (.ifCond .ne 27, 3) := by decide +kernel
theorem dX9_coefficient_49 : decode cX9_coefficient 49 = .ok (.aload_n 0, 1) := by decide +kernel
theorem dX9_coefficient_50 : decode cX9_coefficient 50 = .ok (.iload_n 1, 1) := by decide +kernel
theorem dX9_coefficient_51 : decode cX9_coefficient 51 = .ok (.iload_n 2, 1) := by decide +kernel
theorem dX9_coefficient_52 : decode cX9_coefficient 52 = .ok (.invokevirtual 165, 3) := by decide +kernel
theorem dX9_coefficient_55 : decode cX9_coefficient 55 = .ok (.ifCond .eq 18, 3) := by decide +kernel
theorem dX9_coefficient_58 : decode cX9_coefficient 58 = .ok (.aload_n 0, 1) := by decide +kernel
theorem dX9_coefficient_59 : decode cX9_coefficient 59 = .ok (.getfield 60, 3) := by decide +kernel
theorem dX9_coefficient_62 : decode cX9_coefficient 62 = .ok (.bipush 12, 2) := by decide +kernel
theorem dX9_coefficient_64 : decode cX9_coefficient 64 = .ok (.iload_n 1, 1) := by decide +kernel
theorem dX9_coefficient_65 : decode cX9_coefficient 65 = .ok (.imul, 1) := by decide +kernel
theorem dX9_coefficient_66 : decode cX9_coefficient 66 = .ok (.iload_n 2, 1) := by decide +kernel
theorem dX9_coefficient_67 : decode cX9_coefficient 67 = .ok (.iadd, 1) := by decide +kernel
theorem dX9_coefficient_68 : decode cX9_coefficient 68 = .ok (.laload, 1) := by decide +kernel
theorem dX9_coefficient_69 : decode cX9_coefficient 69 = .ok (.l2i, 1) := by decide +kernel
theorem dX9_coefficient_70 : decode cX9_coefficient 70 = .ok (.goto 4, 3) := by decide +kernel
theorem dX9_coefficient_73 : decode cX9_coefficient 73 = .ok (.iconst 0, 1) := by decide +kernel
theorem dX9_coefficient_74 : decode cX9_coefficient 74 = .ok (.ireturn, 1) := by decide +kernel
theorem dX9_offset_0 : decode cX9_offset 0 = .ok (.aload_n 0, 1) := by decide +kernel
theorem dX9_offset_1 : decode cX9_offset 1 = .ok (.aload_n 0, 1) := by decide +kernel
theorem dX9_offset_2 : decode cX9_offset 2 = .ok (.getfield 123, 3) := by decide +kernel
theorem dX9_offset_5 : decode cX9_offset 5 = .ok (.ifCond .ne 7, 3) := by decide +kernel
theorem dX9_offset_8 : decode cX9_offset 8 = .ok (.iconst 1, 1) := by decide +kernel
theorem dX9_offset_9 : decode cX9_offset 9 = .ok (.goto 4, 3) := by decide +kernel
theorem dX9_offset_12 : decode cX9_offset 12 = .ok (.iconst 0, 1) := by decide +kernel
theorem dX9_offset_13 : decode cX9_offset 13 = .ok (.iconst 0, 1) := by decide +kernel
theorem dX9_offset_14 : decode cX9_offset 14 = .ok (.invokevirtual 144, 3) := by decide +kernel
theorem dX9_offset_17 : decode cX9_offset 17 = .ok (.ifCond .eq 10, 3) := by decide +kernel
theorem dX9_offset_20 : decode cX9_offset 20 = .ok (.aload_n 0, 1) := by decide +kernel
theorem dX9_offset_21 : decode cX9_offset 21 = .ok (.getfield 222, 3) := by decide +kernel
theorem dX9_offset_24 : decode cX9_offset 24 = .ok (.goto 4, 3) := by decide +kernel
theorem dX9_offset_27 : decode cX9_offset 27 = .ok (.lconst 0, 1) := by decide +kernel
theorem dX9_offset_28 : decode cX9_offset 28 = .ok (.lreturn, 1) := by decide +kernel
theorem dX9_rest_0 : decode cX9_rest 0 = .ok (.aload_n 0, 1) := by decide +kernel
theorem dX9_rest_1 : decode cX9_rest 1 = .ok (.aload_n 0, 1) := by decide +kernel
theorem dX9_rest_2 : decode cX9_rest 2 = .ok (.getfield 123, 3) := by decide +kernel
theorem dX9_rest_5 : decode cX9_rest 5 = .ok (.ifCond .ne 7, 3) := by decide +kernel
theorem dX9_rest_8 : decode cX9_rest 8 = .ok (.iconst 1, 1) := by decide +kernel
theorem dX9_rest_9 : decode cX9_rest 9 = .ok (.goto 4, 3) := by decide +kernel
theorem dX9_rest_12 : decode cX9_rest 12 = .ok (.iconst 0, 1) := by decide +kernel
theorem dX9_rest_13 : decode cX9_rest 13 = .ok (.iload_n 1, 1) := by decide +kernel
theorem dX9_rest_14 : decode cX9_rest 14 = .ok (.i2l, 1) := by decide +kernel
theorem dX9_rest_15 : decode cX9_rest 15 = .ok (.lconst 0, 1) := by decide +kernel
theorem dX9_rest_16 : decode cX9_rest 16 = .ok (.ldc2_w 312, 3) := by decide +kernel
theorem dX9_rest_19 : decode cX9_rest 19 = .ok (.invokestatic 133, 3) := by decide +kernel
theorem dX9_rest_22 : decode cX9_rest 22 = .ok (.ifCond .ne 7, 3) := by decide +kernel
theorem dX9_rest_25 : decode cX9_rest 25 = .ok (.iconst 1, 1) := by decide +kernel
theorem dX9_rest_26 : decode cX9_rest 26 = .ok (.goto 4, 3) := by decide +kernel
theorem dX9_rest_29 : decode cX9_rest 29 = .ok (.iconst 0, 1) := by decide +kernel
theorem dX9_rest_30 : decode cX9_rest 30 = .ok (.iload_n 1, 1) := by decide +kernel
theorem dX9_rest_31 : decode cX9_rest 31 = .ok (.ifCond .ne 19, 3) := by decide +kernel
theorem dX9_rest_34 : decode cX9_rest 34 = .ok (.aload_n 0, 1) := by decide +kernel
theorem dX9_rest_35 : decode cX9_rest 35 = .ok (.iload_n 2, 1) := by decide +kernel
theorem dX9_rest_36 : decode cX9_rest 36 = .ok (.invokevirtual 158, 3) := by decide +kernel
theorem dX9_rest_39 : decode cX9_rest 39 = .ok (.ifCond .ne 7, 3) := by decide +kernel
theorem dX9_rest_42 : decode cX9_rest 42 = .ok (.iconst 1, 1) := by decide +kernel
theorem dX9_rest_43 : decode cX9_rest 43 = .ok (.goto 20, 3) := by decide +kernel
theorem dX9_rest_46 : decode cX9_rest 46 = .ok (.iconst 0, 1) := by decide +kernel
theorem dX9_rest_47 : decode cX9_rest 47 = .ok (.goto 16, 3) := by decide +kernel
theorem dX9_rest_50 : decode cX9_rest 50 = .ok (.aload_n 0, 1) := by decide +kernel
theorem dX9_rest_51 : decode cX9_rest 51 = .ok (.iload_n 2, 1) := by decide +kernel
theorem dX9_rest_52 : decode cX9_rest 52 = .ok (.invokevirtual 162, 3) := by decide +kernel
theorem dX9_rest_55 : decode cX9_rest 55 = .ok (.ifCond .ne 7, 3) := by decide +kernel
theorem dX9_rest_58 : decode cX9_rest 58 = .ok (.iconst 1, 1) := by decide +kernel
theorem dX9_rest_59 : decode cX9_rest 59 = .ok (.goto 4, 3) := by decide +kernel
theorem dX9_rest_62 : decode cX9_rest 62 = .ok (.iconst 0, 1) := by decide +kernel
theorem dX9_rest_63 : decode cX9_rest 63 = .ok (.invokevirtual 314, 3) := by decide +kernel
theorem dX9_rest_66 : decode cX9_rest 66 = .ok (.ifCond .ne 5, 3) := by decide +kernel
theorem dX9_rest_69 : decode cX9_rest 69 = .ok (.iconst 0, 1) := by decide +kernel
theorem dX9_rest_70 : decode cX9_rest 70 = .ok (.ireturn, 1) := by decide +kernel
theorem dX9_rest_71 : decode cX9_rest 71 = .ok (.iload_n 1, 1) := by decide +kernel
theorem dX9_rest_72 : decode cX9_rest 72 = .ok (.ifCond .ne 12, 3) := by decide +kernel
theorem dX9_rest_75 : decode cX9_rest 75 = .ok (.aload_n 0, 1) := by decide +kernel
theorem dX9_rest_76 : decode cX9_rest 76 = .ok (.getfield 57, 3) := by decide +kernel
theorem dX9_rest_79 : decode cX9_rest 79 = .ok (.iload_n 2, 1) := by decide +kernel
theorem dX9_rest_80 : decode cX9_rest 80 = .ok (.iaload, 1) := by decide +kernel
theorem dX9_rest_81 : decode cX9_rest 81 = .ok (.goto 23, 3) := by decide +kernel
theorem dX9_rest_84 : decode cX9_rest 84 = .ok (.iload_n 1, 1) := by decide +kernel
theorem dX9_rest_85 : decode cX9_rest 85 = .ok (.iconst 1, 1) := by decide +kernel
theorem dX9_rest_86 : decode cX9_rest 86 = .ok (.if_icmp .ne 12, 3) := by decide +kernel
theorem dX9_rest_89 : decode cX9_rest 89 = .ok (.aload_n 0, 1) := by decide +kernel
theorem dX9_rest_90 : decode cX9_rest 90 = .ok (.getfield 37, 3) := by decide +kernel
theorem dX9_rest_93 : decode cX9_rest 93 = .ok (.iload_n 2, 1) := by decide +kernel
theorem dX9_rest_94 : decode cX9_rest 94 = .ok (.iaload, 1) := by decide +kernel
theorem dX9_rest_95 : decode cX9_rest 95 = .ok (.goto 9, 3) := by decide +kernel
theorem dX9_rest_98 : decode cX9_rest 98 = .ok (.aload_n 0, 1) := by decide +kernel
theorem dX9_rest_99 : decode cX9_rest 99 = .ok (.getfield 40, 3) := by decide +kernel
theorem dX9_rest_102 : decode cX9_rest 102 = .ok (.iload_n 2, 1) := by decide +kernel
theorem dX9_rest_103 : decode cX9_rest 103 = .ok (.iaload, 1) := by decide +kernel
theorem dX9_rest_104 : decode cX9_rest 104 = .ok (.ireturn, 1) := by decide +kernel
theorem dX9_certificate_0 : decode cX9_certificate 0 = .ok (.aload_n 0, 1) := by decide +kernel
theorem dX9_certificate_1 : decode cX9_certificate 1 = .ok (.aload_n 0, 1) := by decide +kernel
theorem dX9_certificate_2 : decode cX9_certificate 2 = .ok (.getfield 123, 3) := by decide +kernel
theorem dX9_certificate_5 : decode cX9_certificate 5 = .ok (.ifCond .ne 7, 3) := by decide +kernel
theorem dX9_certificate_8 : decode cX9_certificate 8 = .ok (.iconst 1, 1) := by decide +kernel
theorem dX9_certificate_9 : decode cX9_certificate 9 = .ok (.goto 4, 3) := by decide +kernel
theorem dX9_certificate_12 : decode cX9_certificate 12 = .ok (.iconst 0, 1) := by decide +kernel
theorem dX9_certificate_13 : decode cX9_certificate 13 = .ok (.iconst 0, 1) := by decide +kernel
theorem dX9_certificate_14 : decode cX9_certificate 14 = .ok (.invokevirtual 144, 3) := by decide +kernel
theorem dX9_certificate_17 : decode cX9_certificate 17 = .ok (.ifCond .eq 10, 3) := by decide +kernel
theorem dX9_certificate_20 : decode cX9_certificate 20 = .ok (.aload_n 0, 1) := by decide +kernel
theorem dX9_certificate_21 : decode cX9_certificate 21 = .ok (.getfield 172, 3) := by decide +kernel
theorem dX9_certificate_24 : decode cX9_certificate 24 = .ok (.goto 4, 3) := by decide +kernel
theorem dX9_certificate_27 : decode cX9_certificate 27 = .ok (.iconst 0, 1) := by decide +kernel
theorem dX9_certificate_28 : decode cX9_certificate 28 = .ok (.ireturn, 1) := by decide +kernel
theorem dX9_points_0 : decode cX9_points 0 = .ok (.lconst 1, 1) := by decide +kernel
theorem dX9_points_1 : decode cX9_points 1 = .ok (.lstore_n 2, 1) := by decide +kernel
theorem dX9_points_2 : decode cX9_points 2 = .ok (.iconst 0, 1) := by decide +kernel
theorem dX9_points_3 : decode cX9_points 3 = .ok (.istore 4, 2) := by decide +kernel
theorem dX9_points_5 : decode cX9_points 5 = .ok (.iload 4, 2) := by decide +kernel
theorem dX9_points_7 : decode cX9_points 7 = .ok (.aload_n 0, 1) := by decide +kernel
theorem dX9_points_8 : decode cX9_points 8 = .ok (.getfield 141, 3) := by decide +kernel
theorem dX9_points_11 : decode cX9_points 11 = .ok (.if_icmp .ge 90, 3) := by decide +kernel
theorem dX9_points_14 : decode cX9_points 14 = .ok (.iload_n 1, 1) := by decide +kernel
theorem dX9_points_15 : decode cX9_points 15 = .ok (.ifCond .ne 24, 3) := by decide +kernel
theorem dX9_points_18 : decode cX9_points 18 = .ok (.aload_n 0, 1) := by decide +kernel
theorem dX9_points_19 : decode cX9_points 19 = .ok (.getfield 13, 3) := by decide +kernel
theorem dX9_points_22 : decode cX9_points 22 = .ok (.iload 4, 2) := by decide +kernel
theorem dX9_points_24 : decode cX9_points 24 = .ok (.iaload, 1) := by decide +kernel
theorem dX9_points_25 : decode cX9_points 25 = .ok (.aload_n 0, 1) := by decide +kernel
theorem dX9_points_26 : decode cX9_points 26 = .ok (.getfield 7, 3) := by decide +kernel
theorem dX9_points_29 : decode cX9_points 29 = .ok (.iload 4, 2) := by decide +kernel
theorem dX9_points_31 : decode cX9_points 31 = .ok (.iaload, 1) := by decide +kernel
theorem dX9_points_32 : decode cX9_points 32 = .ok (.isub, 1) := by decide +kernel
theorem dX9_points_33 : decode cX9_points 33 = .ok (.i2l, 1) := by decide +kernel
theorem dX9_points_34 : decode cX9_points 34 = .ok (.lconst 1, 1) := by decide +kernel
theorem dX9_points_35 : decode cX9_points 35 = .ok (.ladd, 1) := by decide +kernel
theorem dX9_points_36 : decode cX9_points 36 = .ok (.goto 35, 3) := by decide +kernel
theorem dX9_points_39 : decode cX9_points 39 = .ok (.aload_n 0, 1) := by decide +kernel
theorem dX9_points_40 : decode cX9_points 40 = .ok (.getfield 28, 3) := by decide +kernel
theorem dX9_points_43 : decode cX9_points 43 = .ok (.iload 4, 2) := by decide +kernel
theorem dX9_points_45 : decode cX9_points 45 = .ok (.iaload, 1) := by decide +kernel
theorem dX9_points_46 : decode cX9_points 46 = .ok (.ifCond .ne 24, 3) := by decide +kernel
theorem dX9_points_49 : decode cX9_points 49 = .ok (.aload_n 0, 1) := by decide +kernel
theorem dX9_points_50 : decode cX9_points 50 = .ok (.getfield 34, 3) := by decide +kernel
theorem dX9_points_53 : decode cX9_points 53 = .ok (.iload 4, 2) := by decide +kernel
theorem dX9_points_55 : decode cX9_points 55 = .ok (.iaload, 1) := by decide +kernel
theorem dX9_points_56 : decode cX9_points 56 = .ok (.aload_n 0, 1) := by decide +kernel
theorem dX9_points_57 : decode cX9_points 57 = .ok (.getfield 31, 3) := by decide +kernel
theorem dX9_points_60 : decode cX9_points 60 = .ok (.iload 4, 2) := by decide +kernel
theorem dX9_points_62 : decode cX9_points 62 = .ok (.iaload, 1) := by decide +kernel
theorem dX9_points_63 : decode cX9_points 63 = .ok (.isub, 1) := by decide +kernel
theorem dX9_points_64 : decode cX9_points 64 = .ok (.i2l, 1) := by decide +kernel
theorem dX9_points_65 : decode cX9_points 65 = .ok (.lconst 1, 1) := by decide +kernel
theorem dX9_points_66 : decode cX9_points 66 = .ok (.ladd, 1) := by decide +kernel
theorem dX9_points_67 : decode cX9_points 67 = .ok (.goto 4, 3) := by decide +kernel
theorem dX9_points_70 : decode cX9_points 70 = .ok (.lconst 1, 1) := by decide +kernel
theorem dX9_points_71 : decode cX9_points 71 = .ok (.lstore 5, 2) := by decide +kernel
theorem dX9_points_73 : decode cX9_points 73 = .ok (.lload_n 2, 1) := by decide +kernel
theorem dX9_points_74 : decode cX9_points 74 = .ok (.lload 5, 2) := by decide +kernel
theorem dX9_points_76 : decode cX9_points 76 = .ok (.lmul, 1) := by decide +kernel
theorem dX9_points_77 : decode cX9_points 77 = .ok (.ldc2_w 318, 3) := by decide +kernel
theorem dX9_points_80 : decode cX9_points 80 = .ok (.lcmp, 1) := by decide +kernel
theorem dX9_points_81 : decode cX9_points 81 = .ok (.ifCond .le 9, 3) := by decide +kernel
theorem dX9_points_84 : decode cX9_points 84 = .ok (.ldc2_w 320, 3) := by decide +kernel
theorem dX9_points_87 : decode cX9_points 87 = .ok (.goto 7, 3) := by decide +kernel
theorem dX9_points_90 : decode cX9_points 90 = .ok (.lload_n 2, 1) := by decide +kernel
theorem dX9_points_91 : decode cX9_points 91 = .ok (.lload 5, 2) := by decide +kernel
theorem dX9_points_93 : decode cX9_points 93 = .ok (.lmul, 1) := by decide +kernel
theorem dX9_points_94 : decode cX9_points 94 = .ok (.lstore_n 2, 1) := by decide +kernel
theorem dX9_points_95 : decode cX9_points 95 = .ok (.iinc 4 1, 3) := by decide +kernel
theorem dX9_points_98 : decode cX9_points 98 = .ok (.goto (-93), 3) := by decide +kernel
theorem dX9_points_101 : decode cX9_points 101 = .ok (.lload_n 2, 1) := by decide +kernel
theorem dX9_points_102 : decode cX9_points 102 = .ok (.l2i, 1) := by decide +kernel
theorem dX9_points_103 : decode cX9_points 103 = .ok (.ireturn, 1) := by decide +kernel
theorem dX9_firstPoint_0 : decode cX9_firstPoint 0 = .ok (.iconst 0, 1) := by decide +kernel
theorem dX9_firstPoint_1 : decode cX9_firstPoint 1 = .ok (.istore_n 2, 1) := by decide +kernel
theorem dX9_firstPoint_2 : decode cX9_firstPoint 2 = .ok (.iload_n 2, 1) := by decide +kernel
theorem dX9_firstPoint_3 : decode cX9_firstPoint 3 = .ok (.aload_n 0, 1) := by decide +kernel
theorem dX9_firstPoint_4 : decode cX9_firstPoint 4 = .ok (.getfield 141, 3) := by decide +kernel
theorem dX9_firstPoint_7 : decode cX9_firstPoint 7 = .ok (.if_icmp .ge 47, 3) := by decide +kernel
theorem dX9_firstPoint_10 : decode cX9_firstPoint 10 = .ok (.aload_n 0, 1) := by decide +kernel
theorem dX9_firstPoint_11 : decode cX9_firstPoint 11 = .ok (.getfield 99, 3) := by decide +kernel
theorem dX9_firstPoint_14 : decode cX9_firstPoint 14 = .ok (.iload_n 2, 1) := by decide +kernel
theorem dX9_firstPoint_15 : decode cX9_firstPoint 15 = .ok (.iload_n 1, 1) := by decide +kernel
theorem dX9_firstPoint_16 : decode cX9_firstPoint 16 = .ok (.ifCond .ne 12, 3) := by decide +kernel
theorem dX9_firstPoint_19 : decode cX9_firstPoint 19 = .ok (.aload_n 0, 1) := by decide +kernel
theorem dX9_firstPoint_20 : decode cX9_firstPoint 20 = .ok (.getfield 7, 3) := by decide +kernel
theorem dX9_firstPoint_23 : decode cX9_firstPoint 23 = .ok (.iload_n 2, 1) := by decide +kernel
theorem dX9_firstPoint_24 : decode cX9_firstPoint 24 = .ok (.iaload, 1) := by decide +kernel
theorem dX9_firstPoint_25 : decode cX9_firstPoint 25 = .ok (.goto 22, 3) := by decide +kernel
theorem dX9_firstPoint_28 : decode cX9_firstPoint 28 = .ok (.aload_n 0, 1) := by decide +kernel
theorem dX9_firstPoint_29 : decode cX9_firstPoint 29 = .ok (.getfield 28, 3) := by decide +kernel
theorem dX9_firstPoint_32 : decode cX9_firstPoint 32 = .ok (.iload_n 2, 1) := by decide +kernel
theorem dX9_firstPoint_33 : decode cX9_firstPoint 33 = .ok (.iaload, 1) := by decide +kernel
theorem dX9_firstPoint_34 : decode cX9_firstPoint 34 = .ok (.ifCond .ne 12, 3) := by decide +kernel
theorem dX9_firstPoint_37 : decode cX9_firstPoint 37 = .ok (.aload_n 0, 1) := by decide +kernel
theorem dX9_firstPoint_38 : decode cX9_firstPoint 38 = .ok (.getfield 31, 3) := by decide +kernel
theorem dX9_firstPoint_41 : decode cX9_firstPoint 41 = .ok (.iload_n 2, 1) := by decide +kernel
theorem dX9_firstPoint_42 : decode cX9_firstPoint 42 = .ok (.iaload, 1) := by decide +kernel
theorem dX9_firstPoint_43 : decode cX9_firstPoint 43 = .ok (.goto 4, 3) := by decide +kernel
theorem dX9_firstPoint_46 : decode cX9_firstPoint 46 = .ok (.iconst 0, 1) := by decide +kernel
theorem dX9_firstPoint_47 : decode cX9_firstPoint 47 = .ok (.iastore, 1) := by decide +kernel
theorem dX9_firstPoint_48 : decode cX9_firstPoint 48 = .ok (.iinc 2 1, 3) := by decide +kernel
theorem dX9_firstPoint_51 : decode cX9_firstPoint 51 = .ok (.goto (-49), 3) := by decide +kernel
theorem dX9_firstPoint_54 : decode cX9_firstPoint 54 = .ok (.return_, 1) := by decide +kernel
theorem dX9_nextPoint_0 : decode cX9_nextPoint 0 = .ok (.iconst 1, 1) := by decide +kernel
theorem dX9_nextPoint_1 : decode cX9_nextPoint 1 = .ok (.istore_n 2, 1) := by decide +kernel
theorem dX9_nextPoint_2 : decode cX9_nextPoint 2 = .ok (.aload_n 0, 1) := by decide +kernel
theorem dX9_nextPoint_3 : decode cX9_nextPoint 3 = .ok (.getfield 141, 3) := by decide +kernel
theorem dX9_nextPoint_6 : decode cX9_nextPoint 6 = .ok (.iconst 1, 1) := by decide +kernel
theorem dX9_nextPoint_7 : decode cX9_nextPoint 7 = .ok (.isub, 1) := by decide +kernel
theorem dX9_nextPoint_8 : decode cX9_nextPoint 8 = .ok (.istore_n 3, 1) := by decide +kernel
theorem dX9_nextPoint_9 : decode cX9_nextPoint 9 = .ok (.iload_n 3, 1) := by decide +kernel
theorem dX9_nextPoint_10 : decode cX9_nextPoint 10 = .ok (.ifCond .lt 104, 3) := by decide +kernel
theorem dX9_nextPoint_13 : decode cX9_nextPoint 13 = .ok (.iload_n 2, 1) := by decide +kernel
theorem dX9_nextPoint_14 : decode cX9_nextPoint 14 = .ok (.ifCond .eq 100, 3) := by decide +kernel
theorem dX9_nextPoint_17 : decode cX9_nextPoint 17 = .ok (.iload_n 1, 1) := by decide +kernel
theorem dX9_nextPoint_18 : decode cX9_nextPoint 18 = .ok (.ifCond .eq 12, 3) := by decide +kernel
theorem dX9_nextPoint_21 : decode cX9_nextPoint 21 = .ok (.aload_n 0, 1) := by decide +kernel
theorem dX9_nextPoint_22 : decode cX9_nextPoint 22 = .ok (.getfield 28, 3) := by decide +kernel
theorem dX9_nextPoint_25 : decode cX9_nextPoint 25 = .ok (.iload_n 3, 1) := by decide +kernel
theorem dX9_nextPoint_26 : decode cX9_nextPoint 26 = .ok (.iaload, 1) := by decide +kernel
theorem dX9_nextPoint_27 : decode cX9_nextPoint 27 = .ok (.ifCond .ne 81, 3) := by decide +kernel
theorem dX9_nextPoint_30 : decode cX9_nextPoint 30 = .ok (.iload_n 1, 1) := by decide +kernel
theorem dX9_nextPoint_31 : decode cX9_nextPoint 31 = .ok (.ifCond .eq 12, 3) := by decide +kernel
theorem dX9_nextPoint_34 : decode cX9_nextPoint 34 = .ok (.aload_n 0, 1) := by decide +kernel
theorem dX9_nextPoint_35 : decode cX9_nextPoint 35 = .ok (.getfield 34, 3) := by decide +kernel
theorem dX9_nextPoint_38 : decode cX9_nextPoint 38 = .ok (.iload_n 3, 1) := by decide +kernel
theorem dX9_nextPoint_39 : decode cX9_nextPoint 39 = .ok (.iaload, 1) := by decide +kernel
theorem dX9_nextPoint_40 : decode cX9_nextPoint 40 = .ok (.goto 9, 3) := by decide +kernel
theorem dX9_nextPoint_43 : decode cX9_nextPoint 43 = .ok (.aload_n 0, 1) := by decide +kernel
theorem dX9_nextPoint_44 : decode cX9_nextPoint 44 = .ok (.getfield 13, 3) := by decide +kernel
theorem dX9_nextPoint_47 : decode cX9_nextPoint 47 = .ok (.iload_n 3, 1) := by decide +kernel
theorem dX9_nextPoint_48 : decode cX9_nextPoint 48 = .ok (.iaload, 1) := by decide +kernel
theorem dX9_nextPoint_49 : decode cX9_nextPoint 49 = .ok (.istore 4, 2) := by decide +kernel
theorem dX9_nextPoint_51 : decode cX9_nextPoint 51 = .ok (.aload_n 0, 1) := by decide +kernel
theorem dX9_nextPoint_52 : decode cX9_nextPoint 52 = .ok (.getfield 99, 3) := by decide +kernel
theorem dX9_nextPoint_55 : decode cX9_nextPoint 55 = .ok (.iload_n 3, 1) := by decide +kernel
theorem dX9_nextPoint_56 : decode cX9_nextPoint 56 = .ok (.iaload, 1) := by decide +kernel
theorem dX9_nextPoint_57 : decode cX9_nextPoint 57 = .ok (.iload 4, 2) := by decide +kernel
theorem dX9_nextPoint_59 : decode cX9_nextPoint 59 = .ok (.if_icmp .ne 7, 3) := by decide +kernel
theorem dX9_nextPoint_62 : decode cX9_nextPoint 62 = .ok (.iconst 1, 1) := by decide +kernel
theorem dX9_nextPoint_63 : decode cX9_nextPoint 63 = .ok (.goto 4, 3) := by decide +kernel
theorem dX9_nextPoint_66 : decode cX9_nextPoint 66 = .ok (.iconst 0, 1) := by decide +kernel
theorem dX9_nextPoint_67 : decode cX9_nextPoint 67 = .ok (.istore_n 2, 1) := by decide +kernel
theorem dX9_nextPoint_68 : decode cX9_nextPoint 68 = .ok (.aload_n 0, 1) := by decide +kernel
theorem dX9_nextPoint_69 : decode cX9_nextPoint 69 = .ok (.getfield 99, 3) := by decide +kernel
theorem dX9_nextPoint_72 : decode cX9_nextPoint 72 = .ok (.iload_n 3, 1) := by decide +kernel
theorem dX9_nextPoint_73 : decode cX9_nextPoint 73 = .ok (.iload_n 2, 1) := by decide +kernel
theorem dX9_nextPoint_74 : decode cX9_nextPoint 74 = .ok (.ifCond .ne 14, 3) := by decide +kernel
theorem dX9_nextPoint_77 : decode cX9_nextPoint 77 = .ok (.aload_n 0, 1) := by decide +kernel
theorem dX9_nextPoint_78 : decode cX9_nextPoint 78 = .ok (.getfield 99, 3) := by decide +kernel
theorem dX9_nextPoint_81 : decode cX9_nextPoint 81 = .ok (.iload_n 3, 1) := by decide +kernel
theorem dX9_nextPoint_82 : decode cX9_nextPoint 82 = .ok (.iaload, 1) := by decide +kernel
theorem dX9_nextPoint_83 : decode cX9_nextPoint 83 = .ok (.iconst 1, 1) := by decide +kernel
theorem dX9_nextPoint_84 : decode cX9_nextPoint 84 = .ok (.iadd, 1) := by decide +kernel
theorem dX9_nextPoint_85 : decode cX9_nextPoint 85 = .ok (.goto 22, 3) := by decide +kernel
theorem dX9_nextPoint_88 : decode cX9_nextPoint 88 = .ok (.iload_n 1, 1) := by decide +kernel
theorem dX9_nextPoint_89 : decode cX9_nextPoint 89 = .ok (.ifCond .eq 12, 3) := by decide +kernel
theorem dX9_nextPoint_92 : decode cX9_nextPoint 92 = .ok (.aload_n 0, 1) := by decide +kernel
theorem dX9_nextPoint_93 : decode cX9_nextPoint 93 = .ok (.getfield 31, 3) := by decide +kernel
theorem dX9_nextPoint_96 : decode cX9_nextPoint 96 = .ok (.iload_n 3, 1) := by decide +kernel
theorem dX9_nextPoint_97 : decode cX9_nextPoint 97 = .ok (.iaload, 1) := by decide +kernel
theorem dX9_nextPoint_98 : decode cX9_nextPoint 98 = .ok (.goto 9, 3) := by decide +kernel
theorem dX9_nextPoint_101 : decode cX9_nextPoint 101 = .ok (.aload_n 0, 1) := by decide +kernel
theorem dX9_nextPoint_102 : decode cX9_nextPoint 102 = .ok (.getfield 7, 3) := by decide +kernel
theorem dX9_nextPoint_105 : decode cX9_nextPoint 105 = .ok (.iload_n 3, 1) := by decide +kernel
theorem dX9_nextPoint_106 : decode cX9_nextPoint 106 = .ok (.iaload, 1) := by decide +kernel
theorem dX9_nextPoint_107 : decode cX9_nextPoint 107 = .ok (.iastore, 1) := by decide +kernel
theorem dX9_nextPoint_108 : decode cX9_nextPoint 108 = .ok (.iinc 3 (-1), 3) := by decide +kernel
theorem dX9_nextPoint_111 : decode cX9_nextPoint 111 = .ok (.goto (-102), 3) := by decide +kernel
theorem dX9_nextPoint_114 : decode cX9_nextPoint 114 = .ok (.return_, 1) := by decide +kernel
theorem dX9_holds_0 : decode cX9_holds 0 = .ok (.lconst 0, 1) := by decide +kernel
theorem dX9_holds_1 : decode cX9_holds 1 = .ok (.lstore_n 2, 1) := by decide +kernel
theorem dX9_holds_2 : decode cX9_holds 2 = .ok (.iconst 0, 1) := by decide +kernel
theorem dX9_holds_3 : decode cX9_holds 3 = .ok (.istore 4, 2) := by decide +kernel
theorem dX9_holds_5 : decode cX9_holds 5 = .ok (.iload 4, 2) := by decide +kernel
theorem dX9_holds_7 : decode cX9_holds 7 = .ok (.aload_n 0, 1) := by decide +kernel
theorem dX9_holds_8 : decode cX9_holds 8 = .ok (.getfield 141, 3) := by decide +kernel
theorem dX9_holds_11 : decode cX9_holds 11 = .ok (.if_icmp .ge 34, 3) := by decide +kernel
theorem dX9_holds_14 : decode cX9_holds 14 = .ok (.lload_n 2, 1) := by decide +kernel
theorem dX9_holds_15 : decode cX9_holds 15 = .ok (.aload_n 0, 1) := by decide +kernel
theorem dX9_holds_16 : decode cX9_holds 16 = .ok (.getfield 25, 3) := by decide +kernel
theorem dX9_holds_19 : decode cX9_holds 19 = .ok (.bipush 12, 2) := by decide +kernel
theorem dX9_holds_21 : decode cX9_holds 21 = .ok (.iload_n 1, 1) := by decide +kernel
theorem dX9_holds_22 : decode cX9_holds 22 = .ok (.imul, 1) := by decide +kernel
theorem dX9_holds_23 : decode cX9_holds 23 = .ok (.iload 4, 2) := by decide +kernel
theorem dX9_holds_25 : decode cX9_holds 25 = .ok (.iadd, 1) := by decide +kernel
theorem dX9_holds_26 : decode cX9_holds 26 = .ok (.iaload, 1) := by decide +kernel
theorem dX9_holds_27 : decode cX9_holds 27 = .ok (.i2l, 1) := by decide +kernel
theorem dX9_holds_28 : decode cX9_holds 28 = .ok (.aload_n 0, 1) := by decide +kernel
theorem dX9_holds_29 : decode cX9_holds 29 = .ok (.getfield 99, 3) := by decide +kernel
theorem dX9_holds_32 : decode cX9_holds 32 = .ok (.iload 4, 2) := by decide +kernel
theorem dX9_holds_34 : decode cX9_holds 34 = .ok (.iaload, 1) := by decide +kernel
theorem dX9_holds_35 : decode cX9_holds 35 = .ok (.i2l, 1) := by decide +kernel
theorem dX9_holds_36 : decode cX9_holds 36 = .ok (.lmul, 1) := by decide +kernel
theorem dX9_holds_37 : decode cX9_holds 37 = .ok (.ladd, 1) := by decide +kernel
theorem dX9_holds_38 : decode cX9_holds 38 = .ok (.lstore_n 2, 1) := by decide +kernel
theorem dX9_holds_39 : decode cX9_holds 39 = .ok (.iinc 4 1, 3) := by decide +kernel
theorem dX9_holds_42 : decode cX9_holds 42 = .ok (.goto (-37), 3) := by decide +kernel
theorem dX9_holds_45 : decode cX9_holds 45 = .ok (.aload_n 0, 1) := by decide +kernel
theorem dX9_holds_46 : decode cX9_holds 46 = .ok (.getfield 19, 3) := by decide +kernel
theorem dX9_holds_49 : decode cX9_holds 49 = .ok (.iload_n 1, 1) := by decide +kernel
theorem dX9_holds_50 : decode cX9_holds 50 = .ok (.iaload, 1) := by decide +kernel
theorem dX9_holds_51 : decode cX9_holds 51 = .ok (.ifCond .ne 23, 3) := by decide +kernel
theorem dX9_holds_54 : decode cX9_holds 54 = .ok (.lload_n 2, 1) := by decide +kernel
theorem dX9_holds_55 : decode cX9_holds 55 = .ok (.aload_n 0, 1) := by decide +kernel
theorem dX9_holds_56 : decode cX9_holds 56 = .ok (.getfield 22, 3) := by decide +kernel
theorem dX9_holds_59 : decode cX9_holds 59 = .ok (.iload_n 1, 1) := by decide +kernel
theorem dX9_holds_60 : decode cX9_holds 60 = .ok (.iaload, 1) := by decide +kernel
theorem dX9_holds_61 : decode cX9_holds 61 = .ok (.i2l, 1) := by decide +kernel
theorem dX9_holds_62 : decode cX9_holds 62 = .ok (.lcmp, 1) := by decide +kernel
theorem dX9_holds_63 : decode cX9_holds 63 = .ok (.ifCond .gt 7, 3) := by decide +kernel
theorem dX9_holds_66 : decode cX9_holds 66 = .ok (.iconst 1, 1) := by decide +kernel
theorem dX9_holds_67 : decode cX9_holds 67 = .ok (.goto 24, 3) := by decide +kernel
theorem dX9_holds_70 : decode cX9_holds 70 = .ok (.iconst 0, 1) := by decide +kernel
theorem dX9_holds_71 : decode cX9_holds 71 = .ok (.goto 20, 3) := by decide +kernel
theorem dX9_holds_74 : decode cX9_holds 74 = .ok (.lload_n 2, 1) := by decide +kernel
theorem dX9_holds_75 : decode cX9_holds 75 = .ok (.aload_n 0, 1) := by decide +kernel
theorem dX9_holds_76 : decode cX9_holds 76 = .ok (.getfield 22, 3) := by decide +kernel
theorem dX9_holds_79 : decode cX9_holds 79 = .ok (.iload_n 1, 1) := by decide +kernel
theorem dX9_holds_80 : decode cX9_holds 80 = .ok (.iaload, 1) := by decide +kernel
theorem dX9_holds_81 : decode cX9_holds 81 = .ok (.i2l, 1) := by decide +kernel
theorem dX9_holds_82 : decode cX9_holds 82 = .ok (.lcmp, 1) := by decide +kernel
theorem dX9_holds_83 : decode cX9_holds 83 = .ok (.ifCond .ne 7, 3) := by decide +kernel
theorem dX9_holds_86 : decode cX9_holds 86 = .ok (.iconst 1, 1) := by decide +kernel
theorem dX9_holds_87 : decode cX9_holds 87 = .ok (.goto 4, 3) := by decide +kernel
theorem dX9_holds_90 : decode cX9_holds 90 = .ok (.iconst 0, 1) := by decide +kernel
theorem dX9_holds_91 : decode cX9_holds 91 = .ok (.ireturn, 1) := by decide +kernel
theorem dX9_holdsSmall_0 : decode cX9_holdsSmall 0 = .ok (.lconst 0, 1) := by decide +kernel
theorem dX9_holdsSmall_1 : decode cX9_holdsSmall 1 = .ok (.lstore_n 2, 1) := by decide +kernel
theorem dX9_holdsSmall_2 : decode cX9_holdsSmall 2 = .ok (.iconst 0, 1) := by decide +kernel
theorem dX9_holdsSmall_3 : decode cX9_holdsSmall 3 = .ok (.istore 4, 2) := by decide +kernel
theorem dX9_holdsSmall_5 : decode cX9_holdsSmall 5 = .ok (.iload 4, 2) := by decide +kernel
theorem dX9_holdsSmall_7 : decode cX9_holdsSmall 7 = .ok (.aload_n 0, 1) := by decide +kernel
theorem dX9_holdsSmall_8 : decode cX9_holdsSmall 8 = .ok (.getfield 141, 3) := by decide +kernel
theorem dX9_holdsSmall_11 : decode cX9_holdsSmall 11 = .ok (.if_icmp .ge 47, 3) := by decide +kernel
theorem dX9_holdsSmall_14 : decode cX9_holdsSmall 14 = .ok (.lload_n 2, 1) := by decide +kernel
theorem dX9_holdsSmall_15 : decode cX9_holdsSmall 15 = .ok (.aload_n 0, 1) := by decide +kernel
theorem dX9_holdsSmall_16 : decode cX9_holdsSmall 16 = .ok (.iload_n 1, 1) := by decide +kernel
theorem dX9_holdsSmall_17 : decode cX9_holdsSmall 17 = .ok (.iload 4, 2) := by decide +kernel
theorem dX9_holdsSmall_19 : decode cX9_holdsSmall 19 = .ok (.invokevirtual 165, 3) := by decide +kernel
theorem dX9_holdsSmall_22 : decode cX9_holdsSmall 22 = .ok (.ifCond .eq 27, 3) := by decide +kernel
theorem dX9_holdsSmall_25 : decode cX9_holdsSmall 25 = .ok (.aload_n 0, 1) := by decide +kernel
theorem dX9_holdsSmall_26 : decode cX9_holdsSmall 26 = .ok (.getfield 60, 3) := by decide +kernel
theorem dX9_holdsSmall_29 : decode cX9_holdsSmall 29 = .ok (.bipush 12, 2) := by decide +kernel
theorem dX9_holdsSmall_31 : decode cX9_holdsSmall 31 = .ok (.iload_n 1, 1) := by decide +kernel
theorem dX9_holdsSmall_32 : decode cX9_holdsSmall 32 = .ok (.imul, 1) := by decide +kernel
theorem dX9_holdsSmall_33 : decode cX9_holdsSmall 33 = .ok (.iload 4, 2) := by decide +kernel
theorem dX9_holdsSmall_35 : decode cX9_holdsSmall 35 = .ok (.iadd, 1) := by decide +kernel
theorem dX9_holdsSmall_36 : decode cX9_holdsSmall 36 = .ok (.laload, 1) := by decide +kernel
theorem dX9_holdsSmall_37 : decode cX9_holdsSmall 37 = .ok (.aload_n 0, 1) := by decide +kernel
theorem dX9_holdsSmall_38 : decode cX9_holdsSmall 38 = .ok (.getfield 99, 3) := by decide +kernel
theorem dX9_holdsSmall_41 : decode cX9_holdsSmall 41 = .ok (.iload 4, 2) := by decide +kernel
theorem dX9_holdsSmall_43 : decode cX9_holdsSmall 43 = .ok (.iaload, 1) := by decide +kernel
theorem dX9_holdsSmall_44 : decode cX9_holdsSmall 44 = .ok (.i2l, 1) := by decide +kernel
theorem dX9_holdsSmall_45 : decode cX9_holdsSmall 45 = .ok (.lmul, 1) := by decide +kernel
theorem dX9_holdsSmall_46 : decode cX9_holdsSmall 46 = .ok (.goto 4, 3) := by decide +kernel
theorem dX9_holdsSmall_49 : decode cX9_holdsSmall 49 = .ok (.lconst 0, 1) := by decide +kernel
theorem dX9_holdsSmall_50 : decode cX9_holdsSmall 50 = .ok (.ladd, 1) := by decide +kernel
theorem dX9_holdsSmall_51 : decode cX9_holdsSmall 51 = .ok (.lstore_n 2, 1) := by decide +kernel
theorem dX9_holdsSmall_52 : decode cX9_holdsSmall 52 = .ok (.iinc 4 1, 3) := by decide +kernel
theorem dX9_holdsSmall_55 : decode cX9_holdsSmall 55 = .ok (.goto (-50), 3) := by decide +kernel
theorem dX9_holdsSmall_58 : decode cX9_holdsSmall 58 = .ok (.aload_n 0, 1) := by decide +kernel
theorem dX9_holdsSmall_59 : decode cX9_holdsSmall 59 = .ok (.getfield 50, 3) := by decide +kernel
theorem dX9_holdsSmall_62 : decode cX9_holdsSmall 62 = .ok (.iload_n 1, 1) := by decide +kernel
theorem dX9_holdsSmall_63 : decode cX9_holdsSmall 63 = .ok (.baload, 1) := by decide +kernel
theorem dX9_holdsSmall_64 : decode cX9_holdsSmall 64 = .ok (.ifCond .ne 37, 3) := by decide +kernel
theorem dX9_holdsSmall_67 : decode cX9_holdsSmall 67 = .ok (.aload_n 0, 1) := by decide +kernel
theorem dX9_holdsSmall_68 : decode cX9_holdsSmall 68 = .ok (.getfield 47, 3) := by decide +kernel
theorem dX9_holdsSmall_71 : decode cX9_holdsSmall 71 = .ok (.iload_n 1, 1) := by decide +kernel
theorem dX9_holdsSmall_72 : decode cX9_holdsSmall 72 = .ok (.iaload, 1) := by decide +kernel
theorem dX9_holdsSmall_73 : decode cX9_holdsSmall 73 = .ok (.ifCond .ne 17, 3) := by decide +kernel
theorem dX9_holdsSmall_76 : decode cX9_holdsSmall 76 = .ok (.lload_n 2, 1) := by decide +kernel
theorem dX9_holdsSmall_77 : decode cX9_holdsSmall 77 = .ok (.aload_n 0, 1) := by decide +kernel
theorem dX9_holdsSmall_78 : decode cX9_holdsSmall 78 = .ok (.getfield 54, 3) := by decide +kernel
theorem dX9_holdsSmall_81 : decode cX9_holdsSmall 81 = .ok (.iload_n 1, 1) := by decide +kernel
theorem dX9_holdsSmall_82 : decode cX9_holdsSmall 82 = .ok (.laload, 1) := by decide +kernel
theorem dX9_holdsSmall_83 : decode cX9_holdsSmall 83 = .ok (.lcmp, 1) := by decide +kernel
theorem dX9_holdsSmall_84 : decode cX9_holdsSmall 84 = .ok (.ifCond .gt 21, 3) := by decide +kernel
theorem dX9_holdsSmall_87 : decode cX9_holdsSmall 87 = .ok (.goto 14, 3) := by decide +kernel
theorem dX9_holdsSmall_90 : decode cX9_holdsSmall 90 = .ok (.lload_n 2, 1) := by decide +kernel
theorem dX9_holdsSmall_91 : decode cX9_holdsSmall 91 = .ok (.aload_n 0, 1) := by decide +kernel
theorem dX9_holdsSmall_92 : decode cX9_holdsSmall 92 = .ok (.getfield 54, 3) := by decide +kernel
theorem dX9_holdsSmall_95 : decode cX9_holdsSmall 95 = .ok (.iload_n 1, 1) := by decide +kernel
theorem dX9_holdsSmall_96 : decode cX9_holdsSmall 96 = .ok (.laload, 1) := by decide +kernel
theorem dX9_holdsSmall_97 : decode cX9_holdsSmall 97 = .ok (.lcmp, 1) := by decide +kernel
theorem dX9_holdsSmall_98 : decode cX9_holdsSmall 98 = .ok (.ifCond .ne 7, 3) := by decide +kernel
theorem dX9_holdsSmall_101 : decode cX9_holdsSmall 101 = .ok (.iconst 1, 1) := by decide +kernel
theorem dX9_holdsSmall_102 : decode cX9_holdsSmall 102 = .ok (.goto 4, 3) := by decide +kernel
theorem dX9_holdsSmall_105 : decode cX9_holdsSmall 105 = .ok (.iconst 0, 1) := by decide +kernel
theorem dX9_holdsSmall_106 : decode cX9_holdsSmall 106 = .ok (.ireturn, 1) := by decide +kernel
theorem dX9_certified_0 : decode cX9_certified 0 = .ok (.aload_n 0, 1) := by decide +kernel
theorem dX9_certified_1 : decode cX9_certified 1 = .ok (.aload_n 0, 1) := by decide +kernel
theorem dX9_certified_2 : decode cX9_certified 2 = .ok (.getfield 123, 3) := by decide +kernel
theorem dX9_certified_5 : decode cX9_certified 5 = .ok (.ifCond .eq 11, 3) := by decide +kernel
theorem dX9_certified_8 : decode cX9_certified 8 = .ok (.aload_n 0, 1) := by decide +kernel
theorem dX9_certified_9 : decode cX9_certified 9 = .ok (.getfield 172, 3) := by decide +kernel
theorem dX9_certified_12 : decode cX9_certified 12 = .ok (.iconst (-1), 1) := by decide +kernel
theorem dX9_certified_13 : decode cX9_certified 13 = .ok (.if_icmp .ne 7, 3) := by decide +kernel
theorem dX9_certified_16 : decode cX9_certified 16 = .ok (.iconst 1, 1) := by decide +kernel
theorem dX9_certified_17 : decode cX9_certified 17 = .ok (.goto 4, 3) := by decide +kernel
theorem dX9_certified_20 : decode cX9_certified 20 = .ok (.iconst 0, 1) := by decide +kernel
theorem dX9_certified_21 : decode cX9_certified 21 = .ok (.iconst 0, 1) := by decide +kernel
theorem dX9_certified_22 : decode cX9_certified 22 = .ok (.invokevirtual 144, 3) := by decide +kernel
theorem dX9_certified_25 : decode cX9_certified 25 = .ok (.ifCond .ne 5, 3) := by decide +kernel
theorem dX9_certified_28 : decode cX9_certified 28 = .ok (.iconst 0, 1) := by decide +kernel
theorem dX9_certified_29 : decode cX9_certified 29 = .ok (.ireturn, 1) := by decide +kernel
theorem dX9_certified_30 : decode cX9_certified 30 = .ok (.aload_n 0, 1) := by decide +kernel
theorem dX9_certified_31 : decode cX9_certified 31 = .ok (.iconst 0, 1) := by decide +kernel
theorem dX9_certified_32 : decode cX9_certified 32 = .ok (.invokevirtual 322, 3) := by decide +kernel
theorem dX9_certified_35 : decode cX9_certified 35 = .ok (.istore_n 1, 1) := by decide +kernel
theorem dX9_certified_36 : decode cX9_certified 36 = .ok (.iload_n 1, 1) := by decide +kernel
theorem dX9_certified_37 : decode cX9_certified 37 = .ok (.sipush 4000, 3) := by decide +kernel
theorem dX9_certified_40 : decode cX9_certified 40 = .ok (.if_icmp .le 5, 3) := by decide +kernel
theorem dX9_certified_43 : decode cX9_certified 43 = .ok (.iconst (-1), 1) := by decide +kernel
theorem dX9_certified_44 : decode cX9_certified 44 = .ok (.ireturn, 1) := by decide +kernel
theorem dX9_certified_45 : decode cX9_certified 45 = .ok (.aload_n 0, 1) := by decide +kernel
theorem dX9_certified_46 : decode cX9_certified 46 = .ok (.iconst 0, 1) := by decide +kernel
theorem dX9_certified_47 : decode cX9_certified 47 = .ok (.invokevirtual 326, 3) := by decide +kernel
theorem dX9_certified_50 : decode cX9_certified 50 = .ok (.iconst 1, 1) := by decide +kernel
theorem dX9_certified_51 : decode cX9_certified 51 = .ok (.istore_n 2, 1) := by decide +kernel
theorem dX9_certified_52 : decode cX9_certified 52 = .ok (.iconst 0, 1) := by decide +kernel
theorem dX9_certified_53 : decode cX9_certified 53 = .ok (.istore_n 3, 1) := by decide +kernel
theorem dX9_certified_54 : decode cX9_certified 54 = .ok (.iload_n 3, 1) := by decide +kernel
theorem dX9_certified_55 : decode cX9_certified 55 = .ok (.iload_n 1, 1) := by decide +kernel
theorem dX9_certified_56 : decode cX9_certified 56 = .ok (.if_icmp .ge 79, 3) := by decide +kernel
theorem dX9_certified_59 : decode cX9_certified 59 = .ok (.iconst 1, 1) := by decide +kernel
theorem dX9_certified_60 : decode cX9_certified 60 = .ok (.istore 4, 2) := by decide +kernel
theorem dX9_certified_62 : decode cX9_certified 62 = .ok (.iconst 0, 1) := by decide +kernel
theorem dX9_certified_63 : decode cX9_certified 63 = .ok (.istore 5, 2) := by decide +kernel
theorem dX9_certified_65 : decode cX9_certified 65 = .ok (.iload 5, 2) := by decide +kernel
theorem dX9_certified_67 : decode cX9_certified 67 = .ok (.aload_n 0, 1) := by decide +kernel
theorem dX9_certified_68 : decode cX9_certified 68 = .ok (.getfield 151, 3) := by decide +kernel
theorem dX9_certified_71 : decode cX9_certified 71 = .ok (.if_icmp .ge 42, 3) := by decide +kernel
theorem dX9_certified_74 : decode cX9_certified 74 = .ok (.iload 4, 2) := by decide +kernel
theorem dX9_certified_76 : decode cX9_certified 76 = .ok (.ifCond .eq 28, 3) := by decide +kernel
theorem dX9_certified_79 : decode cX9_certified 79 = .ok (.aload_n 0, 1) := by decide +kernel
theorem dX9_certified_80 : decode cX9_certified 80 = .ok (.getfield 172, 3) := by decide +kernel
theorem dX9_certified_83 : decode cX9_certified 83 = .ok (.iload 5, 2) := by decide +kernel
theorem dX9_certified_85 : decode cX9_certified 85 = .ok (.ishr, 1) := by decide +kernel
theorem dX9_certified_86 : decode cX9_certified 86 = .ok (.iconst 1, 1) := by decide +kernel
theorem dX9_certified_87 : decode cX9_certified 87 = .ok (.iand, 1) := by decide +kernel
theorem dX9_certified_88 : decode cX9_certified 88 = .ok (.ifCond .eq 12, 3) := by decide +kernel
theorem dX9_certified_91 : decode cX9_certified 91 = .ok (.aload_n 0, 1) := by decide +kernel
theorem dX9_certified_92 : decode cX9_certified 92 = .ok (.iload 5, 2) := by decide +kernel
theorem dX9_certified_94 : decode cX9_certified 94 = .ok (.invokevirtual 330, 3) := by decide +kernel
theorem dX9_certified_97 : decode cX9_certified 97 = .ok (.ifCond .eq 7, 3) := by decide +kernel
theorem dX9_certified_100 : decode cX9_certified 100 = .ok (.iconst 1, 1) := by decide +kernel
theorem dX9_certified_101 : decode cX9_certified 101 = .ok (.goto 4, 3) := by decide +kernel
theorem dX9_certified_104 : decode cX9_certified 104 = .ok (.iconst 0, 1) := by decide +kernel
theorem dX9_certified_105 : decode cX9_certified 105 = .ok (.istore 4, 2) := by decide +kernel
theorem dX9_certified_107 : decode cX9_certified 107 = .ok (.iinc 5 1, 3) := by decide +kernel
theorem dX9_certified_110 : decode cX9_certified 110 = .ok (.goto (-45), 3) := by decide +kernel
theorem dX9_certified_113 : decode cX9_certified 113 = .ok (.iload 4, 2) := by decide +kernel
theorem dX9_certified_115 : decode cX9_certified 115 = .ok (.ifCond .eq 7, 3) := by decide +kernel
theorem dX9_certified_118 : decode cX9_certified 118 = .ok (.iconst 0, 1) := by decide +kernel
theorem dX9_certified_119 : decode cX9_certified 119 = .ok (.goto 4, 3) := by decide +kernel
theorem dX9_certified_122 : decode cX9_certified 122 = .ok (.iload_n 2, 1) := by decide +kernel
theorem dX9_certified_123 : decode cX9_certified 123 = .ok (.istore_n 2, 1) := by decide +kernel
theorem dX9_certified_124 : decode cX9_certified 124 = .ok (.aload_n 0, 1) := by decide +kernel
theorem dX9_certified_125 : decode cX9_certified 125 = .ok (.iconst 0, 1) := by decide +kernel
theorem dX9_certified_126 : decode cX9_certified 126 = .ok (.invokevirtual 333, 3) := by decide +kernel
theorem dX9_certified_129 : decode cX9_certified 129 = .ok (.iinc 3 1, 3) := by decide +kernel
theorem dX9_certified_132 : decode cX9_certified 132 = .ok (.goto (-78), 3) := by decide +kernel
theorem dX9_certified_135 : decode cX9_certified 135 = .ok (.iload_n 2, 1) := by decide +kernel
theorem dX9_certified_136 : decode cX9_certified 136 = .ok (.ireturn, 1) := by decide +kernel
theorem dX9_acts_0 : decode cX9_acts 0 = .ok (.aload_n 0, 1) := by decide +kernel
theorem dX9_acts_1 : decode cX9_acts 1 = .ok (.aload_n 0, 1) := by decide +kernel
theorem dX9_acts_2 : decode cX9_acts 2 = .ok (.getfield 123, 3) := by decide +kernel
theorem dX9_acts_5 : decode cX9_acts 5 = .ok (.ifCond .ne 7, 3) := by decide +kernel
theorem dX9_acts_8 : decode cX9_acts 8 = .ok (.iconst 1, 1) := by decide +kernel
theorem dX9_acts_9 : decode cX9_acts 9 = .ok (.goto 4, 3) := by decide +kernel
theorem dX9_acts_12 : decode cX9_acts 12 = .ok (.iconst 0, 1) := by decide +kernel
theorem dX9_acts_13 : decode cX9_acts 13 = .ok (.iconst 0, 1) := by decide +kernel
theorem dX9_acts_14 : decode cX9_acts 14 = .ok (.invokevirtual 144, 3) := by decide +kernel
theorem dX9_acts_17 : decode cX9_acts 17 = .ok (.ifCond .eq 10, 3) := by decide +kernel
theorem dX9_acts_20 : decode cX9_acts 20 = .ok (.aload_n 0, 1) := by decide +kernel
theorem dX9_acts_21 : decode cX9_acts 21 = .ok (.getfield 169, 3) := by decide +kernel
theorem dX9_acts_24 : decode cX9_acts 24 = .ok (.goto 4, 3) := by decide +kernel
theorem dX9_acts_27 : decode cX9_acts 27 = .ok (.iconst 0, 1) := by decide +kernel
theorem dX9_acts_28 : decode cX9_acts 28 = .ok (.ireturn, 1) := by decide +kernel
theorem dX9_act__0 : decode cX9_act_ 0 = .ok (.aload_n 0, 1) := by decide +kernel
theorem dX9_act__1 : decode cX9_act_ 1 = .ok (.getfield 169, 3) := by decide +kernel
theorem dX9_act__4 : decode cX9_act_ 4 = .ok (.sipush 400, 3) := by decide +kernel
theorem dX9_act__7 : decode cX9_act_ 7 = .ok (.if_icmp .ge 10, 3) := by decide +kernel
theorem dX9_act__10 : decode cX9_act_ 10 = .ok (.aload_n 0, 1) := by decide +kernel
theorem dX9_act__11 : decode cX9_act_ 11 = .ok (.getfield 169, 3) := by decide +kernel
theorem dX9_act__14 : decode cX9_act_ 14 = .ok (.goto 6, 3) := by decide +kernel
theorem dX9_act__17 : decode cX9_act_ 17 = .ok (.sipush 400, 3) := by decide +kernel
theorem dX9_act__20 : decode cX9_act_ 20 = .ok (.istore_n 3, 1) := by decide +kernel
theorem dX9_act__21 : decode cX9_act_ 21 = .ok (.aload_n 0, 1) := by decide +kernel
theorem dX9_act__22 : decode cX9_act_ 22 = .ok (.aload_n 0, 1) := by decide +kernel
theorem dX9_act__23 : decode cX9_act_ 23 = .ok (.getfield 123, 3) := by decide +kernel
theorem dX9_act__26 : decode cX9_act_ 26 = .ok (.ifCond .ne 7, 3) := by decide +kernel
theorem dX9_act__29 : decode cX9_act_ 29 = .ok (.iconst 1, 1) := by decide +kernel
theorem dX9_act__30 : decode cX9_act_ 30 = .ok (.goto 4, 3) := by decide +kernel
theorem dX9_act__33 : decode cX9_act_ 33 = .ok (.iconst 0, 1) := by decide +kernel
theorem dX9_act__34 : decode cX9_act_ 34 = .ok (.iload_n 1, 1) := by decide +kernel
theorem dX9_act__35 : decode cX9_act_ 35 = .ok (.i2l, 1) := by decide +kernel
theorem dX9_act__36 : decode cX9_act_ 36 = .ok (.lconst 0, 1) := by decide +kernel
theorem dX9_act__37 : decode cX9_act_ 37 = .ok (.iload_n 3, 1) := by decide +kernel
theorem dX9_act__38 : decode cX9_act_ 38 = .ok (.iconst 1, 1) := by decide +kernel
theorem dX9_act__39 : decode cX9_act_ 39 = .ok (.isub, 1) := by decide +kernel
theorem dX9_act__40 : decode cX9_act_ 40 = .ok (.i2l, 1) := by decide +kernel
theorem dX9_act__41 : decode cX9_act_ 41 = .ok (.invokestatic 133, 3) := by decide +kernel
theorem dX9_act__44 : decode cX9_act_ 44 = .ok (.ifCond .ne 7, 3) := by decide +kernel
theorem dX9_act__47 : decode cX9_act_ 47 = .ok (.iconst 1, 1) := by decide +kernel
theorem dX9_act__48 : decode cX9_act_ 48 = .ok (.goto 4, 3) := by decide +kernel
theorem dX9_act__51 : decode cX9_act_ 51 = .ok (.iconst 0, 1) := by decide +kernel
theorem dX9_act__52 : decode cX9_act_ 52 = .ok (.iload_n 2, 1) := by decide +kernel
theorem dX9_act__53 : decode cX9_act_ 53 = .ok (.i2l, 1) := by decide +kernel
theorem dX9_act__54 : decode cX9_act_ 54 = .ok (.lconst 0, 1) := by decide +kernel
theorem dX9_act__55 : decode cX9_act_ 55 = .ok (.ldc2_w 336, 3) := by decide +kernel
theorem dX9_act__58 : decode cX9_act_ 58 = .ok (.invokestatic 133, 3) := by decide +kernel
theorem dX9_act__61 : decode cX9_act_ 61 = .ok (.ifCond .ne 7, 3) := by decide +kernel
theorem dX9_act__64 : decode cX9_act_ 64 = .ok (.iconst 1, 1) := by decide +kernel
theorem dX9_act__65 : decode cX9_act_ 65 = .ok (.goto 4, 3) := by decide +kernel
theorem dX9_act__68 : decode cX9_act_ 68 = .ok (.iconst 0, 1) := by decide +kernel
theorem dX9_act__69 : decode cX9_act_ 69 = .ok (.invokevirtual 314, 3) := by decide +kernel
theorem dX9_act__72 : decode cX9_act_ 72 = .ok (.ifCond .ne 5, 3) := by decide +kernel
theorem dX9_act__75 : decode cX9_act_ 75 = .ok (.lconst 0, 1) := by decide +kernel
theorem dX9_act__76 : decode cX9_act_ 76 = .ok (.lreturn, 1) := by decide +kernel
theorem dX9_act__77 : decode cX9_act_ 77 = .ok (.iload_n 2, 1) := by decide +kernel
theorem dX9_act__78 : decode cX9_act_ 78 = .ok (.ifCond .ne 13, 3) := by decide +kernel
theorem dX9_act__81 : decode cX9_act_ 81 = .ok (.aload_n 0, 1) := by decide +kernel
theorem dX9_act__82 : decode cX9_act_ 82 = .ok (.getfield 63, 3) := by decide +kernel
theorem dX9_act__85 : decode cX9_act_ 85 = .ok (.iload_n 1, 1) := by decide +kernel
theorem dX9_act__86 : decode cX9_act_ 86 = .ok (.iaload, 1) := by decide +kernel
theorem dX9_act__87 : decode cX9_act_ 87 = .ok (.i2l, 1) := by decide +kernel
theorem dX9_act__88 : decode cX9_act_ 88 = .ok (.goto 54, 3) := by decide +kernel
theorem dX9_act__91 : decode cX9_act_ 91 = .ok (.iload_n 2, 1) := by decide +kernel
theorem dX9_act__92 : decode cX9_act_ 92 = .ok (.iconst 1, 1) := by decide +kernel
theorem dX9_act__93 : decode cX9_act_ 93 = .ok (.if_icmp .ne 13, 3) := by decide +kernel
theorem dX9_act__96 : decode cX9_act_ 96 = .ok (.aload_n 0, 1) := by decide +kernel
theorem dX9_act__97 : decode cX9_act_ 97 = .ok (.getfield 66, 3) := by decide +kernel
theorem dX9_act__100 : decode cX9_act_ 100 = .ok (.iload_n 1, 1) := by decide +kernel
theorem dX9_act__101 : decode cX9_act_ 101 = .ok (.iaload, 1) := by decide +kernel
theorem dX9_act__102 : decode cX9_act_ 102 = .ok (.i2l, 1) := by decide +kernel
theorem dX9_act__103 : decode cX9_act_ 103 = .ok (.goto 39, 3) := by decide +kernel
theorem dX9_act__106 : decode cX9_act_ 106 = .ok (.iload_n 2, 1) := by decide +kernel
theorem dX9_act__107 : decode cX9_act_ 107 = .ok (.iconst 2, 1) := by decide +kernel
theorem dX9_act__108 : decode cX9_act_ 108 = .ok (.if_icmp .ne 13, 3) := by decide +kernel
theorem dX9_act__111 : decode cX9_act_ 111 = .ok (.aload_n 0, 1) := by decide +kernel
theorem dX9_act__112 : decode cX9_act_ 112 = .ok (.getfield 69, 3) := by decide +kernel
theorem dX9_act__115 : decode cX9_act_ 115 = .ok (.iload_n 1, 1) := by decide +kernel
theorem dX9_act__116 : decode cX9_act_ 116 = .ok (.iaload, 1) := by decide +kernel
theorem dX9_act__117 : decode cX9_act_ 117 = .ok (.i2l, 1) := by decide +kernel
theorem dX9_act__118 : decode cX9_act_ 118 = .ok (.goto 24, 3) := by decide +kernel
theorem dX9_act__121 : decode cX9_act_ 121 = .ok (.iload_n 2, 1) := by decide +kernel
theorem dX9_act__122 : decode cX9_act_ 122 = .ok (.iconst 3, 1) := by decide +kernel
theorem dX9_act__123 : decode cX9_act_ 123 = .ok (.if_icmp .ne 13, 3) := by decide +kernel
theorem dX9_act__126 : decode cX9_act_ 126 = .ok (.aload_n 0, 1) := by decide +kernel
theorem dX9_act__127 : decode cX9_act_ 127 = .ok (.getfield 72, 3) := by decide +kernel
theorem dX9_act__130 : decode cX9_act_ 130 = .ok (.iload_n 1, 1) := by decide +kernel
theorem dX9_act__131 : decode cX9_act_ 131 = .ok (.iaload, 1) := by decide +kernel
theorem dX9_act__132 : decode cX9_act_ 132 = .ok (.i2l, 1) := by decide +kernel
theorem dX9_act__133 : decode cX9_act_ 133 = .ok (.goto 9, 3) := by decide +kernel
theorem dX9_act__136 : decode cX9_act_ 136 = .ok (.aload_n 0, 1) := by decide +kernel
theorem dX9_act__137 : decode cX9_act_ 137 = .ok (.getfield 75, 3) := by decide +kernel
theorem dX9_act__140 : decode cX9_act_ 140 = .ok (.iload_n 1, 1) := by decide +kernel
theorem dX9_act__141 : decode cX9_act_ 141 = .ok (.laload, 1) := by decide +kernel
theorem dX9_act__142 : decode cX9_act_ 142 = .ok (.lreturn, 1) := by decide +kernel
theorem dX9_joinParts_0 : decode cX9_joinParts 0 = .ok (.bipush 12, 2) := by decide +kernel
theorem dX9_joinParts_2 : decode cX9_joinParts 2 = .ok (.istore_n 2, 1) := by decide +kernel
theorem dX9_joinParts_3 : decode cX9_joinParts 3 = .ok (.iconst 0, 1) := by decide +kernel
theorem dX9_joinParts_4 : decode cX9_joinParts 4 = .ok (.istore_n 3, 1) := by decide +kernel
theorem dX9_joinParts_5 : decode cX9_joinParts 5 = .ok (.iload_n 3, 1) := by decide +kernel
theorem dX9_joinParts_6 : decode cX9_joinParts 6 = .ok (.aload_n 0, 1) := by decide +kernel
theorem dX9_joinParts_7 : decode cX9_joinParts 7 = .ok (.getfield 141, 3) := by decide +kernel
theorem dX9_joinParts_10 : decode cX9_joinParts 10 = .ok (.if_icmp .ge 48, 3) := by decide +kernel
theorem dX9_joinParts_13 : decode cX9_joinParts 13 = .ok (.aload_n 0, 1) := by decide +kernel
theorem dX9_joinParts_14 : decode cX9_joinParts 14 = .ok (.getfield 50, 3) := by decide +kernel
theorem dX9_joinParts_17 : decode cX9_joinParts 17 = .ok (.iload_n 1, 1) := by decide +kernel
theorem dX9_joinParts_18 : decode cX9_joinParts 18 = .ok (.baload, 1) := by decide +kernel
theorem dX9_joinParts_19 : decode cX9_joinParts 19 = .ok (.ifCond .ne 39, 3) := by decide +kernel
theorem dX9_joinParts_22 : decode cX9_joinParts 22 = .ok (.aload_n 0, 1) := by decide +kernel
theorem dX9_joinParts_23 : decode cX9_joinParts 23 = .ok (.iload_n 1, 1) := by decide +kernel
theorem dX9_joinParts_24 : decode cX9_joinParts 24 = .ok (.iload_n 3, 1) := by decide +kernel
theorem dX9_joinParts_25 : decode cX9_joinParts 25 = .ok (.invokevirtual 165, 3) := by decide +kernel
theorem dX9_joinParts_28 : decode cX9_joinParts 28 = .ok (.ifCond .eq 22, 3) := by decide +kernel
theorem dX9_joinParts_31 : decode cX9_joinParts 31 = .ok (.aload_n 0, 1) := by decide +kernel
theorem dX9_joinParts_32 : decode cX9_joinParts 32 = .ok (.getfield 102, 3) := by decide +kernel
theorem dX9_joinParts_35 : decode cX9_joinParts 35 = .ok (.iload_n 3, 1) := by decide +kernel
theorem dX9_joinParts_36 : decode cX9_joinParts 36 = .ok (.iaload, 1) := by decide +kernel
theorem dX9_joinParts_37 : decode cX9_joinParts 37 = .ok (.iload_n 2, 1) := by decide +kernel
theorem dX9_joinParts_38 : decode cX9_joinParts 38 = .ok (.if_icmp .ge 12, 3) := by decide +kernel
theorem dX9_joinParts_41 : decode cX9_joinParts 41 = .ok (.aload_n 0, 1) := by decide +kernel
theorem dX9_joinParts_42 : decode cX9_joinParts 42 = .ok (.getfield 102, 3) := by decide +kernel
theorem dX9_joinParts_45 : decode cX9_joinParts 45 = .ok (.iload_n 3, 1) := by decide +kernel
theorem dX9_joinParts_46 : decode cX9_joinParts 46 = .ok (.iaload, 1) := by decide +kernel
theorem dX9_joinParts_47 : decode cX9_joinParts 47 = .ok (.goto 4, 3) := by decide +kernel
theorem dX9_joinParts_50 : decode cX9_joinParts 50 = .ok (.iload_n 2, 1) := by decide +kernel
theorem dX9_joinParts_51 : decode cX9_joinParts 51 = .ok (.istore_n 2, 1) := by decide +kernel
theorem dX9_joinParts_52 : decode cX9_joinParts 52 = .ok (.iinc 3 1, 3) := by decide +kernel
theorem dX9_joinParts_55 : decode cX9_joinParts 55 = .ok (.goto (-50), 3) := by decide +kernel
theorem dX9_joinParts_58 : decode cX9_joinParts 58 = .ok (.iconst 0, 1) := by decide +kernel
theorem dX9_joinParts_59 : decode cX9_joinParts 59 = .ok (.istore_n 3, 1) := by decide +kernel
theorem dX9_joinParts_60 : decode cX9_joinParts 60 = .ok (.iload_n 3, 1) := by decide +kernel
theorem dX9_joinParts_61 : decode cX9_joinParts 61 = .ok (.aload_n 0, 1) := by decide +kernel
theorem dX9_joinParts_62 : decode cX9_joinParts 62 = .ok (.getfield 141, 3) := by decide +kernel
theorem dX9_joinParts_65 : decode cX9_joinParts 65 = .ok (.if_icmp .ge 43, 3) := by decide +kernel
theorem dX9_joinParts_68 : decode cX9_joinParts 68 = .ok (.aload_n 0, 1) := by decide +kernel
theorem dX9_joinParts_69 : decode cX9_joinParts 69 = .ok (.getfield 50, 3) := by decide +kernel
theorem dX9_joinParts_72 : decode cX9_joinParts 72 = .ok (.iload_n 1, 1) := by decide +kernel
theorem dX9_joinParts_73 : decode cX9_joinParts 73 = .ok (.baload, 1) := by decide +kernel
theorem dX9_joinParts_74 : decode cX9_joinParts 74 = .ok (.ifCond .ne 34, 3) := by decide +kernel
theorem dX9_joinParts_77 : decode cX9_joinParts 77 = .ok (.aload_n 0, 1) := by decide +kernel
theorem dX9_joinParts_78 : decode cX9_joinParts 78 = .ok (.getfield 102, 3) := by decide +kernel
theorem dX9_joinParts_81 : decode cX9_joinParts 81 = .ok (.iload_n 3, 1) := by decide +kernel
theorem dX9_joinParts_82 : decode cX9_joinParts 82 = .ok (.aload_n 0, 1) := by decide +kernel
theorem dX9_joinParts_83 : decode cX9_joinParts 83 = .ok (.iload_n 1, 1) := by decide +kernel
theorem dX9_joinParts_84 : decode cX9_joinParts 84 = .ok (.iload_n 3, 1) := by decide +kernel
theorem dX9_joinParts_85 : decode cX9_joinParts 85 = .ok (.invokevirtual 165, 3) := by decide +kernel
theorem dX9_joinParts_88 : decode cX9_joinParts 88 = .ok (.ifCond .eq 7, 3) := by decide +kernel
theorem dX9_joinParts_91 : decode cX9_joinParts 91 = .ok (.iload_n 2, 1) := by decide +kernel
theorem dX9_joinParts_92 : decode cX9_joinParts 92 = .ok (.goto 9, 3) := by decide +kernel
theorem dX9_joinParts_95 : decode cX9_joinParts 95 = .ok (.aload_n 0, 1) := by decide +kernel
theorem dX9_joinParts_96 : decode cX9_joinParts 96 = .ok (.getfield 102, 3) := by decide +kernel
theorem dX9_joinParts_99 : decode cX9_joinParts 99 = .ok (.iload_n 3, 1) := by decide +kernel
theorem dX9_joinParts_100 : decode cX9_joinParts 100 = .ok (.iaload, 1) := by decide +kernel
theorem dX9_joinParts_101 : decode cX9_joinParts 101 = .ok (.iastore, 1) := by decide +kernel
theorem dX9_joinParts_102 : decode cX9_joinParts 102 = .ok (.iinc 3 1, 3) := by decide +kernel
theorem dX9_joinParts_105 : decode cX9_joinParts 105 = .ok (.goto (-45), 3) := by decide +kernel
theorem dX9_joinParts_108 : decode cX9_joinParts 108 = .ok (.return_, 1) := by decide +kernel
theorem dX9_parts_0 : decode cX9_parts 0 = .ok (.aload_n 0, 1) := by decide +kernel
theorem dX9_parts_1 : decode cX9_parts 1 = .ok (.aload_n 0, 1) := by decide +kernel
theorem dX9_parts_2 : decode cX9_parts 2 = .ok (.getfield 123, 3) := by decide +kernel
theorem dX9_parts_5 : decode cX9_parts 5 = .ok (.ifCond .ne 7, 3) := by decide +kernel
theorem dX9_parts_8 : decode cX9_parts 8 = .ok (.iconst 1, 1) := by decide +kernel
theorem dX9_parts_9 : decode cX9_parts 9 = .ok (.goto 4, 3) := by decide +kernel
theorem dX9_parts_12 : decode cX9_parts 12 = .ok (.iconst 0, 1) := by decide +kernel
theorem dX9_parts_13 : decode cX9_parts 13 = .ok (.iconst 0, 1) := by decide +kernel
theorem dX9_parts_14 : decode cX9_parts 14 = .ok (.invokevirtual 144, 3) := by decide +kernel
theorem dX9_parts_17 : decode cX9_parts 17 = .ok (.ifCond .ne 5, 3) := by decide +kernel
theorem dX9_parts_20 : decode cX9_parts 20 = .ok (.iconst 0, 1) := by decide +kernel
theorem dX9_parts_21 : decode cX9_parts 21 = .ok (.ireturn, 1) := by decide +kernel
theorem dX9_parts_22 : decode cX9_parts 22 = .ok (.iconst 0, 1) := by decide +kernel
theorem dX9_parts_23 : decode cX9_parts 23 = .ok (.istore_n 1, 1) := by decide +kernel
theorem dX9_parts_24 : decode cX9_parts 24 = .ok (.iload_n 1, 1) := by decide +kernel
theorem dX9_parts_25 : decode cX9_parts 25 = .ok (.aload_n 0, 1) := by decide +kernel
theorem dX9_parts_26 : decode cX9_parts 26 = .ok (.getfield 141, 3) := by decide +kernel
theorem dX9_parts_29 : decode cX9_parts 29 = .ok (.if_icmp .ge 16, 3) := by decide +kernel
theorem dX9_parts_32 : decode cX9_parts 32 = .ok (.aload_n 0, 1) := by decide +kernel
theorem dX9_parts_33 : decode cX9_parts 33 = .ok (.getfield 102, 3) := by decide +kernel
theorem dX9_parts_36 : decode cX9_parts 36 = .ok (.iload_n 1, 1) := by decide +kernel
theorem dX9_parts_37 : decode cX9_parts 37 = .ok (.iload_n 1, 1) := by decide +kernel
theorem dX9_parts_38 : decode cX9_parts 38 = .ok (.iastore, 1) := by decide +kernel
theorem dX9_parts_39 : decode cX9_parts 39 = .ok (.iinc 1 1, 3) := by decide +kernel
theorem dX9_parts_42 : decode cX9_parts 42 = .ok (.goto (-18), 3) := by decide +kernel
theorem dX9_parts_45 : decode cX9_parts 45 = .ok (.iconst 0, 1) := by decide +kernel
theorem dX9_parts_46 : decode cX9_parts 46 = .ok (.istore_n 1, 1) := by decide +kernel
theorem dX9_parts_47 : decode cX9_parts 47 = .ok (.iload_n 1, 1) := by decide +kernel
theorem dX9_parts_48 : decode cX9_parts 48 = .ok (.bipush 12, 2) := by decide +kernel
theorem dX9_parts_50 : decode cX9_parts 50 = .ok (.if_icmp .ge 30, 3) := by decide +kernel
theorem dX9_parts_53 : decode cX9_parts 53 = .ok (.iconst 0, 1) := by decide +kernel
theorem dX9_parts_54 : decode cX9_parts 54 = .ok (.istore_n 2, 1) := by decide +kernel
theorem dX9_parts_55 : decode cX9_parts 55 = .ok (.iload_n 2, 1) := by decide +kernel
theorem dX9_parts_56 : decode cX9_parts 56 = .ok (.aload_n 0, 1) := by decide +kernel
theorem dX9_parts_57 : decode cX9_parts 57 = .ok (.getfield 151, 3) := by decide +kernel
theorem dX9_parts_60 : decode cX9_parts 60 = .ok (.if_icmp .ge 14, 3) := by decide +kernel
theorem dX9_parts_63 : decode cX9_parts 63 = .ok (.aload_n 0, 1) := by decide +kernel
theorem dX9_parts_64 : decode cX9_parts 64 = .ok (.iload_n 2, 1) := by decide +kernel
theorem dX9_parts_65 : decode cX9_parts 65 = .ok (.invokevirtual 338, 3) := by decide +kernel
theorem dX9_parts_68 : decode cX9_parts 68 = .ok (.iinc 2 1, 3) := by decide +kernel
theorem dX9_parts_71 : decode cX9_parts 71 = .ok (.goto (-16), 3) := by decide +kernel
theorem dX9_parts_74 : decode cX9_parts 74 = .ok (.iinc 1 1, 3) := by decide +kernel
theorem dX9_parts_77 : decode cX9_parts 77 = .ok (.goto (-30), 3) := by decide +kernel
theorem dX9_parts_80 : decode cX9_parts 80 = .ok (.iconst 0, 1) := by decide +kernel
theorem dX9_parts_81 : decode cX9_parts 81 = .ok (.istore_n 1, 1) := by decide +kernel
theorem dX9_parts_82 : decode cX9_parts 82 = .ok (.iconst 0, 1) := by decide +kernel
theorem dX9_parts_83 : decode cX9_parts 83 = .ok (.istore_n 2, 1) := by decide +kernel
theorem dX9_parts_84 : decode cX9_parts 84 = .ok (.iload_n 2, 1) := by decide +kernel
theorem dX9_parts_85 : decode cX9_parts 85 = .ok (.aload_n 0, 1) := by decide +kernel
theorem dX9_parts_86 : decode cX9_parts 86 = .ok (.getfield 141, 3) := by decide +kernel
theorem dX9_parts_89 : decode cX9_parts 89 = .ok (.if_icmp .ge 36, 3) := by decide +kernel
theorem dX9_parts_92 : decode cX9_parts 92 = .ok (.iload_n 1, 1) := by decide +kernel
theorem dX9_parts_93 : decode cX9_parts 93 = .ok (.aload_n 0, 1) := by decide +kernel
theorem dX9_parts_94 : decode cX9_parts 94 = .ok (.getfield 28, 3) := by decide +kernel
theorem dX9_parts_97 : decode cX9_parts 97 = .ok (.iload_n 2, 1) := by decide +kernel
theorem dX9_parts_98 : decode cX9_parts 98 = .ok (.iaload, 1) := by decide +kernel
theorem dX9_parts_99 : decode cX9_parts 99 = .ok (.ifCond .ne 17, 3) := by decide +kernel
theorem dX9_parts_102 : decode cX9_parts 102 = .ok (.aload_n 0, 1) := by decide +kernel
theorem dX9_parts_103 : decode cX9_parts 103 = .ok (.getfield 102, 3) := by decide +kernel
theorem dX9_parts_106 : decode cX9_parts 106 = .ok (.iload_n 2, 1) := by decide +kernel
theorem dX9_parts_107 : decode cX9_parts 107 = .ok (.iaload, 1) := by decide +kernel
theorem dX9_parts_108 : decode cX9_parts 108 = .ok (.iload_n 2, 1) := by decide +kernel
theorem dX9_parts_109 : decode cX9_parts 109 = .ok (.if_icmp .ne 7, 3) := by decide +kernel
theorem dX9_parts_112 : decode cX9_parts 112 = .ok (.iconst 1, 1) := by decide +kernel
theorem dX9_parts_113 : decode cX9_parts 113 = .ok (.goto 4, 3) := by decide +kernel
theorem dX9_parts_116 : decode cX9_parts 116 = .ok (.iconst 0, 1) := by decide +kernel
theorem dX9_parts_117 : decode cX9_parts 117 = .ok (.iadd, 1) := by decide +kernel
theorem dX9_parts_118 : decode cX9_parts 118 = .ok (.istore_n 1, 1) := by decide +kernel
theorem dX9_parts_119 : decode cX9_parts 119 = .ok (.iinc 2 1, 3) := by decide +kernel
theorem dX9_parts_122 : decode cX9_parts 122 = .ok (.goto (-38), 3) := by decide +kernel
theorem dX9_parts_125 : decode cX9_parts 125 = .ok (.iload_n 1, 1) := by decide +kernel
theorem dX9_parts_126 : decode cX9_parts 126 = .ok (.ireturn, 1) := by decide +kernel
theorem dX9_amount_0 : decode cX9_amount 0 = .ok (.aload_n 0, 1) := by decide +kernel
theorem dX9_amount_1 : decode cX9_amount 1 = .ok (.getfield 60, 3) := by decide +kernel
theorem dX9_amount_4 : decode cX9_amount 4 = .ok (.bipush 12, 2) := by decide +kernel
theorem dX9_amount_6 : decode cX9_amount 6 = .ok (.iload_n 1, 1) := by decide +kernel
theorem dX9_amount_7 : decode cX9_amount 7 = .ok (.imul, 1) := by decide +kernel
theorem dX9_amount_8 : decode cX9_amount 8 = .ok (.iload_n 2, 1) := by decide +kernel
theorem dX9_amount_9 : decode cX9_amount 9 = .ok (.iadd, 1) := by decide +kernel
theorem dX9_amount_10 : decode cX9_amount 10 = .ok (.laload, 1) := by decide +kernel
theorem dX9_amount_11 : decode cX9_amount 11 = .ok (.lstore_n 3, 1) := by decide +kernel
theorem dX9_amount_12 : decode cX9_amount 12 = .ok (.lload_n 3, 1) := by decide +kernel
theorem dX9_amount_13 : decode cX9_amount 13 = .ok (.lconst 0, 1) := by decide +kernel
theorem dX9_amount_14 : decode cX9_amount 14 = .ok (.lcmp, 1) := by decide +kernel
theorem dX9_amount_15 : decode cX9_amount 15 = .ok (.ifCond .ge 8, 3) := by decide +kernel
theorem dX9_amount_18 : decode cX9_amount 18 = .ok (.lload_n 3, 1) := by decide +kernel
theorem dX9_amount_19 : decode cX9_amount 19 = .ok (.lneg, 1) := by decide +kernel
theorem dX9_amount_20 : decode cX9_amount 20 = .ok (.goto 4, 3) := by decide +kernel
theorem dX9_amount_23 : decode cX9_amount 23 = .ok (.lload_n 3, 1) := by decide +kernel
theorem dX9_amount_24 : decode cX9_amount 24 = .ok (.lreturn, 1) := by decide +kernel
theorem dX9_cliqueOf_0 : decode cX9_cliqueOf 0 = .ok (.iconst 0, 1) := by decide +kernel
theorem dX9_cliqueOf_1 : decode cX9_cliqueOf 1 = .ok (.istore_n 2, 1) := by decide +kernel
theorem dX9_cliqueOf_2 : decode cX9_cliqueOf 2 = .ok (.iconst 0, 1) := by decide +kernel
theorem dX9_cliqueOf_3 : decode cX9_cliqueOf 3 = .ok (.istore_n 3, 1) := by decide +kernel
theorem dX9_cliqueOf_4 : decode cX9_cliqueOf 4 = .ok (.iload_n 3, 1) := by decide +kernel
theorem dX9_cliqueOf_5 : decode cX9_cliqueOf 5 = .ok (.aload_n 0, 1) := by decide +kernel
theorem dX9_cliqueOf_6 : decode cX9_cliqueOf 6 = .ok (.getfield 141, 3) := by decide +kernel
theorem dX9_cliqueOf_9 : decode cX9_cliqueOf 9 = .ok (.if_icmp .ge 111, 3) := by decide +kernel
theorem dX9_cliqueOf_12 : decode cX9_cliqueOf 12 = .ok (.aload_n 0, 1) := by decide +kernel
theorem dX9_cliqueOf_13 : decode cX9_cliqueOf 13 = .ok (.getfield 50, 3) := by decide +kernel
theorem dX9_cliqueOf_16 : decode cX9_cliqueOf 16 = .ok (.iload_n 1, 1) := by decide +kernel
theorem dX9_cliqueOf_17 : decode cX9_cliqueOf 17 = .ok (.baload, 1) := by decide +kernel
theorem dX9_cliqueOf_18 : decode cX9_cliqueOf 18 = .ok (.ifCond .ne 102, 3) := by decide +kernel
theorem dX9_cliqueOf_21 : decode cX9_cliqueOf 21 = .ok (.aload_n 0, 1) := by decide +kernel
theorem dX9_cliqueOf_22 : decode cX9_cliqueOf 22 = .ok (.iload_n 1, 1) := by decide +kernel
theorem dX9_cliqueOf_23 : decode cX9_cliqueOf 23 = .ok (.iload_n 3, 1) := by decide +kernel
theorem dX9_cliqueOf_24 : decode cX9_cliqueOf 24 = .ok (.invokevirtual 165, 3) := by decide +kernel
theorem dX9_cliqueOf_27 : decode cX9_cliqueOf 27 = .ok (.ifCond .eq 87, 3) := by decide +kernel
theorem dX9_cliqueOf_30 : decode cX9_cliqueOf 30 = .ok (.aload_n 0, 1) := by decide +kernel
theorem dX9_cliqueOf_31 : decode cX9_cliqueOf 31 = .ok (.getfield 31, 3) := by decide +kernel
theorem dX9_cliqueOf_34 : decode cX9_cliqueOf 34 = .ok (.iload_n 3, 1) := by decide +kernel
theorem dX9_cliqueOf_35 : decode cX9_cliqueOf 35 = .ok (.iaload, 1) := by decide +kernel
theorem dX9_cliqueOf_36 : decode cX9_cliqueOf 36 = .ok (.ifCond .ne 78, 3) := by decide +kernel
theorem dX9_cliqueOf_39 : decode cX9_cliqueOf 39 = .ok (.aload_n 0, 1) := by decide +kernel
theorem dX9_cliqueOf_40 : decode cX9_cliqueOf 40 = .ok (.getfield 34, 3) := by decide +kernel
theorem dX9_cliqueOf_43 : decode cX9_cliqueOf 43 = .ok (.iload_n 3, 1) := by decide +kernel
theorem dX9_cliqueOf_44 : decode cX9_cliqueOf 44 = .ok (.iaload, 1) := by decide +kernel
theorem dX9_cliqueOf_45 : decode cX9_cliqueOf 45 = .ok (.iconst 1, 1) := by decide +kernel
theorem dX9_cliqueOf_46 : decode cX9_cliqueOf 46 = .ok (.if_icmp .ne 68, 3) := by decide +kernel
theorem dX9_cliqueOf_49 : decode cX9_cliqueOf 49 = .ok (.iload_n 2, 1) := by decide +kernel
theorem dX9_cliqueOf_50 : decode cX9_cliqueOf 50 = .ok (.istore 4, 2) := by decide +kernel
theorem dX9_cliqueOf_52 : decode cX9_cliqueOf 52 = .ok (.iload 4, 2) := by decide +kernel
theorem dX9_cliqueOf_54 : decode cX9_cliqueOf 54 = .ok (.ifCond .le 49, 3) := by decide +kernel
theorem dX9_cliqueOf_57 : decode cX9_cliqueOf 57 = .ok (.aload_n 0, 1) := by decide +kernel
theorem dX9_cliqueOf_58 : decode cX9_cliqueOf 58 = .ok (.iload_n 1, 1) := by decide +kernel
theorem dX9_cliqueOf_59 : decode cX9_cliqueOf 59 = .ok (.aload_n 0, 1) := by decide +kernel
theorem dX9_cliqueOf_60 : decode cX9_cliqueOf 60 = .ok (.getfield 105, 3) := by decide +kernel
theorem dX9_cliqueOf_63 : decode cX9_cliqueOf 63 = .ok (.iload 4, 2) := by decide +kernel
theorem dX9_cliqueOf_65 : decode cX9_cliqueOf 65 = .ok (.iconst 1, 1) := by decide +kernel
theorem dX9_cliqueOf_66 : decode cX9_cliqueOf 66 = .ok (.isub, 1) := by decide +kernel
theorem dX9_cliqueOf_67 : decode cX9_cliqueOf 67 = .ok (.iaload, 1) := by decide +kernel
theorem dX9_cliqueOf_68 : decode cX9_cliqueOf 68 = .ok (.invokevirtual 341, 3) := by decide +kernel
theorem dX9_cliqueOf_71 : decode cX9_cliqueOf 71 = .ok (.aload_n 0, 1) := by decide +kernel
theorem dX9_cliqueOf_72 : decode cX9_cliqueOf 72 = .ok (.iload_n 1, 1) := by decide +kernel
theorem dX9_cliqueOf_73 : decode cX9_cliqueOf 73 = .ok (.iload_n 3, 1) := by decide +kernel
theorem dX9_cliqueOf_74 : decode cX9_cliqueOf 74 = .ok (.invokevirtual 341, 3) := by decide +kernel
theorem dX9_cliqueOf_77 : decode cX9_cliqueOf 77 = .ok (.lcmp, 1) := by decide +kernel
theorem dX9_cliqueOf_78 : decode cX9_cliqueOf 78 = .ok (.ifCond .ge 25, 3) := by decide +kernel
theorem dX9_cliqueOf_81 : decode cX9_cliqueOf 81 = .ok (.aload_n 0, 1) := by decide +kernel
theorem dX9_cliqueOf_82 : decode cX9_cliqueOf 82 = .ok (.getfield 105, 3) := by decide +kernel
theorem dX9_cliqueOf_85 : decode cX9_cliqueOf 85 = .ok (.iload 4, 2) := by decide +kernel
theorem dX9_cliqueOf_87 : decode cX9_cliqueOf 87 = .ok (.aload_n 0, 1) := by decide +kernel
theorem dX9_cliqueOf_88 : decode cX9_cliqueOf 88 = .ok (.getfield 105, 3) := by decide +kernel
theorem dX9_cliqueOf_91 : decode cX9_cliqueOf 91 = .ok (.iload 4, 2) := by decide +kernel
theorem dX9_cliqueOf_93 : decode cX9_cliqueOf 93 = .ok (.iconst 1, 1) := by decide +kernel
theorem dX9_cliqueOf_94 : decode cX9_cliqueOf 94 = .ok (.isub, 1) := by decide +kernel
theorem dX9_cliqueOf_95 : decode cX9_cliqueOf 95 = .ok (.iaload, 1) := by decide +kernel
theorem dX9_cliqueOf_96 : decode cX9_cliqueOf 96 = .ok (.iastore, 1) := by decide +kernel
theorem dX9_cliqueOf_97 : decode cX9_cliqueOf 97 = .ok (.iinc 4 (-1), 3) := by decide +kernel
theorem dX9_cliqueOf_100 : decode cX9_cliqueOf 100 = .ok (.goto (-48), 3) := by decide +kernel
theorem dX9_cliqueOf_103 : decode cX9_cliqueOf 103 = .ok (.aload_n 0, 1) := by decide +kernel
theorem dX9_cliqueOf_104 : decode cX9_cliqueOf 104 = .ok (.getfield 105, 3) := by decide +kernel
theorem dX9_cliqueOf_107 : decode cX9_cliqueOf 107 = .ok (.iload 4, 2) := by decide +kernel
theorem dX9_cliqueOf_109 : decode cX9_cliqueOf 109 = .ok (.iload_n 3, 1) := by decide +kernel
theorem dX9_cliqueOf_110 : decode cX9_cliqueOf 110 = .ok (.iastore, 1) := by decide +kernel
theorem dX9_cliqueOf_111 : decode cX9_cliqueOf 111 = .ok (.iinc 2 1, 3) := by decide +kernel
theorem dX9_cliqueOf_114 : decode cX9_cliqueOf 114 = .ok (.iinc 3 1, 3) := by decide +kernel
theorem dX9_cliqueOf_117 : decode cX9_cliqueOf 117 = .ok (.goto (-113), 3) := by decide +kernel
theorem dX9_cliqueOf_120 : decode cX9_cliqueOf 120 = .ok (.aload_n 0, 1) := by decide +kernel
theorem dX9_cliqueOf_121 : decode cX9_cliqueOf 121 = .ok (.getfield 54, 3) := by decide +kernel
theorem dX9_cliqueOf_124 : decode cX9_cliqueOf 124 = .ok (.iload_n 1, 1) := by decide +kernel
theorem dX9_cliqueOf_125 : decode cX9_cliqueOf 125 = .ok (.laload, 1) := by decide +kernel
theorem dX9_cliqueOf_126 : decode cX9_cliqueOf 126 = .ok (.aload_n 0, 1) := by decide +kernel
theorem dX9_cliqueOf_127 : decode cX9_cliqueOf 127 = .ok (.iload_n 1, 1) := by decide +kernel
theorem dX9_cliqueOf_128 : decode cX9_cliqueOf 128 = .ok (.iconst (-1), 1) := by decide +kernel
theorem dX9_cliqueOf_129 : decode cX9_cliqueOf 129 = .ok (.iconst 0, 1) := by decide +kernel
theorem dX9_cliqueOf_130 : decode cX9_cliqueOf 130 = .ok (.invokevirtual 210, 3) := by decide +kernel
theorem dX9_cliqueOf_133 : decode cX9_cliqueOf 133 = .ok (.lsub, 1) := by decide +kernel
theorem dX9_cliqueOf_134 : decode cX9_cliqueOf 134 = .ok (.lstore_n 3, 1) := by decide +kernel
theorem dX9_cliqueOf_135 : decode cX9_cliqueOf 135 = .ok (.iconst 0, 1) := by decide +kernel
theorem dX9_cliqueOf_136 : decode cX9_cliqueOf 136 = .ok (.istore 5, 2) := by decide +kernel
theorem dX9_cliqueOf_138 : decode cX9_cliqueOf 138 = .ok (.iconst 2, 1) := by decide +kernel
theorem dX9_cliqueOf_139 : decode cX9_cliqueOf 139 = .ok (.istore 6, 2) := by decide +kernel
theorem dX9_cliqueOf_141 : decode cX9_cliqueOf 141 = .ok (.iload 6, 2) := by decide +kernel
theorem dX9_cliqueOf_143 : decode cX9_cliqueOf 143 = .ok (.iload_n 2, 1) := by decide +kernel
theorem dX9_cliqueOf_144 : decode cX9_cliqueOf 144 = .ok (.if_icmp .gt 52, 3) := by decide +kernel
theorem dX9_cliqueOf_147 : decode cX9_cliqueOf 147 = .ok (.aload_n 0, 1) := by decide +kernel
theorem dX9_cliqueOf_148 : decode cX9_cliqueOf 148 = .ok (.iload_n 1, 1) := by decide +kernel
theorem dX9_cliqueOf_149 : decode cX9_cliqueOf 149 = .ok (.aload_n 0, 1) := by decide +kernel
theorem dX9_cliqueOf_150 : decode cX9_cliqueOf 150 = .ok (.getfield 105, 3) := by decide +kernel
theorem dX9_cliqueOf_153 : decode cX9_cliqueOf 153 = .ok (.iload 6, 2) := by decide +kernel
theorem dX9_cliqueOf_155 : decode cX9_cliqueOf 155 = .ok (.iconst 2, 1) := by decide +kernel
theorem dX9_cliqueOf_156 : decode cX9_cliqueOf 156 = .ok (.isub, 1) := by decide +kernel
theorem dX9_cliqueOf_157 : decode cX9_cliqueOf 157 = .ok (.iaload, 1) := by decide +kernel
theorem dX9_cliqueOf_158 : decode cX9_cliqueOf 158 = .ok (.invokevirtual 341, 3) := by decide +kernel
theorem dX9_cliqueOf_161 : decode cX9_cliqueOf 161 = .ok (.aload_n 0, 1) := by decide +kernel
theorem dX9_cliqueOf_162 : decode cX9_cliqueOf 162 = .ok (.iload_n 1, 1) := by decide +kernel
theorem dX9_cliqueOf_163 : decode cX9_cliqueOf 163 = .ok (.aload_n 0, 1) := by decide +kernel
theorem dX9_cliqueOf_164 : decode cX9_cliqueOf 164 = .ok (.getfield 105, 3) := by decide +kernel
theorem dX9_cliqueOf_167 : decode cX9_cliqueOf 167 = .ok (.iload 6, 2) := by decide +kernel
theorem dX9_cliqueOf_169 : decode cX9_cliqueOf 169 = .ok (.iconst 1, 1) := by decide +kernel
theorem dX9_cliqueOf_170 : decode cX9_cliqueOf 170 = .ok (.isub, 1) := by decide +kernel
theorem dX9_cliqueOf_171 : decode cX9_cliqueOf 171 = .ok (.iaload, 1) := by decide +kernel
theorem dX9_cliqueOf_172 : decode cX9_cliqueOf 172 = .ok (.invokevirtual 341, 3) := by decide +kernel
theorem dX9_cliqueOf_175 : decode cX9_cliqueOf 175 = .ok (.ladd, 1) := by decide +kernel
theorem dX9_cliqueOf_176 : decode cX9_cliqueOf 176 = .ok (.lload_n 3, 1) := by decide +kernel
theorem dX9_cliqueOf_177 : decode cX9_cliqueOf 177 = .ok (.lcmp, 1) := by decide +kernel
theorem dX9_cliqueOf_178 : decode cX9_cliqueOf 178 = .ok (.ifCond .le 8, 3) := by decide +kernel
theorem dX9_cliqueOf_181 : decode cX9_cliqueOf 181 = .ok (.iload 6, 2) := by decide +kernel
theorem dX9_cliqueOf_183 : decode cX9_cliqueOf 183 = .ok (.goto 5, 3) := by decide +kernel
theorem dX9_cliqueOf_186 : decode cX9_cliqueOf 186 = .ok (.iload 5, 2) := by decide +kernel
theorem dX9_cliqueOf_188 : decode cX9_cliqueOf 188 = .ok (.istore 5, 2) := by decide +kernel
theorem dX9_cliqueOf_190 : decode cX9_cliqueOf 190 = .ok (.iinc 6 1, 3) := by decide +kernel
theorem dX9_cliqueOf_193 : decode cX9_cliqueOf 193 = .ok (.goto (-52), 3) := by decide +kernel
theorem dX9_cliqueOf_196 : decode cX9_cliqueOf 196 = .ok (.iload 5, 2) := by decide +kernel
theorem dX9_cliqueOf_198 : decode cX9_cliqueOf 198 = .ok (.ireturn, 1) := by decide +kernel
theorem dX9_clique_0 : decode cX9_clique 0 = .ok (.aload_n 0, 1) := by decide +kernel
theorem dX9_clique_1 : decode cX9_clique 1 = .ok (.aload_n 0, 1) := by decide +kernel
theorem dX9_clique_2 : decode cX9_clique 2 = .ok (.getfield 123, 3) := by decide +kernel
theorem dX9_clique_5 : decode cX9_clique 5 = .ok (.ifCond .ne 7, 3) := by decide +kernel
theorem dX9_clique_8 : decode cX9_clique 8 = .ok (.iconst 1, 1) := by decide +kernel
theorem dX9_clique_9 : decode cX9_clique 9 = .ok (.goto 4, 3) := by decide +kernel
theorem dX9_clique_12 : decode cX9_clique 12 = .ok (.iconst 0, 1) := by decide +kernel
theorem dX9_clique_13 : decode cX9_clique 13 = .ok (.aload_n 0, 1) := by decide +kernel
theorem dX9_clique_14 : decode cX9_clique 14 = .ok (.iload_n 1, 1) := by decide +kernel
theorem dX9_clique_15 : decode cX9_clique 15 = .ok (.invokevirtual 158, 3) := by decide +kernel
theorem dX9_clique_18 : decode cX9_clique 18 = .ok (.ifCond .ne 7, 3) := by decide +kernel
theorem dX9_clique_21 : decode cX9_clique 21 = .ok (.iconst 1, 1) := by decide +kernel
theorem dX9_clique_22 : decode cX9_clique 22 = .ok (.goto 4, 3) := by decide +kernel
theorem dX9_clique_25 : decode cX9_clique 25 = .ok (.iconst 0, 1) := by decide +kernel
theorem dX9_clique_26 : decode cX9_clique 26 = .ok (.invokevirtual 144, 3) := by decide +kernel
theorem dX9_clique_29 : decode cX9_clique 29 = .ok (.ifCond .eq 11, 3) := by decide +kernel
theorem dX9_clique_32 : decode cX9_clique 32 = .ok (.aload_n 0, 1) := by decide +kernel
theorem dX9_clique_33 : decode cX9_clique 33 = .ok (.iload_n 1, 1) := by decide +kernel
theorem dX9_clique_34 : decode cX9_clique 34 = .ok (.invokevirtual 345, 3) := by decide +kernel
theorem dX9_clique_37 : decode cX9_clique 37 = .ok (.goto 4, 3) := by decide +kernel
theorem dX9_clique_40 : decode cX9_clique 40 = .ok (.iconst 0, 1) := by decide +kernel
theorem dX9_clique_41 : decode cX9_clique 41 = .ok (.ireturn, 1) := by decide +kernel
theorem dX9_cliqueAt_0 : decode cX9_cliqueAt 0 = .ok (.aload_n 0, 1) := by decide +kernel
theorem dX9_cliqueAt_1 : decode cX9_cliqueAt 1 = .ok (.aload_n 0, 1) := by decide +kernel
theorem dX9_cliqueAt_2 : decode cX9_cliqueAt 2 = .ok (.getfield 123, 3) := by decide +kernel
theorem dX9_cliqueAt_5 : decode cX9_cliqueAt 5 = .ok (.ifCond .ne 7, 3) := by decide +kernel
theorem dX9_cliqueAt_8 : decode cX9_cliqueAt 8 = .ok (.iconst 1, 1) := by decide +kernel
theorem dX9_cliqueAt_9 : decode cX9_cliqueAt 9 = .ok (.goto 4, 3) := by decide +kernel
theorem dX9_cliqueAt_12 : decode cX9_cliqueAt 12 = .ok (.iconst 0, 1) := by decide +kernel
theorem dX9_cliqueAt_13 : decode cX9_cliqueAt 13 = .ok (.aload_n 0, 1) := by decide +kernel
theorem dX9_cliqueAt_14 : decode cX9_cliqueAt 14 = .ok (.iload_n 1, 1) := by decide +kernel
