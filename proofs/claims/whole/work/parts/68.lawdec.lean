/-! THE LAW: its instructions -/
theorem dE_0 : decode code 0 = .ok (.new 8, 3) := by decide +kernel
theorem dE_3 : decode code 3 = .ok (.dup, 1) := by decide +kernel
theorem dE_4 : decode code 4 = .ok (.invokespecial 79, 3) := by decide +kernel
theorem dE_7 : decode code 7 = .ok (.astore_n 1, 1) := by decide +kernel
theorem dE_8 : decode code 8 = .ok (.new 80, 3) := by decide +kernel
theorem dE_11 : decode code 11 = .ok (.dup, 1) := by decide +kernel
theorem dE_12 : decode code 12 = .ok (.invokespecial 82, 3) := by decide +kernel
theorem dE_15 : decode code 15 = .ok (.astore_n 2, 1) := by decide +kernel
theorem dE_16 : decode code 16 = .ok (.iconst 1, 1) := by decide +kernel
theorem dE_17 : decode code 17 = .ok (.newarray .long, 2) := by decide +kernel
theorem dE_19 : decode code 19 = .ok (.astore_n 3, 1) := by decide +kernel
theorem dE_20 : decode code 20 = .ok (.iconst 0, 1) := by decide +kernel
theorem dE_21 : decode code 21 = .ok (.istore 4, 2) := by decide +kernel
theorem dE_23 : decode code 23 = .ok (.iload 4, 2) := by decide +kernel
theorem dE_25 : decode code 25 = .ok (.aload_n 0, 1) := by decide +kernel
theorem dE_26 : decode code 26 = .ok (.arraylength, 1) := by decide +kernel
theorem dE_27 : decode code 27 = .ok (.iconst 4, 1) := by decide +kernel
theorem dE_28 : decode code 28 = .ok (.isub, 1) := by decide +kernel
theorem dE_29 : decode code 29 = .ok (.if_icmp .gt 1446, 3) := by decide +kernel
theorem dE_32 : decode code 32 = .ok (.aload_n 0, 1) := by decide +kernel
theorem dE_33 : decode code 33 = .ok (.iload 4, 2) := by decide +kernel
theorem dE_35 : decode code 35 = .ok (.iaload, 1) := by decide +kernel
theorem dE_36 : decode code 36 = .ok (.bipush 31, 2) := by decide +kernel
theorem dE_38 : decode code 38 = .ok (.iand, 1) := by decide +kernel
theorem dE_39 : decode code 39 = .ok (.tableswitch 1430 0 23 #[109, 189, 269, 313, 381, 449, 517, 573, 629, 685, 698, 711, 755, 799, 867, 935, 1003, 1071, 1127, 1183, 1263, 1319, 1375, 1416], 109) := by decide +kernel
theorem dE_148 : decode code 148 = .ok (.aload_n 1, 1) := by decide +kernel
theorem dE_149 : decode code 149 = .ok (.aload_n 0, 1) := by decide +kernel
theorem dE_150 : decode code 150 = .ok (.iload 4, 2) := by decide +kernel
theorem dE_152 : decode code 152 = .ok (.iconst 1, 1) := by decide +kernel
theorem dE_153 : decode code 153 = .ok (.iadd, 1) := by decide +kernel
theorem dE_154 : decode code 154 = .ok (.iaload, 1) := by decide +kernel
theorem dE_155 : decode code 155 = .ok (.aload_n 0, 1) := by decide +kernel
theorem dE_156 : decode code 156 = .ok (.iload 4, 2) := by decide +kernel
theorem dE_158 : decode code 158 = .ok (.iconst 2, 1) := by decide +kernel
theorem dE_159 : decode code 159 = .ok (.iadd, 1) := by decide +kernel
theorem dE_160 : decode code 160 = .ok (.iaload, 1) := by decide +kernel
theorem dE_161 : decode code 161 = .ok (.aload_n 0, 1) := by decide +kernel
theorem dE_162 : decode code 162 = .ok (.iload 4, 2) := by decide +kernel
theorem dE_164 : decode code 164 = .ok (.iconst 3, 1) := by decide +kernel
theorem dE_165 : decode code 165 = .ok (.iadd, 1) := by decide +kernel
theorem dE_166 : decode code 166 = .ok (.iaload, 1) := by decide +kernel
theorem dE_167 : decode code 167 = .ok (.aload_n 3, 1) := by decide +kernel
theorem dE_168 : decode code 168 = .ok (.invokestatic 83, 3) := by decide +kernel
theorem dE_171 : decode code 171 = .ok (.istore 5, 2) := by decide +kernel
theorem dE_173 : decode code 173 = .ok (.aload_n 2, 1) := by decide +kernel
theorem dE_174 : decode code 174 = .ok (.aload_n 0, 1) := by decide +kernel
theorem dE_175 : decode code 175 = .ok (.iload 4, 2) := by decide +kernel
theorem dE_177 : decode code 177 = .ok (.iconst 1, 1) := by decide +kernel
theorem dE_178 : decode code 178 = .ok (.iadd, 1) := by decide +kernel
theorem dE_179 : decode code 179 = .ok (.iaload, 1) := by decide +kernel
theorem dE_180 : decode code 180 = .ok (.aload_n 0, 1) := by decide +kernel
theorem dE_181 : decode code 181 = .ok (.iload 4, 2) := by decide +kernel
theorem dE_183 : decode code 183 = .ok (.iconst 2, 1) := by decide +kernel
theorem dE_184 : decode code 184 = .ok (.iadd, 1) := by decide +kernel
theorem dE_185 : decode code 185 = .ok (.iaload, 1) := by decide +kernel
theorem dE_186 : decode code 186 = .ok (.aload_n 0, 1) := by decide +kernel
theorem dE_187 : decode code 187 = .ok (.iload 4, 2) := by decide +kernel
theorem dE_189 : decode code 189 = .ok (.iconst 3, 1) := by decide +kernel
theorem dE_190 : decode code 190 = .ok (.iadd, 1) := by decide +kernel
theorem dE_191 : decode code 191 = .ok (.iaload, 1) := by decide +kernel
theorem dE_192 : decode code 192 = .ok (.invokevirtual 88, 3) := by decide +kernel
theorem dE_195 : decode code 195 = .ok (.istore 6, 2) := by decide +kernel
theorem dE_197 : decode code 197 = .ok (.aload_n 2, 1) := by decide +kernel
theorem dE_198 : decode code 198 = .ok (.invokevirtual 89, 3) := by decide +kernel
theorem dE_201 : decode code 201 = .ok (.iload 5, 2) := by decide +kernel
theorem dE_203 : decode code 203 = .ok (.if_icmp .eq 5, 3) := by decide +kernel
theorem dE_206 : decode code 206 = .ok (.iconst 0, 1) := by decide +kernel
theorem dE_207 : decode code 207 = .ok (.ireturn, 1) := by decide +kernel
theorem dE_208 : decode code 208 = .ok (.iload 5, 2) := by decide +kernel
theorem dE_210 : decode code 210 = .ok (.ifCond .ne 15, 3) := by decide +kernel
theorem dE_213 : decode code 213 = .ok (.aload_n 3, 1) := by decide +kernel
theorem dE_214 : decode code 214 = .ok (.iconst 0, 1) := by decide +kernel
theorem dE_215 : decode code 215 = .ok (.laload, 1) := by decide +kernel
theorem dE_216 : decode code 216 = .ok (.iload 6, 2) := by decide +kernel
theorem dE_218 : decode code 218 = .ok (.i2l, 1) := by decide +kernel
theorem dE_219 : decode code 219 = .ok (.lcmp, 1) := by decide +kernel
theorem dE_220 : decode code 220 = .ok (.ifCond .eq 5, 3) := by decide +kernel
theorem dE_223 : decode code 223 = .ok (.iconst 0, 1) := by decide +kernel
theorem dE_224 : decode code 224 = .ok (.ireturn, 1) := by decide +kernel
theorem dE_225 : decode code 225 = .ok (.goto 1244, 3) := by decide +kernel
theorem dE_228 : decode code 228 = .ok (.aload_n 1, 1) := by decide +kernel
theorem dE_229 : decode code 229 = .ok (.aload_n 0, 1) := by decide +kernel
theorem dE_230 : decode code 230 = .ok (.iload 4, 2) := by decide +kernel
theorem dE_232 : decode code 232 = .ok (.iconst 1, 1) := by decide +kernel
theorem dE_233 : decode code 233 = .ok (.iadd, 1) := by decide +kernel
theorem dE_234 : decode code 234 = .ok (.iaload, 1) := by decide +kernel
theorem dE_235 : decode code 235 = .ok (.aload_n 0, 1) := by decide +kernel
theorem dE_236 : decode code 236 = .ok (.iload 4, 2) := by decide +kernel
theorem dE_238 : decode code 238 = .ok (.iconst 2, 1) := by decide +kernel
theorem dE_239 : decode code 239 = .ok (.iadd, 1) := by decide +kernel
theorem dE_240 : decode code 240 = .ok (.iaload, 1) := by decide +kernel
theorem dE_241 : decode code 241 = .ok (.aload_n 0, 1) := by decide +kernel
theorem dE_242 : decode code 242 = .ok (.iload 4, 2) := by decide +kernel
theorem dE_244 : decode code 244 = .ok (.iconst 3, 1) := by decide +kernel
theorem dE_245 : decode code 245 = .ok (.iadd, 1) := by decide +kernel
theorem dE_246 : decode code 246 = .ok (.iaload, 1) := by decide +kernel
theorem dE_247 : decode code 247 = .ok (.aload_n 3, 1) := by decide +kernel
theorem dE_248 : decode code 248 = .ok (.invokestatic 92, 3) := by decide +kernel
theorem dE_251 : decode code 251 = .ok (.istore 5, 2) := by decide +kernel
theorem dE_253 : decode code 253 = .ok (.aload_n 2, 1) := by decide +kernel
theorem dE_254 : decode code 254 = .ok (.aload_n 0, 1) := by decide +kernel
theorem dE_255 : decode code 255 = .ok (.iload 4, 2) := by decide +kernel
theorem dE_257 : decode code 257 = .ok (.iconst 1, 1) := by decide +kernel
theorem dE_258 : decode code 258 = .ok (.iadd, 1) := by decide +kernel
theorem dE_259 : decode code 259 = .ok (.iaload, 1) := by decide +kernel
theorem dE_260 : decode code 260 = .ok (.aload_n 0, 1) := by decide +kernel
theorem dE_261 : decode code 261 = .ok (.iload 4, 2) := by decide +kernel
theorem dE_263 : decode code 263 = .ok (.iconst 2, 1) := by decide +kernel
theorem dE_264 : decode code 264 = .ok (.iadd, 1) := by decide +kernel
theorem dE_265 : decode code 265 = .ok (.iaload, 1) := by decide +kernel
theorem dE_266 : decode code 266 = .ok (.aload_n 0, 1) := by decide +kernel
theorem dE_267 : decode code 267 = .ok (.iload 4, 2) := by decide +kernel
theorem dE_269 : decode code 269 = .ok (.iconst 3, 1) := by decide +kernel
theorem dE_270 : decode code 270 = .ok (.iadd, 1) := by decide +kernel
theorem dE_271 : decode code 271 = .ok (.iaload, 1) := by decide +kernel
theorem dE_272 : decode code 272 = .ok (.invokevirtual 94, 3) := by decide +kernel
theorem dE_275 : decode code 275 = .ok (.istore 6, 2) := by decide +kernel
theorem dE_277 : decode code 277 = .ok (.aload_n 2, 1) := by decide +kernel
theorem dE_278 : decode code 278 = .ok (.invokevirtual 89, 3) := by decide +kernel
theorem dE_281 : decode code 281 = .ok (.iload 5, 2) := by decide +kernel
theorem dE_283 : decode code 283 = .ok (.if_icmp .eq 5, 3) := by decide +kernel
theorem dE_286 : decode code 286 = .ok (.iconst 0, 1) := by decide +kernel
theorem dE_287 : decode code 287 = .ok (.ireturn, 1) := by decide +kernel
theorem dE_288 : decode code 288 = .ok (.iload 5, 2) := by decide +kernel
theorem dE_290 : decode code 290 = .ok (.ifCond .ne 15, 3) := by decide +kernel
theorem dE_293 : decode code 293 = .ok (.aload_n 3, 1) := by decide +kernel
theorem dE_294 : decode code 294 = .ok (.iconst 0, 1) := by decide +kernel
theorem dE_295 : decode code 295 = .ok (.laload, 1) := by decide +kernel
theorem dE_296 : decode code 296 = .ok (.iload 6, 2) := by decide +kernel
theorem dE_298 : decode code 298 = .ok (.i2l, 1) := by decide +kernel
theorem dE_299 : decode code 299 = .ok (.lcmp, 1) := by decide +kernel
theorem dE_300 : decode code 300 = .ok (.ifCond .eq 5, 3) := by decide +kernel
theorem dE_303 : decode code 303 = .ok (.iconst 0, 1) := by decide +kernel
theorem dE_304 : decode code 304 = .ok (.ireturn, 1) := by decide +kernel
theorem dE_305 : decode code 305 = .ok (.goto 1164, 3) := by decide +kernel
theorem dE_308 : decode code 308 = .ok (.aload_n 1, 1) := by decide +kernel
theorem dE_309 : decode code 309 = .ok (.aload_n 3, 1) := by decide +kernel
theorem dE_310 : decode code 310 = .ok (.invokestatic 95, 3) := by decide +kernel
theorem dE_313 : decode code 313 = .ok (.istore 5, 2) := by decide +kernel
theorem dE_315 : decode code 315 = .ok (.aload_n 2, 1) := by decide +kernel
theorem dE_316 : decode code 316 = .ok (.invokevirtual 98, 3) := by decide +kernel
theorem dE_319 : decode code 319 = .ok (.istore 6, 2) := by decide +kernel
theorem dE_321 : decode code 321 = .ok (.aload_n 2, 1) := by decide +kernel
theorem dE_322 : decode code 322 = .ok (.invokevirtual 89, 3) := by decide +kernel
theorem dE_325 : decode code 325 = .ok (.iload 5, 2) := by decide +kernel
theorem dE_327 : decode code 327 = .ok (.if_icmp .eq 5, 3) := by decide +kernel
theorem dE_330 : decode code 330 = .ok (.iconst 0, 1) := by decide +kernel
theorem dE_331 : decode code 331 = .ok (.ireturn, 1) := by decide +kernel
theorem dE_332 : decode code 332 = .ok (.iload 5, 2) := by decide +kernel
theorem dE_334 : decode code 334 = .ok (.ifCond .ne 15, 3) := by decide +kernel
theorem dE_337 : decode code 337 = .ok (.aload_n 3, 1) := by decide +kernel
theorem dE_338 : decode code 338 = .ok (.iconst 0, 1) := by decide +kernel
theorem dE_339 : decode code 339 = .ok (.laload, 1) := by decide +kernel
theorem dE_340 : decode code 340 = .ok (.iload 6, 2) := by decide +kernel
theorem dE_342 : decode code 342 = .ok (.i2l, 1) := by decide +kernel
theorem dE_343 : decode code 343 = .ok (.lcmp, 1) := by decide +kernel
theorem dE_344 : decode code 344 = .ok (.ifCond .eq 5, 3) := by decide +kernel
theorem dE_347 : decode code 347 = .ok (.iconst 0, 1) := by decide +kernel
theorem dE_348 : decode code 348 = .ok (.ireturn, 1) := by decide +kernel
theorem dE_349 : decode code 349 = .ok (.goto 1120, 3) := by decide +kernel
theorem dE_352 : decode code 352 = .ok (.aload_n 1, 1) := by decide +kernel
theorem dE_353 : decode code 353 = .ok (.aload_n 0, 1) := by decide +kernel
theorem dE_354 : decode code 354 = .ok (.iload 4, 2) := by decide +kernel
theorem dE_356 : decode code 356 = .ok (.iconst 1, 1) := by decide +kernel
theorem dE_357 : decode code 357 = .ok (.iadd, 1) := by decide +kernel
theorem dE_358 : decode code 358 = .ok (.iaload, 1) := by decide +kernel
theorem dE_359 : decode code 359 = .ok (.aload_n 0, 1) := by decide +kernel
theorem dE_360 : decode code 360 = .ok (.iload 4, 2) := by decide +kernel
theorem dE_362 : decode code 362 = .ok (.iconst 2, 1) := by decide +kernel
theorem dE_363 : decode code 363 = .ok (.iadd, 1) := by decide +kernel
theorem dE_364 : decode code 364 = .ok (.iaload, 1) := by decide +kernel
theorem dE_365 : decode code 365 = .ok (.aload_n 3, 1) := by decide +kernel
theorem dE_366 : decode code 366 = .ok (.invokestatic 99, 3) := by decide +kernel
theorem dE_369 : decode code 369 = .ok (.istore 5, 2) := by decide +kernel
theorem dE_371 : decode code 371 = .ok (.aload_n 2, 1) := by decide +kernel
theorem dE_372 : decode code 372 = .ok (.aload_n 0, 1) := by decide +kernel
theorem dE_373 : decode code 373 = .ok (.iload 4, 2) := by decide +kernel
theorem dE_375 : decode code 375 = .ok (.iconst 1, 1) := by decide +kernel
theorem dE_376 : decode code 376 = .ok (.iadd, 1) := by decide +kernel
theorem dE_377 : decode code 377 = .ok (.iaload, 1) := by decide +kernel
theorem dE_378 : decode code 378 = .ok (.aload_n 0, 1) := by decide +kernel
theorem dE_379 : decode code 379 = .ok (.iload 4, 2) := by decide +kernel
theorem dE_381 : decode code 381 = .ok (.iconst 2, 1) := by decide +kernel
theorem dE_382 : decode code 382 = .ok (.iadd, 1) := by decide +kernel
theorem dE_383 : decode code 383 = .ok (.iaload, 1) := by decide +kernel
theorem dE_384 : decode code 384 = .ok (.invokevirtual 102, 3) := by decide +kernel
theorem dE_387 : decode code 387 = .ok (.istore 6, 2) := by decide +kernel
theorem dE_389 : decode code 389 = .ok (.aload_n 2, 1) := by decide +kernel
theorem dE_390 : decode code 390 = .ok (.invokevirtual 89, 3) := by decide +kernel
theorem dE_393 : decode code 393 = .ok (.iload 5, 2) := by decide +kernel
theorem dE_395 : decode code 395 = .ok (.if_icmp .eq 5, 3) := by decide +kernel
theorem dE_398 : decode code 398 = .ok (.iconst 0, 1) := by decide +kernel
theorem dE_399 : decode code 399 = .ok (.ireturn, 1) := by decide +kernel
theorem dE_400 : decode code 400 = .ok (.iload 5, 2) := by decide +kernel
theorem dE_402 : decode code 402 = .ok (.ifCond .ne 15, 3) := by decide +kernel
theorem dE_405 : decode code 405 = .ok (.aload_n 3, 1) := by decide +kernel
theorem dE_406 : decode code 406 = .ok (.iconst 0, 1) := by decide +kernel
theorem dE_407 : decode code 407 = .ok (.laload, 1) := by decide +kernel
theorem dE_408 : decode code 408 = .ok (.iload 6, 2) := by decide +kernel
theorem dE_410 : decode code 410 = .ok (.i2l, 1) := by decide +kernel
theorem dE_411 : decode code 411 = .ok (.lcmp, 1) := by decide +kernel
theorem dE_412 : decode code 412 = .ok (.ifCond .eq 5, 3) := by decide +kernel
theorem dE_415 : decode code 415 = .ok (.iconst 0, 1) := by decide +kernel
theorem dE_416 : decode code 416 = .ok (.ireturn, 1) := by decide +kernel
theorem dE_417 : decode code 417 = .ok (.goto 1052, 3) := by decide +kernel
theorem dE_420 : decode code 420 = .ok (.aload_n 1, 1) := by decide +kernel
theorem dE_421 : decode code 421 = .ok (.aload_n 0, 1) := by decide +kernel
theorem dE_422 : decode code 422 = .ok (.iload 4, 2) := by decide +kernel
theorem dE_424 : decode code 424 = .ok (.iconst 1, 1) := by decide +kernel
theorem dE_425 : decode code 425 = .ok (.iadd, 1) := by decide +kernel
theorem dE_426 : decode code 426 = .ok (.iaload, 1) := by decide +kernel
theorem dE_427 : decode code 427 = .ok (.aload_n 0, 1) := by decide +kernel
theorem dE_428 : decode code 428 = .ok (.iload 4, 2) := by decide +kernel
theorem dE_430 : decode code 430 = .ok (.iconst 2, 1) := by decide +kernel
theorem dE_431 : decode code 431 = .ok (.iadd, 1) := by decide +kernel
theorem dE_432 : decode code 432 = .ok (.iaload, 1) := by decide +kernel
theorem dE_433 : decode code 433 = .ok (.aload_n 3, 1) := by decide +kernel
theorem dE_434 : decode code 434 = .ok (.invokestatic 103, 3) := by decide +kernel
theorem dE_437 : decode code 437 = .ok (.istore 5, 2) := by decide +kernel
theorem dE_439 : decode code 439 = .ok (.aload_n 2, 1) := by decide +kernel
theorem dE_440 : decode code 440 = .ok (.aload_n 0, 1) := by decide +kernel
theorem dE_441 : decode code 441 = .ok (.iload 4, 2) := by decide +kernel
theorem dE_443 : decode code 443 = .ok (.iconst 1, 1) := by decide +kernel
theorem dE_444 : decode code 444 = .ok (.iadd, 1) := by decide +kernel
theorem dE_445 : decode code 445 = .ok (.iaload, 1) := by decide +kernel
theorem dE_446 : decode code 446 = .ok (.aload_n 0, 1) := by decide +kernel
theorem dE_447 : decode code 447 = .ok (.iload 4, 2) := by decide +kernel
theorem dE_449 : decode code 449 = .ok (.iconst 2, 1) := by decide +kernel
theorem dE_450 : decode code 450 = .ok (.iadd, 1) := by decide +kernel
theorem dE_451 : decode code 451 = .ok (.iaload, 1) := by decide +kernel
theorem dE_452 : decode code 452 = .ok (.invokevirtual 105, 3) := by decide +kernel
theorem dE_455 : decode code 455 = .ok (.istore 6, 2) := by decide +kernel
theorem dE_457 : decode code 457 = .ok (.aload_n 2, 1) := by decide +kernel
theorem dE_458 : decode code 458 = .ok (.invokevirtual 89, 3) := by decide +kernel
theorem dE_461 : decode code 461 = .ok (.iload 5, 2) := by decide +kernel
theorem dE_463 : decode code 463 = .ok (.if_icmp .eq 5, 3) := by decide +kernel
theorem dE_466 : decode code 466 = .ok (.iconst 0, 1) := by decide +kernel
theorem dE_467 : decode code 467 = .ok (.ireturn, 1) := by decide +kernel
theorem dE_468 : decode code 468 = .ok (.iload 5, 2) := by decide +kernel
theorem dE_470 : decode code 470 = .ok (.ifCond .ne 15, 3) := by decide +kernel
theorem dE_473 : decode code 473 = .ok (.aload_n 3, 1) := by decide +kernel
theorem dE_474 : decode code 474 = .ok (.iconst 0, 1) := by decide +kernel
theorem dE_475 : decode code 475 = .ok (.laload, 1) := by decide +kernel
theorem dE_476 : decode code 476 = .ok (.iload 6, 2) := by decide +kernel
theorem dE_478 : decode code 478 = .ok (.i2l, 1) := by decide +kernel
theorem dE_479 : decode code 479 = .ok (.lcmp, 1) := by decide +kernel
theorem dE_480 : decode code 480 = .ok (.ifCond .eq 5, 3) := by decide +kernel
theorem dE_483 : decode code 483 = .ok (.iconst 0, 1) := by decide +kernel
theorem dE_484 : decode code 484 = .ok (.ireturn, 1) := by decide +kernel
theorem dE_485 : decode code 485 = .ok (.goto 984, 3) := by decide +kernel
theorem dE_488 : decode code 488 = .ok (.aload_n 1, 1) := by decide +kernel
theorem dE_489 : decode code 489 = .ok (.aload_n 0, 1) := by decide +kernel
theorem dE_490 : decode code 490 = .ok (.iload 4, 2) := by decide +kernel
theorem dE_492 : decode code 492 = .ok (.iconst 1, 1) := by decide +kernel
theorem dE_493 : decode code 493 = .ok (.iadd, 1) := by decide +kernel
theorem dE_494 : decode code 494 = .ok (.iaload, 1) := by decide +kernel
theorem dE_495 : decode code 495 = .ok (.aload_n 0, 1) := by decide +kernel
theorem dE_496 : decode code 496 = .ok (.iload 4, 2) := by decide +kernel
theorem dE_498 : decode code 498 = .ok (.iconst 2, 1) := by decide +kernel
theorem dE_499 : decode code 499 = .ok (.iadd, 1) := by decide +kernel
theorem dE_500 : decode code 500 = .ok (.iaload, 1) := by decide +kernel
theorem dE_501 : decode code 501 = .ok (.aload_n 3, 1) := by decide +kernel
theorem dE_502 : decode code 502 = .ok (.invokestatic 106, 3) := by decide +kernel
theorem dE_505 : decode code 505 = .ok (.istore 5, 2) := by decide +kernel
theorem dE_507 : decode code 507 = .ok (.aload_n 2, 1) := by decide +kernel
theorem dE_508 : decode code 508 = .ok (.aload_n 0, 1) := by decide +kernel
theorem dE_509 : decode code 509 = .ok (.iload 4, 2) := by decide +kernel
theorem dE_511 : decode code 511 = .ok (.iconst 1, 1) := by decide +kernel
theorem dE_512 : decode code 512 = .ok (.iadd, 1) := by decide +kernel
theorem dE_513 : decode code 513 = .ok (.iaload, 1) := by decide +kernel
theorem dE_514 : decode code 514 = .ok (.aload_n 0, 1) := by decide +kernel
theorem dE_515 : decode code 515 = .ok (.iload 4, 2) := by decide +kernel
theorem dE_517 : decode code 517 = .ok (.iconst 2, 1) := by decide +kernel
theorem dE_518 : decode code 518 = .ok (.iadd, 1) := by decide +kernel
theorem dE_519 : decode code 519 = .ok (.iaload, 1) := by decide +kernel
theorem dE_520 : decode code 520 = .ok (.invokevirtual 108, 3) := by decide +kernel
theorem dE_523 : decode code 523 = .ok (.istore 6, 2) := by decide +kernel
theorem dE_525 : decode code 525 = .ok (.aload_n 2, 1) := by decide +kernel
theorem dE_526 : decode code 526 = .ok (.invokevirtual 89, 3) := by decide +kernel
theorem dE_529 : decode code 529 = .ok (.iload 5, 2) := by decide +kernel
theorem dE_531 : decode code 531 = .ok (.if_icmp .eq 5, 3) := by decide +kernel
theorem dE_534 : decode code 534 = .ok (.iconst 0, 1) := by decide +kernel
theorem dE_535 : decode code 535 = .ok (.ireturn, 1) := by decide +kernel
theorem dE_536 : decode code 536 = .ok (.iload 5, 2) := by decide +kernel
theorem dE_538 : decode code 538 = .ok (.ifCond .ne 15, 3) := by decide +kernel
theorem dE_541 : decode code 541 = .ok (.aload_n 3, 1) := by decide +kernel
theorem dE_542 : decode code 542 = .ok (.iconst 0, 1) := by decide +kernel
theorem dE_543 : decode code 543 = .ok (.laload, 1) := by decide +kernel
theorem dE_544 : decode code 544 = .ok (.iload 6, 2) := by decide +kernel
theorem dE_546 : decode code 546 = .ok (.i2l, 1) := by decide +kernel
theorem dE_547 : decode code 547 = .ok (.lcmp, 1) := by decide +kernel
theorem dE_548 : decode code 548 = .ok (.ifCond .eq 5, 3) := by decide +kernel
theorem dE_551 : decode code 551 = .ok (.iconst 0, 1) := by decide +kernel
theorem dE_552 : decode code 552 = .ok (.ireturn, 1) := by decide +kernel
theorem dE_553 : decode code 553 = .ok (.goto 916, 3) := by decide +kernel
theorem dE_556 : decode code 556 = .ok (.aload_n 1, 1) := by decide +kernel
theorem dE_557 : decode code 557 = .ok (.aload_n 0, 1) := by decide +kernel
theorem dE_558 : decode code 558 = .ok (.iload 4, 2) := by decide +kernel
theorem dE_560 : decode code 560 = .ok (.iconst 1, 1) := by decide +kernel
theorem dE_561 : decode code 561 = .ok (.iadd, 1) := by decide +kernel
theorem dE_562 : decode code 562 = .ok (.iaload, 1) := by decide +kernel
theorem dE_563 : decode code 563 = .ok (.aload_n 3, 1) := by decide +kernel
theorem dE_564 : decode code 564 = .ok (.invokestatic 109, 3) := by decide +kernel
theorem dE_567 : decode code 567 = .ok (.istore 5, 2) := by decide +kernel
theorem dE_569 : decode code 569 = .ok (.aload_n 2, 1) := by decide +kernel
theorem dE_570 : decode code 570 = .ok (.aload_n 0, 1) := by decide +kernel
theorem dE_571 : decode code 571 = .ok (.iload 4, 2) := by decide +kernel
theorem dE_573 : decode code 573 = .ok (.iconst 1, 1) := by decide +kernel
theorem dE_574 : decode code 574 = .ok (.iadd, 1) := by decide +kernel
theorem dE_575 : decode code 575 = .ok (.iaload, 1) := by decide +kernel
theorem dE_576 : decode code 576 = .ok (.invokevirtual 112, 3) := by decide +kernel
theorem dE_579 : decode code 579 = .ok (.istore 6, 2) := by decide +kernel
theorem dE_581 : decode code 581 = .ok (.aload_n 2, 1) := by decide +kernel
theorem dE_582 : decode code 582 = .ok (.invokevirtual 89, 3) := by decide +kernel
theorem dE_585 : decode code 585 = .ok (.iload 5, 2) := by decide +kernel
theorem dE_587 : decode code 587 = .ok (.if_icmp .eq 5, 3) := by decide +kernel
theorem dE_590 : decode code 590 = .ok (.iconst 0, 1) := by decide +kernel
theorem dE_591 : decode code 591 = .ok (.ireturn, 1) := by decide +kernel
theorem dE_592 : decode code 592 = .ok (.iload 5, 2) := by decide +kernel
theorem dE_594 : decode code 594 = .ok (.ifCond .ne 15, 3) := by decide +kernel
theorem dE_597 : decode code 597 = .ok (.aload_n 3, 1) := by decide +kernel
theorem dE_598 : decode code 598 = .ok (.iconst 0, 1) := by decide +kernel
theorem dE_599 : decode code 599 = .ok (.laload, 1) := by decide +kernel
theorem dE_600 : decode code 600 = .ok (.iload 6, 2) := by decide +kernel
theorem dE_602 : decode code 602 = .ok (.i2l, 1) := by decide +kernel
theorem dE_603 : decode code 603 = .ok (.lcmp, 1) := by decide +kernel
theorem dE_604 : decode code 604 = .ok (.ifCond .eq 5, 3) := by decide +kernel
theorem dE_607 : decode code 607 = .ok (.iconst 0, 1) := by decide +kernel
theorem dE_608 : decode code 608 = .ok (.ireturn, 1) := by decide +kernel
theorem dE_609 : decode code 609 = .ok (.goto 860, 3) := by decide +kernel
theorem dE_612 : decode code 612 = .ok (.aload_n 1, 1) := by decide +kernel
theorem dE_613 : decode code 613 = .ok (.aload_n 0, 1) := by decide +kernel
theorem dE_614 : decode code 614 = .ok (.iload 4, 2) := by decide +kernel
theorem dE_616 : decode code 616 = .ok (.iconst 1, 1) := by decide +kernel
theorem dE_617 : decode code 617 = .ok (.iadd, 1) := by decide +kernel
theorem dE_618 : decode code 618 = .ok (.iaload, 1) := by decide +kernel
theorem dE_619 : decode code 619 = .ok (.aload_n 3, 1) := by decide +kernel
theorem dE_620 : decode code 620 = .ok (.invokestatic 113, 3) := by decide +kernel
theorem dE_623 : decode code 623 = .ok (.istore 5, 2) := by decide +kernel
theorem dE_625 : decode code 625 = .ok (.aload_n 2, 1) := by decide +kernel
theorem dE_626 : decode code 626 = .ok (.aload_n 0, 1) := by decide +kernel
theorem dE_627 : decode code 627 = .ok (.iload 4, 2) := by decide +kernel
theorem dE_629 : decode code 629 = .ok (.iconst 1, 1) := by decide +kernel
theorem dE_630 : decode code 630 = .ok (.iadd, 1) := by decide +kernel
theorem dE_631 : decode code 631 = .ok (.iaload, 1) := by decide +kernel
theorem dE_632 : decode code 632 = .ok (.invokevirtual 115, 3) := by decide +kernel
theorem dE_635 : decode code 635 = .ok (.istore 6, 2) := by decide +kernel
theorem dE_637 : decode code 637 = .ok (.aload_n 2, 1) := by decide +kernel
theorem dE_638 : decode code 638 = .ok (.invokevirtual 89, 3) := by decide +kernel
theorem dE_641 : decode code 641 = .ok (.iload 5, 2) := by decide +kernel
theorem dE_643 : decode code 643 = .ok (.if_icmp .eq 5, 3) := by decide +kernel
theorem dE_646 : decode code 646 = .ok (.iconst 0, 1) := by decide +kernel
theorem dE_647 : decode code 647 = .ok (.ireturn, 1) := by decide +kernel
theorem dE_648 : decode code 648 = .ok (.iload 5, 2) := by decide +kernel
theorem dE_650 : decode code 650 = .ok (.ifCond .ne 15, 3) := by decide +kernel
theorem dE_653 : decode code 653 = .ok (.aload_n 3, 1) := by decide +kernel
theorem dE_654 : decode code 654 = .ok (.iconst 0, 1) := by decide +kernel
theorem dE_655 : decode code 655 = .ok (.laload, 1) := by decide +kernel
theorem dE_656 : decode code 656 = .ok (.iload 6, 2) := by decide +kernel
theorem dE_658 : decode code 658 = .ok (.i2l, 1) := by decide +kernel
theorem dE_659 : decode code 659 = .ok (.lcmp, 1) := by decide +kernel
theorem dE_660 : decode code 660 = .ok (.ifCond .eq 5, 3) := by decide +kernel
theorem dE_663 : decode code 663 = .ok (.iconst 0, 1) := by decide +kernel
theorem dE_664 : decode code 664 = .ok (.ireturn, 1) := by decide +kernel
theorem dE_665 : decode code 665 = .ok (.goto 804, 3) := by decide +kernel
theorem dE_668 : decode code 668 = .ok (.aload_n 1, 1) := by decide +kernel
theorem dE_669 : decode code 669 = .ok (.aload_n 0, 1) := by decide +kernel
theorem dE_670 : decode code 670 = .ok (.iload 4, 2) := by decide +kernel
theorem dE_672 : decode code 672 = .ok (.iconst 1, 1) := by decide +kernel
theorem dE_673 : decode code 673 = .ok (.iadd, 1) := by decide +kernel
theorem dE_674 : decode code 674 = .ok (.iaload, 1) := by decide +kernel
theorem dE_675 : decode code 675 = .ok (.aload_n 3, 1) := by decide +kernel
theorem dE_676 : decode code 676 = .ok (.invokestatic 116, 3) := by decide +kernel
theorem dE_679 : decode code 679 = .ok (.istore 5, 2) := by decide +kernel
theorem dE_681 : decode code 681 = .ok (.aload_n 2, 1) := by decide +kernel
theorem dE_682 : decode code 682 = .ok (.aload_n 0, 1) := by decide +kernel
theorem dE_683 : decode code 683 = .ok (.iload 4, 2) := by decide +kernel
theorem dE_685 : decode code 685 = .ok (.iconst 1, 1) := by decide +kernel
theorem dE_686 : decode code 686 = .ok (.iadd, 1) := by decide +kernel
theorem dE_687 : decode code 687 = .ok (.iaload, 1) := by decide +kernel
theorem dE_688 : decode code 688 = .ok (.invokevirtual 118, 3) := by decide +kernel
theorem dE_691 : decode code 691 = .ok (.istore 6, 2) := by decide +kernel
theorem dE_693 : decode code 693 = .ok (.aload_n 2, 1) := by decide +kernel
theorem dE_694 : decode code 694 = .ok (.invokevirtual 89, 3) := by decide +kernel
theorem dE_697 : decode code 697 = .ok (.iload 5, 2) := by decide +kernel
theorem dE_699 : decode code 699 = .ok (.if_icmp .eq 5, 3) := by decide +kernel
theorem dE_702 : decode code 702 = .ok (.iconst 0, 1) := by decide +kernel
theorem dE_703 : decode code 703 = .ok (.ireturn, 1) := by decide +kernel
theorem dE_704 : decode code 704 = .ok (.iload 5, 2) := by decide +kernel
theorem dE_706 : decode code 706 = .ok (.ifCond .ne 15, 3) := by decide +kernel
theorem dE_709 : decode code 709 = .ok (.aload_n 3, 1) := by decide +kernel
theorem dE_710 : decode code 710 = .ok (.iconst 0, 1) := by decide +kernel
theorem dE_711 : decode code 711 = .ok (.laload, 1) := by decide +kernel
theorem dE_712 : decode code 712 = .ok (.iload 6, 2) := by decide +kernel
theorem dE_714 : decode code 714 = .ok (.i2l, 1) := by decide +kernel
theorem dE_715 : decode code 715 = .ok (.lcmp, 1) := by decide +kernel
theorem dE_716 : decode code 716 = .ok (.ifCond .eq 5, 3) := by decide +kernel
theorem dE_719 : decode code 719 = .ok (.iconst 0, 1) := by decide +kernel
theorem dE_720 : decode code 720 = .ok (.ireturn, 1) := by decide +kernel
theorem dE_721 : decode code 721 = .ok (.goto 748, 3) := by decide +kernel
theorem dE_724 : decode code 724 = .ok (.aload_n 1, 1) := by decide +kernel
theorem dE_725 : decode code 725 = .ok (.invokevirtual 119, 3) := by decide +kernel
theorem dE_728 : decode code 728 = .ok (.aload_n 2, 1) := by decide +kernel
theorem dE_729 : decode code 729 = .ok (.invokevirtual 122, 3) := by decide +kernel
theorem dE_732 : decode code 732 = .ok (.if_icmp .eq 737, 3) := by decide +kernel
theorem dE_735 : decode code 735 = .ok (.iconst 0, 1) := by decide +kernel
theorem dE_736 : decode code 736 = .ok (.ireturn, 1) := by decide +kernel
theorem dE_737 : decode code 737 = .ok (.aload_n 1, 1) := by decide +kernel
theorem dE_738 : decode code 738 = .ok (.invokevirtual 123, 3) := by decide +kernel
theorem dE_741 : decode code 741 = .ok (.aload_n 2, 1) := by decide +kernel
theorem dE_742 : decode code 742 = .ok (.invokevirtual 126, 3) := by decide +kernel
theorem dE_745 : decode code 745 = .ok (.if_icmp .eq 724, 3) := by decide +kernel
theorem dE_748 : decode code 748 = .ok (.iconst 0, 1) := by decide +kernel
theorem dE_749 : decode code 749 = .ok (.ireturn, 1) := by decide +kernel
theorem dE_750 : decode code 750 = .ok (.aload_n 1, 1) := by decide +kernel
theorem dE_751 : decode code 751 = .ok (.aload_n 3, 1) := by decide +kernel
theorem dE_752 : decode code 752 = .ok (.invokestatic 127, 3) := by decide +kernel
theorem dE_755 : decode code 755 = .ok (.istore 5, 2) := by decide +kernel
theorem dE_757 : decode code 757 = .ok (.aload_n 2, 1) := by decide +kernel
theorem dE_758 : decode code 758 = .ok (.invokevirtual 129, 3) := by decide +kernel
theorem dE_761 : decode code 761 = .ok (.istore 6, 2) := by decide +kernel
theorem dE_763 : decode code 763 = .ok (.aload_n 2, 1) := by decide +kernel
theorem dE_764 : decode code 764 = .ok (.invokevirtual 89, 3) := by decide +kernel
theorem dE_767 : decode code 767 = .ok (.iload 5, 2) := by decide +kernel
theorem dE_769 : decode code 769 = .ok (.if_icmp .eq 5, 3) := by decide +kernel
theorem dE_772 : decode code 772 = .ok (.iconst 0, 1) := by decide +kernel
theorem dE_773 : decode code 773 = .ok (.ireturn, 1) := by decide +kernel
theorem dE_774 : decode code 774 = .ok (.iload 5, 2) := by decide +kernel
theorem dE_776 : decode code 776 = .ok (.ifCond .ne 15, 3) := by decide +kernel
theorem dE_779 : decode code 779 = .ok (.aload_n 3, 1) := by decide +kernel
theorem dE_780 : decode code 780 = .ok (.iconst 0, 1) := by decide +kernel
theorem dE_781 : decode code 781 = .ok (.laload, 1) := by decide +kernel
theorem dE_782 : decode code 782 = .ok (.iload 6, 2) := by decide +kernel
theorem dE_784 : decode code 784 = .ok (.i2l, 1) := by decide +kernel
theorem dE_785 : decode code 785 = .ok (.lcmp, 1) := by decide +kernel
theorem dE_786 : decode code 786 = .ok (.ifCond .eq 5, 3) := by decide +kernel
theorem dE_789 : decode code 789 = .ok (.iconst 0, 1) := by decide +kernel
theorem dE_790 : decode code 790 = .ok (.ireturn, 1) := by decide +kernel
theorem dE_791 : decode code 791 = .ok (.goto 678, 3) := by decide +kernel
theorem dE_794 : decode code 794 = .ok (.aload_n 1, 1) := by decide +kernel
theorem dE_795 : decode code 795 = .ok (.aload_n 3, 1) := by decide +kernel
theorem dE_796 : decode code 796 = .ok (.invokestatic 130, 3) := by decide +kernel
theorem dE_799 : decode code 799 = .ok (.istore 5, 2) := by decide +kernel
theorem dE_801 : decode code 801 = .ok (.aload_n 2, 1) := by decide +kernel
theorem dE_802 : decode code 802 = .ok (.invokevirtual 132, 3) := by decide +kernel
theorem dE_805 : decode code 805 = .ok (.istore 6, 2) := by decide +kernel
theorem dE_807 : decode code 807 = .ok (.aload_n 2, 1) := by decide +kernel
theorem dE_808 : decode code 808 = .ok (.invokevirtual 89, 3) := by decide +kernel
theorem dE_811 : decode code 811 = .ok (.iload 5, 2) := by decide +kernel
theorem dE_813 : decode code 813 = .ok (.if_icmp .eq 5, 3) := by decide +kernel
theorem dE_816 : decode code 816 = .ok (.iconst 0, 1) := by decide +kernel
theorem dE_817 : decode code 817 = .ok (.ireturn, 1) := by decide +kernel
theorem dE_818 : decode code 818 = .ok (.iload 5, 2) := by decide +kernel
theorem dE_820 : decode code 820 = .ok (.ifCond .ne 15, 3) := by decide +kernel
theorem dE_823 : decode code 823 = .ok (.aload_n 3, 1) := by decide +kernel
theorem dE_824 : decode code 824 = .ok (.iconst 0, 1) := by decide +kernel
theorem dE_825 : decode code 825 = .ok (.laload, 1) := by decide +kernel
theorem dE_826 : decode code 826 = .ok (.iload 6, 2) := by decide +kernel
theorem dE_828 : decode code 828 = .ok (.i2l, 1) := by decide +kernel
theorem dE_829 : decode code 829 = .ok (.lcmp, 1) := by decide +kernel
theorem dE_830 : decode code 830 = .ok (.ifCond .eq 5, 3) := by decide +kernel
theorem dE_833 : decode code 833 = .ok (.iconst 0, 1) := by decide +kernel
theorem dE_834 : decode code 834 = .ok (.ireturn, 1) := by decide +kernel
theorem dE_835 : decode code 835 = .ok (.goto 634, 3) := by decide +kernel
theorem dE_838 : decode code 838 = .ok (.aload_n 1, 1) := by decide +kernel
theorem dE_839 : decode code 839 = .ok (.aload_n 0, 1) := by decide +kernel
theorem dE_840 : decode code 840 = .ok (.iload 4, 2) := by decide +kernel
theorem dE_842 : decode code 842 = .ok (.iconst 1, 1) := by decide +kernel
theorem dE_843 : decode code 843 = .ok (.iadd, 1) := by decide +kernel
theorem dE_844 : decode code 844 = .ok (.iaload, 1) := by decide +kernel
theorem dE_845 : decode code 845 = .ok (.aload_n 0, 1) := by decide +kernel
theorem dE_846 : decode code 846 = .ok (.iload 4, 2) := by decide +kernel
theorem dE_848 : decode code 848 = .ok (.iconst 2, 1) := by decide +kernel
theorem dE_849 : decode code 849 = .ok (.iadd, 1) := by decide +kernel
theorem dE_850 : decode code 850 = .ok (.iaload, 1) := by decide +kernel
theorem dE_851 : decode code 851 = .ok (.aload_n 3, 1) := by decide +kernel
theorem dE_852 : decode code 852 = .ok (.invokestatic 133, 3) := by decide +kernel
theorem dE_855 : decode code 855 = .ok (.istore 5, 2) := by decide +kernel
theorem dE_857 : decode code 857 = .ok (.aload_n 2, 1) := by decide +kernel
theorem dE_858 : decode code 858 = .ok (.aload_n 0, 1) := by decide +kernel
theorem dE_859 : decode code 859 = .ok (.iload 4, 2) := by decide +kernel
theorem dE_861 : decode code 861 = .ok (.iconst 1, 1) := by decide +kernel
theorem dE_862 : decode code 862 = .ok (.iadd, 1) := by decide +kernel
theorem dE_863 : decode code 863 = .ok (.iaload, 1) := by decide +kernel
theorem dE_864 : decode code 864 = .ok (.aload_n 0, 1) := by decide +kernel
theorem dE_865 : decode code 865 = .ok (.iload 4, 2) := by decide +kernel
theorem dE_867 : decode code 867 = .ok (.iconst 2, 1) := by decide +kernel
theorem dE_868 : decode code 868 = .ok (.iadd, 1) := by decide +kernel
theorem dE_869 : decode code 869 = .ok (.iaload, 1) := by decide +kernel
theorem dE_870 : decode code 870 = .ok (.invokevirtual 135, 3) := by decide +kernel
theorem dE_873 : decode code 873 = .ok (.istore 6, 2) := by decide +kernel
theorem dE_875 : decode code 875 = .ok (.aload_n 2, 1) := by decide +kernel
theorem dE_876 : decode code 876 = .ok (.invokevirtual 89, 3) := by decide +kernel
theorem dE_879 : decode code 879 = .ok (.iload 5, 2) := by decide +kernel
theorem dE_881 : decode code 881 = .ok (.if_icmp .eq 5, 3) := by decide +kernel
theorem dE_884 : decode code 884 = .ok (.iconst 0, 1) := by decide +kernel
theorem dE_885 : decode code 885 = .ok (.ireturn, 1) := by decide +kernel
theorem dE_886 : decode code 886 = .ok (.iload 5, 2) := by decide +kernel
theorem dE_888 : decode code 888 = .ok (.ifCond .ne 15, 3) := by decide +kernel
theorem dE_891 : decode code 891 = .ok (.aload_n 3, 1) := by decide +kernel
theorem dE_892 : decode code 892 = .ok (.iconst 0, 1) := by decide +kernel
theorem dE_893 : decode code 893 = .ok (.laload, 1) := by decide +kernel
theorem dE_894 : decode code 894 = .ok (.iload 6, 2) := by decide +kernel
theorem dE_896 : decode code 896 = .ok (.i2l, 1) := by decide +kernel
theorem dE_897 : decode code 897 = .ok (.lcmp, 1) := by decide +kernel
theorem dE_898 : decode code 898 = .ok (.ifCond .eq 5, 3) := by decide +kernel
theorem dE_901 : decode code 901 = .ok (.iconst 0, 1) := by decide +kernel
theorem dE_902 : decode code 902 = .ok (.ireturn, 1) := by decide +kernel
theorem dE_903 : decode code 903 = .ok (.goto 566, 3) := by decide +kernel
theorem dE_906 : decode code 906 = .ok (.aload_n 1, 1) := by decide +kernel
theorem dE_907 : decode code 907 = .ok (.aload_n 0, 1) := by decide +kernel
theorem dE_908 : decode code 908 = .ok (.iload 4, 2) := by decide +kernel
theorem dE_910 : decode code 910 = .ok (.iconst 1, 1) := by decide +kernel
theorem dE_911 : decode code 911 = .ok (.iadd, 1) := by decide +kernel
theorem dE_912 : decode code 912 = .ok (.iaload, 1) := by decide +kernel
theorem dE_913 : decode code 913 = .ok (.aload_n 0, 1) := by decide +kernel
theorem dE_914 : decode code 914 = .ok (.iload 4, 2) := by decide +kernel
theorem dE_916 : decode code 916 = .ok (.iconst 2, 1) := by decide +kernel
theorem dE_917 : decode code 917 = .ok (.iadd, 1) := by decide +kernel
theorem dE_918 : decode code 918 = .ok (.iaload, 1) := by decide +kernel
theorem dE_919 : decode code 919 = .ok (.aload_n 3, 1) := by decide +kernel
theorem dE_920 : decode code 920 = .ok (.invokestatic 136, 3) := by decide +kernel
theorem dE_923 : decode code 923 = .ok (.istore 5, 2) := by decide +kernel
theorem dE_925 : decode code 925 = .ok (.aload_n 2, 1) := by decide +kernel
theorem dE_926 : decode code 926 = .ok (.aload_n 0, 1) := by decide +kernel
theorem dE_927 : decode code 927 = .ok (.iload 4, 2) := by decide +kernel
theorem dE_929 : decode code 929 = .ok (.iconst 1, 1) := by decide +kernel
theorem dE_930 : decode code 930 = .ok (.iadd, 1) := by decide +kernel
theorem dE_931 : decode code 931 = .ok (.iaload, 1) := by decide +kernel
theorem dE_932 : decode code 932 = .ok (.aload_n 0, 1) := by decide +kernel
theorem dE_933 : decode code 933 = .ok (.iload 4, 2) := by decide +kernel
theorem dE_935 : decode code 935 = .ok (.iconst 2, 1) := by decide +kernel
theorem dE_936 : decode code 936 = .ok (.iadd, 1) := by decide +kernel
theorem dE_937 : decode code 937 = .ok (.iaload, 1) := by decide +kernel
theorem dE_938 : decode code 938 = .ok (.invokevirtual 138, 3) := by decide +kernel
theorem dE_941 : decode code 941 = .ok (.istore 6, 2) := by decide +kernel
theorem dE_943 : decode code 943 = .ok (.aload_n 2, 1) := by decide +kernel
theorem dE_944 : decode code 944 = .ok (.invokevirtual 89, 3) := by decide +kernel
theorem dE_947 : decode code 947 = .ok (.iload 5, 2) := by decide +kernel
theorem dE_949 : decode code 949 = .ok (.if_icmp .eq 5, 3) := by decide +kernel
theorem dE_952 : decode code 952 = .ok (.iconst 0, 1) := by decide +kernel
theorem dE_953 : decode code 953 = .ok (.ireturn, 1) := by decide +kernel
theorem dE_954 : decode code 954 = .ok (.iload 5, 2) := by decide +kernel
theorem dE_956 : decode code 956 = .ok (.ifCond .ne 15, 3) := by decide +kernel
theorem dE_959 : decode code 959 = .ok (.aload_n 3, 1) := by decide +kernel
theorem dE_960 : decode code 960 = .ok (.iconst 0, 1) := by decide +kernel
theorem dE_961 : decode code 961 = .ok (.laload, 1) := by decide +kernel
theorem dE_962 : decode code 962 = .ok (.iload 6, 2) := by decide +kernel
theorem dE_964 : decode code 964 = .ok (.i2l, 1) := by decide +kernel
theorem dE_965 : decode code 965 = .ok (.lcmp, 1) := by decide +kernel
theorem dE_966 : decode code 966 = .ok (.ifCond .eq 5, 3) := by decide +kernel
theorem dE_969 : decode code 969 = .ok (.iconst 0, 1) := by decide +kernel
theorem dE_970 : decode code 970 = .ok (.ireturn, 1) := by decide +kernel
theorem dE_971 : decode code 971 = .ok (.goto 498, 3) := by decide +kernel
theorem dE_974 : decode code 974 = .ok (.aload_n 1, 1) := by decide +kernel
theorem dE_975 : decode code 975 = .ok (.aload_n 0, 1) := by decide +kernel
theorem dE_976 : decode code 976 = .ok (.iload 4, 2) := by decide +kernel
theorem dE_978 : decode code 978 = .ok (.iconst 1, 1) := by decide +kernel
theorem dE_979 : decode code 979 = .ok (.iadd, 1) := by decide +kernel
theorem dE_980 : decode code 980 = .ok (.iaload, 1) := by decide +kernel
theorem dE_981 : decode code 981 = .ok (.aload_n 0, 1) := by decide +kernel
theorem dE_982 : decode code 982 = .ok (.iload 4, 2) := by decide +kernel
theorem dE_984 : decode code 984 = .ok (.iconst 2, 1) := by decide +kernel
theorem dE_985 : decode code 985 = .ok (.iadd, 1) := by decide +kernel
theorem dE_986 : decode code 986 = .ok (.iaload, 1) := by decide +kernel
theorem dE_987 : decode code 987 = .ok (.aload_n 3, 1) := by decide +kernel
theorem dE_988 : decode code 988 = .ok (.invokestatic 139, 3) := by decide +kernel
theorem dE_991 : decode code 991 = .ok (.istore 5, 2) := by decide +kernel
theorem dE_993 : decode code 993 = .ok (.aload_n 2, 1) := by decide +kernel
theorem dE_994 : decode code 994 = .ok (.aload_n 0, 1) := by decide +kernel
theorem dE_995 : decode code 995 = .ok (.iload 4, 2) := by decide +kernel
theorem dE_997 : decode code 997 = .ok (.iconst 1, 1) := by decide +kernel
theorem dE_998 : decode code 998 = .ok (.iadd, 1) := by decide +kernel
theorem dE_999 : decode code 999 = .ok (.iaload, 1) := by decide +kernel
theorem dE_1000 : decode code 1000 = .ok (.aload_n 0, 1) := by decide +kernel
theorem dE_1001 : decode code 1001 = .ok (.iload 4, 2) := by decide +kernel
theorem dE_1003 : decode code 1003 = .ok (.iconst 2, 1) := by decide +kernel
theorem dE_1004 : decode code 1004 = .ok (.iadd, 1) := by decide +kernel
theorem dE_1005 : decode code 1005 = .ok (.iaload, 1) := by decide +kernel
theorem dE_1006 : decode code 1006 = .ok (.invokevirtual 141, 3) := by decide +kernel
theorem dE_1009 : decode code 1009 = .ok (.istore 6, 2) := by decide +kernel
theorem dE_1011 : decode code 1011 = .ok (.aload_n 2, 1) := by decide +kernel
theorem dE_1012 : decode code 1012 = .ok (.invokevirtual 89, 3) := by decide +kernel
theorem dE_1015 : decode code 1015 = .ok (.iload 5, 2) := by decide +kernel
theorem dE_1017 : decode code 1017 = .ok (.if_icmp .eq 5, 3) := by decide +kernel
theorem dE_1020 : decode code 1020 = .ok (.iconst 0, 1) := by decide +kernel
theorem dE_1021 : decode code 1021 = .ok (.ireturn, 1) := by decide +kernel
theorem dE_1022 : decode code 1022 = .ok (.iload 5, 2) := by decide +kernel
theorem dE_1024 : decode code 1024 = .ok (.ifCond .ne 15, 3) := by decide +kernel
theorem dE_1027 : decode code 1027 = .ok (.aload_n 3, 1) := by decide +kernel
theorem dE_1028 : decode code 1028 = .ok (.iconst 0, 1) := by decide +kernel
theorem dE_1029 : decode code 1029 = .ok (.laload, 1) := by decide +kernel
theorem dE_1030 : decode code 1030 = .ok (.iload 6, 2) := by decide +kernel
theorem dE_1032 : decode code 1032 = .ok (.i2l, 1) := by decide +kernel
theorem dE_1033 : decode code 1033 = .ok (.lcmp, 1) := by decide +kernel
theorem dE_1034 : decode code 1034 = .ok (.ifCond .eq 5, 3) := by decide +kernel
theorem dE_1037 : decode code 1037 = .ok (.iconst 0, 1) := by decide +kernel
theorem dE_1038 : decode code 1038 = .ok (.ireturn, 1) := by decide +kernel
theorem dE_1039 : decode code 1039 = .ok (.goto 430, 3) := by decide +kernel
theorem dE_1042 : decode code 1042 = .ok (.aload_n 1, 1) := by decide +kernel
theorem dE_1043 : decode code 1043 = .ok (.aload_n 0, 1) := by decide +kernel
theorem dE_1044 : decode code 1044 = .ok (.iload 4, 2) := by decide +kernel
theorem dE_1046 : decode code 1046 = .ok (.iconst 1, 1) := by decide +kernel
theorem dE_1047 : decode code 1047 = .ok (.iadd, 1) := by decide +kernel
theorem dE_1048 : decode code 1048 = .ok (.iaload, 1) := by decide +kernel
theorem dE_1049 : decode code 1049 = .ok (.aload_n 0, 1) := by decide +kernel
theorem dE_1050 : decode code 1050 = .ok (.iload 4, 2) := by decide +kernel
theorem dE_1052 : decode code 1052 = .ok (.iconst 2, 1) := by decide +kernel
theorem dE_1053 : decode code 1053 = .ok (.iadd, 1) := by decide +kernel
theorem dE_1054 : decode code 1054 = .ok (.iaload, 1) := by decide +kernel
theorem dE_1055 : decode code 1055 = .ok (.aload_n 3, 1) := by decide +kernel
theorem dE_1056 : decode code 1056 = .ok (.invokestatic 142, 3) := by decide +kernel
theorem dE_1059 : decode code 1059 = .ok (.istore 5, 2) := by decide +kernel
theorem dE_1061 : decode code 1061 = .ok (.aload_n 2, 1) := by decide +kernel
theorem dE_1062 : decode code 1062 = .ok (.aload_n 0, 1) := by decide +kernel
theorem dE_1063 : decode code 1063 = .ok (.iload 4, 2) := by decide +kernel
theorem dE_1065 : decode code 1065 = .ok (.iconst 1, 1) := by decide +kernel
theorem dE_1066 : decode code 1066 = .ok (.iadd, 1) := by decide +kernel
theorem dE_1067 : decode code 1067 = .ok (.iaload, 1) := by decide +kernel
theorem dE_1068 : decode code 1068 = .ok (.aload_n 0, 1) := by decide +kernel
theorem dE_1069 : decode code 1069 = .ok (.iload 4, 2) := by decide +kernel
theorem dE_1071 : decode code 1071 = .ok (.iconst 2, 1) := by decide +kernel
theorem dE_1072 : decode code 1072 = .ok (.iadd, 1) := by decide +kernel
theorem dE_1073 : decode code 1073 = .ok (.iaload, 1) := by decide +kernel
theorem dE_1074 : decode code 1074 = .ok (.invokevirtual 144, 3) := by decide +kernel
theorem dE_1077 : decode code 1077 = .ok (.istore 6, 2) := by decide +kernel
theorem dE_1079 : decode code 1079 = .ok (.aload_n 2, 1) := by decide +kernel
theorem dE_1080 : decode code 1080 = .ok (.invokevirtual 89, 3) := by decide +kernel
theorem dE_1083 : decode code 1083 = .ok (.iload 5, 2) := by decide +kernel
theorem dE_1085 : decode code 1085 = .ok (.if_icmp .eq 5, 3) := by decide +kernel
theorem dE_1088 : decode code 1088 = .ok (.iconst 0, 1) := by decide +kernel
theorem dE_1089 : decode code 1089 = .ok (.ireturn, 1) := by decide +kernel
theorem dE_1090 : decode code 1090 = .ok (.iload 5, 2) := by decide +kernel
theorem dE_1092 : decode code 1092 = .ok (.ifCond .ne 15, 3) := by decide +kernel
theorem dE_1095 : decode code 1095 = .ok (.aload_n 3, 1) := by decide +kernel
theorem dE_1096 : decode code 1096 = .ok (.iconst 0, 1) := by decide +kernel
theorem dE_1097 : decode code 1097 = .ok (.laload, 1) := by decide +kernel
theorem dE_1098 : decode code 1098 = .ok (.iload 6, 2) := by decide +kernel
theorem dE_1100 : decode code 1100 = .ok (.i2l, 1) := by decide +kernel
theorem dE_1101 : decode code 1101 = .ok (.lcmp, 1) := by decide +kernel
theorem dE_1102 : decode code 1102 = .ok (.ifCond .eq 5, 3) := by decide +kernel
theorem dE_1105 : decode code 1105 = .ok (.iconst 0, 1) := by decide +kernel
theorem dE_1106 : decode code 1106 = .ok (.ireturn, 1) := by decide +kernel
theorem dE_1107 : decode code 1107 = .ok (.goto 362, 3) := by decide +kernel
theorem dE_1110 : decode code 1110 = .ok (.aload_n 1, 1) := by decide +kernel
theorem dE_1111 : decode code 1111 = .ok (.aload_n 0, 1) := by decide +kernel
theorem dE_1112 : decode code 1112 = .ok (.iload 4, 2) := by decide +kernel
theorem dE_1114 : decode code 1114 = .ok (.iconst 1, 1) := by decide +kernel
theorem dE_1115 : decode code 1115 = .ok (.iadd, 1) := by decide +kernel
theorem dE_1116 : decode code 1116 = .ok (.iaload, 1) := by decide +kernel
theorem dE_1117 : decode code 1117 = .ok (.aload_n 3, 1) := by decide +kernel
theorem dE_1118 : decode code 1118 = .ok (.invokestatic 145, 3) := by decide +kernel
theorem dE_1121 : decode code 1121 = .ok (.istore 5, 2) := by decide +kernel
theorem dE_1123 : decode code 1123 = .ok (.aload_n 2, 1) := by decide +kernel
theorem dE_1124 : decode code 1124 = .ok (.aload_n 0, 1) := by decide +kernel
theorem dE_1125 : decode code 1125 = .ok (.iload 4, 2) := by decide +kernel
theorem dE_1127 : decode code 1127 = .ok (.iconst 1, 1) := by decide +kernel
theorem dE_1128 : decode code 1128 = .ok (.iadd, 1) := by decide +kernel
theorem dE_1129 : decode code 1129 = .ok (.iaload, 1) := by decide +kernel
theorem dE_1130 : decode code 1130 = .ok (.invokevirtual 147, 3) := by decide +kernel
theorem dE_1133 : decode code 1133 = .ok (.istore 6, 2) := by decide +kernel
theorem dE_1135 : decode code 1135 = .ok (.aload_n 2, 1) := by decide +kernel
theorem dE_1136 : decode code 1136 = .ok (.invokevirtual 89, 3) := by decide +kernel
theorem dE_1139 : decode code 1139 = .ok (.iload 5, 2) := by decide +kernel
theorem dE_1141 : decode code 1141 = .ok (.if_icmp .eq 5, 3) := by decide +kernel
theorem dE_1144 : decode code 1144 = .ok (.iconst 0, 1) := by decide +kernel
theorem dE_1145 : decode code 1145 = .ok (.ireturn, 1) := by decide +kernel
theorem dE_1146 : decode code 1146 = .ok (.iload 5, 2) := by decide +kernel
theorem dE_1148 : decode code 1148 = .ok (.ifCond .ne 15, 3) := by decide +kernel
theorem dE_1151 : decode code 1151 = .ok (.aload_n 3, 1) := by decide +kernel
theorem dE_1152 : decode code 1152 = .ok (.iconst 0, 1) := by decide +kernel
theorem dE_1153 : decode code 1153 = .ok (.laload, 1) := by decide +kernel
theorem dE_1154 : decode code 1154 = .ok (.iload 6, 2) := by decide +kernel
theorem dE_1156 : decode code 1156 = .ok (.i2l, 1) := by decide +kernel
theorem dE_1157 : decode code 1157 = .ok (.lcmp, 1) := by decide +kernel
theorem dE_1158 : decode code 1158 = .ok (.ifCond .eq 5, 3) := by decide +kernel
theorem dE_1161 : decode code 1161 = .ok (.iconst 0, 1) := by decide +kernel
theorem dE_1162 : decode code 1162 = .ok (.ireturn, 1) := by decide +kernel
theorem dE_1163 : decode code 1163 = .ok (.goto 306, 3) := by decide +kernel
theorem dE_1166 : decode code 1166 = .ok (.aload_n 1, 1) := by decide +kernel
theorem dE_1167 : decode code 1167 = .ok (.aload_n 0, 1) := by decide +kernel
theorem dE_1168 : decode code 1168 = .ok (.iload 4, 2) := by decide +kernel
theorem dE_1170 : decode code 1170 = .ok (.iconst 1, 1) := by decide +kernel
theorem dE_1171 : decode code 1171 = .ok (.iadd, 1) := by decide +kernel
theorem dE_1172 : decode code 1172 = .ok (.iaload, 1) := by decide +kernel
theorem dE_1173 : decode code 1173 = .ok (.aload_n 3, 1) := by decide +kernel
theorem dE_1174 : decode code 1174 = .ok (.invokestatic 148, 3) := by decide +kernel
theorem dE_1177 : decode code 1177 = .ok (.istore 5, 2) := by decide +kernel
theorem dE_1179 : decode code 1179 = .ok (.aload_n 2, 1) := by decide +kernel
theorem dE_1180 : decode code 1180 = .ok (.aload_n 0, 1) := by decide +kernel
theorem dE_1181 : decode code 1181 = .ok (.iload 4, 2) := by decide +kernel
theorem dE_1183 : decode code 1183 = .ok (.iconst 1, 1) := by decide +kernel
theorem dE_1184 : decode code 1184 = .ok (.iadd, 1) := by decide +kernel
theorem dE_1185 : decode code 1185 = .ok (.iaload, 1) := by decide +kernel
theorem dE_1186 : decode code 1186 = .ok (.invokevirtual 150, 3) := by decide +kernel
theorem dE_1189 : decode code 1189 = .ok (.istore 6, 2) := by decide +kernel
theorem dE_1191 : decode code 1191 = .ok (.aload_n 2, 1) := by decide +kernel
theorem dE_1192 : decode code 1192 = .ok (.invokevirtual 89, 3) := by decide +kernel
theorem dE_1195 : decode code 1195 = .ok (.iload 5, 2) := by decide +kernel
theorem dE_1197 : decode code 1197 = .ok (.if_icmp .eq 5, 3) := by decide +kernel
theorem dE_1200 : decode code 1200 = .ok (.iconst 0, 1) := by decide +kernel
theorem dE_1201 : decode code 1201 = .ok (.ireturn, 1) := by decide +kernel
theorem dE_1202 : decode code 1202 = .ok (.iload 5, 2) := by decide +kernel
theorem dE_1204 : decode code 1204 = .ok (.ifCond .ne 15, 3) := by decide +kernel
theorem dE_1207 : decode code 1207 = .ok (.aload_n 3, 1) := by decide +kernel
theorem dE_1208 : decode code 1208 = .ok (.iconst 0, 1) := by decide +kernel
theorem dE_1209 : decode code 1209 = .ok (.laload, 1) := by decide +kernel
theorem dE_1210 : decode code 1210 = .ok (.iload 6, 2) := by decide +kernel
theorem dE_1212 : decode code 1212 = .ok (.i2l, 1) := by decide +kernel
theorem dE_1213 : decode code 1213 = .ok (.lcmp, 1) := by decide +kernel
theorem dE_1214 : decode code 1214 = .ok (.ifCond .eq 5, 3) := by decide +kernel
theorem dE_1217 : decode code 1217 = .ok (.iconst 0, 1) := by decide +kernel
theorem dE_1218 : decode code 1218 = .ok (.ireturn, 1) := by decide +kernel
theorem dE_1219 : decode code 1219 = .ok (.goto 250, 3) := by decide +kernel
theorem dE_1222 : decode code 1222 = .ok (.aload_n 1, 1) := by decide +kernel
theorem dE_1223 : decode code 1223 = .ok (.aload_n 0, 1) := by decide +kernel
theorem dE_1224 : decode code 1224 = .ok (.iload 4, 2) := by decide +kernel
theorem dE_1226 : decode code 1226 = .ok (.iconst 1, 1) := by decide +kernel
theorem dE_1227 : decode code 1227 = .ok (.iadd, 1) := by decide +kernel
theorem dE_1228 : decode code 1228 = .ok (.iaload, 1) := by decide +kernel
theorem dE_1229 : decode code 1229 = .ok (.aload_n 0, 1) := by decide +kernel
theorem dE_1230 : decode code 1230 = .ok (.iload 4, 2) := by decide +kernel
theorem dE_1232 : decode code 1232 = .ok (.iconst 2, 1) := by decide +kernel
theorem dE_1233 : decode code 1233 = .ok (.iadd, 1) := by decide +kernel
theorem dE_1234 : decode code 1234 = .ok (.iaload, 1) := by decide +kernel
theorem dE_1235 : decode code 1235 = .ok (.aload_n 0, 1) := by decide +kernel
theorem dE_1236 : decode code 1236 = .ok (.iload 4, 2) := by decide +kernel
theorem dE_1238 : decode code 1238 = .ok (.iconst 3, 1) := by decide +kernel
theorem dE_1239 : decode code 1239 = .ok (.iadd, 1) := by decide +kernel
theorem dE_1240 : decode code 1240 = .ok (.iaload, 1) := by decide +kernel
theorem dE_1241 : decode code 1241 = .ok (.aload_n 3, 1) := by decide +kernel
theorem dE_1242 : decode code 1242 = .ok (.invokestatic 151, 3) := by decide +kernel
theorem dE_1245 : decode code 1245 = .ok (.istore 5, 2) := by decide +kernel
theorem dE_1247 : decode code 1247 = .ok (.aload_n 2, 1) := by decide +kernel
theorem dE_1248 : decode code 1248 = .ok (.aload_n 0, 1) := by decide +kernel
theorem dE_1249 : decode code 1249 = .ok (.iload 4, 2) := by decide +kernel
theorem dE_1251 : decode code 1251 = .ok (.iconst 1, 1) := by decide +kernel
theorem dE_1252 : decode code 1252 = .ok (.iadd, 1) := by decide +kernel
theorem dE_1253 : decode code 1253 = .ok (.iaload, 1) := by decide +kernel
theorem dE_1254 : decode code 1254 = .ok (.aload_n 0, 1) := by decide +kernel
theorem dE_1255 : decode code 1255 = .ok (.iload 4, 2) := by decide +kernel
theorem dE_1257 : decode code 1257 = .ok (.iconst 2, 1) := by decide +kernel
theorem dE_1258 : decode code 1258 = .ok (.iadd, 1) := by decide +kernel
theorem dE_1259 : decode code 1259 = .ok (.iaload, 1) := by decide +kernel
theorem dE_1260 : decode code 1260 = .ok (.aload_n 0, 1) := by decide +kernel
theorem dE_1261 : decode code 1261 = .ok (.iload 4, 2) := by decide +kernel
theorem dE_1263 : decode code 1263 = .ok (.iconst 3, 1) := by decide +kernel
theorem dE_1264 : decode code 1264 = .ok (.iadd, 1) := by decide +kernel
theorem dE_1265 : decode code 1265 = .ok (.iaload, 1) := by decide +kernel
theorem dE_1266 : decode code 1266 = .ok (.invokevirtual 153, 3) := by decide +kernel
theorem dE_1269 : decode code 1269 = .ok (.istore 6, 2) := by decide +kernel
theorem dE_1271 : decode code 1271 = .ok (.aload_n 2, 1) := by decide +kernel
theorem dE_1272 : decode code 1272 = .ok (.invokevirtual 89, 3) := by decide +kernel
theorem dE_1275 : decode code 1275 = .ok (.iload 5, 2) := by decide +kernel
theorem dE_1277 : decode code 1277 = .ok (.if_icmp .eq 5, 3) := by decide +kernel
theorem dE_1280 : decode code 1280 = .ok (.iconst 0, 1) := by decide +kernel
theorem dE_1281 : decode code 1281 = .ok (.ireturn, 1) := by decide +kernel
theorem dE_1282 : decode code 1282 = .ok (.iload 5, 2) := by decide +kernel
theorem dE_1284 : decode code 1284 = .ok (.ifCond .ne 15, 3) := by decide +kernel
theorem dE_1287 : decode code 1287 = .ok (.aload_n 3, 1) := by decide +kernel
theorem dE_1288 : decode code 1288 = .ok (.iconst 0, 1) := by decide +kernel
theorem dE_1289 : decode code 1289 = .ok (.laload, 1) := by decide +kernel
theorem dE_1290 : decode code 1290 = .ok (.iload 6, 2) := by decide +kernel
theorem dE_1292 : decode code 1292 = .ok (.i2l, 1) := by decide +kernel
theorem dE_1293 : decode code 1293 = .ok (.lcmp, 1) := by decide +kernel
theorem dE_1294 : decode code 1294 = .ok (.ifCond .eq 5, 3) := by decide +kernel
theorem dE_1297 : decode code 1297 = .ok (.iconst 0, 1) := by decide +kernel
theorem dE_1298 : decode code 1298 = .ok (.ireturn, 1) := by decide +kernel
theorem dE_1299 : decode code 1299 = .ok (.goto 170, 3) := by decide +kernel
theorem dE_1302 : decode code 1302 = .ok (.aload_n 1, 1) := by decide +kernel
theorem dE_1303 : decode code 1303 = .ok (.aload_n 0, 1) := by decide +kernel
theorem dE_1304 : decode code 1304 = .ok (.iload 4, 2) := by decide +kernel
theorem dE_1306 : decode code 1306 = .ok (.iconst 1, 1) := by decide +kernel
theorem dE_1307 : decode code 1307 = .ok (.iadd, 1) := by decide +kernel
theorem dE_1308 : decode code 1308 = .ok (.iaload, 1) := by decide +kernel
theorem dE_1309 : decode code 1309 = .ok (.aload_n 3, 1) := by decide +kernel
theorem dE_1310 : decode code 1310 = .ok (.invokestatic 154, 3) := by decide +kernel
theorem dE_1313 : decode code 1313 = .ok (.istore 5, 2) := by decide +kernel
theorem dE_1315 : decode code 1315 = .ok (.aload_n 2, 1) := by decide +kernel
theorem dE_1316 : decode code 1316 = .ok (.aload_n 0, 1) := by decide +kernel
theorem dE_1317 : decode code 1317 = .ok (.iload 4, 2) := by decide +kernel
theorem dE_1319 : decode code 1319 = .ok (.iconst 1, 1) := by decide +kernel
theorem dE_1320 : decode code 1320 = .ok (.iadd, 1) := by decide +kernel
theorem dE_1321 : decode code 1321 = .ok (.iaload, 1) := by decide +kernel
theorem dE_1322 : decode code 1322 = .ok (.invokevirtual 156, 3) := by decide +kernel
theorem dE_1325 : decode code 1325 = .ok (.istore 6, 2) := by decide +kernel
theorem dE_1327 : decode code 1327 = .ok (.aload_n 2, 1) := by decide +kernel
theorem dE_1328 : decode code 1328 = .ok (.invokevirtual 89, 3) := by decide +kernel
theorem dE_1331 : decode code 1331 = .ok (.iload 5, 2) := by decide +kernel
theorem dE_1333 : decode code 1333 = .ok (.if_icmp .eq 5, 3) := by decide +kernel
theorem dE_1336 : decode code 1336 = .ok (.iconst 0, 1) := by decide +kernel
theorem dE_1337 : decode code 1337 = .ok (.ireturn, 1) := by decide +kernel
theorem dE_1338 : decode code 1338 = .ok (.iload 5, 2) := by decide +kernel
theorem dE_1340 : decode code 1340 = .ok (.ifCond .ne 15, 3) := by decide +kernel
theorem dE_1343 : decode code 1343 = .ok (.aload_n 3, 1) := by decide +kernel
theorem dE_1344 : decode code 1344 = .ok (.iconst 0, 1) := by decide +kernel
theorem dE_1345 : decode code 1345 = .ok (.laload, 1) := by decide +kernel
theorem dE_1346 : decode code 1346 = .ok (.iload 6, 2) := by decide +kernel
theorem dE_1348 : decode code 1348 = .ok (.i2l, 1) := by decide +kernel
theorem dE_1349 : decode code 1349 = .ok (.lcmp, 1) := by decide +kernel
theorem dE_1350 : decode code 1350 = .ok (.ifCond .eq 5, 3) := by decide +kernel
theorem dE_1353 : decode code 1353 = .ok (.iconst 0, 1) := by decide +kernel
theorem dE_1354 : decode code 1354 = .ok (.ireturn, 1) := by decide +kernel
theorem dE_1355 : decode code 1355 = .ok (.goto 114, 3) := by decide +kernel
theorem dE_1358 : decode code 1358 = .ok (.aload_n 1, 1) := by decide +kernel
theorem dE_1359 : decode code 1359 = .ok (.aload_n 0, 1) := by decide +kernel
theorem dE_1360 : decode code 1360 = .ok (.iload 4, 2) := by decide +kernel
theorem dE_1362 : decode code 1362 = .ok (.iconst 1, 1) := by decide +kernel
theorem dE_1363 : decode code 1363 = .ok (.iadd, 1) := by decide +kernel
theorem dE_1364 : decode code 1364 = .ok (.iaload, 1) := by decide +kernel
theorem dE_1365 : decode code 1365 = .ok (.aload_n 3, 1) := by decide +kernel
theorem dE_1366 : decode code 1366 = .ok (.invokestatic 157, 3) := by decide +kernel
theorem dE_1369 : decode code 1369 = .ok (.istore 5, 2) := by decide +kernel
theorem dE_1371 : decode code 1371 = .ok (.aload_n 2, 1) := by decide +kernel
theorem dE_1372 : decode code 1372 = .ok (.aload_n 0, 1) := by decide +kernel
theorem dE_1373 : decode code 1373 = .ok (.iload 4, 2) := by decide +kernel
theorem dE_1375 : decode code 1375 = .ok (.iconst 1, 1) := by decide +kernel
theorem dE_1376 : decode code 1376 = .ok (.iadd, 1) := by decide +kernel
theorem dE_1377 : decode code 1377 = .ok (.iaload, 1) := by decide +kernel
theorem dE_1378 : decode code 1378 = .ok (.invokevirtual 159, 3) := by decide +kernel
theorem dE_1381 : decode code 1381 = .ok (.istore 6, 2) := by decide +kernel
theorem dE_1383 : decode code 1383 = .ok (.aload_n 2, 1) := by decide +kernel
theorem dE_1384 : decode code 1384 = .ok (.invokevirtual 89, 3) := by decide +kernel
theorem dE_1387 : decode code 1387 = .ok (.iload 5, 2) := by decide +kernel
theorem dE_1389 : decode code 1389 = .ok (.if_icmp .eq 5, 3) := by decide +kernel
theorem dE_1392 : decode code 1392 = .ok (.iconst 0, 1) := by decide +kernel
theorem dE_1393 : decode code 1393 = .ok (.ireturn, 1) := by decide +kernel
theorem dE_1394 : decode code 1394 = .ok (.iload 5, 2) := by decide +kernel
theorem dE_1396 : decode code 1396 = .ok (.ifCond .ne 15, 3) := by decide +kernel
theorem dE_1399 : decode code 1399 = .ok (.aload_n 3, 1) := by decide +kernel
theorem dE_1400 : decode code 1400 = .ok (.iconst 0, 1) := by decide +kernel
theorem dE_1401 : decode code 1401 = .ok (.laload, 1) := by decide +kernel
theorem dE_1402 : decode code 1402 = .ok (.iload 6, 2) := by decide +kernel
theorem dE_1404 : decode code 1404 = .ok (.i2l, 1) := by decide +kernel
theorem dE_1405 : decode code 1405 = .ok (.lcmp, 1) := by decide +kernel
theorem dE_1406 : decode code 1406 = .ok (.ifCond .eq 5, 3) := by decide +kernel
theorem dE_1409 : decode code 1409 = .ok (.iconst 0, 1) := by decide +kernel
theorem dE_1410 : decode code 1410 = .ok (.ireturn, 1) := by decide +kernel
theorem dE_1411 : decode code 1411 = .ok (.goto 58, 3) := by decide +kernel
theorem dE_1414 : decode code 1414 = .ok (.aload_n 1, 1) := by decide +kernel
theorem dE_1415 : decode code 1415 = .ok (.invokevirtual 160, 3) := by decide +kernel
theorem dE_1418 : decode code 1418 = .ok (.dstore 5, 2) := by decide +kernel
theorem dE_1420 : decode code 1420 = .ok (.aload_n 2, 1) := by decide +kernel
theorem dE_1421 : decode code 1421 = .ok (.invokevirtual 164, 3) := by decide +kernel
theorem dE_1424 : decode code 1424 = .ok (.dstore 7, 2) := by decide +kernel
theorem dE_1426 : decode code 1426 = .ok (.dload 5, 2) := by decide +kernel
theorem dE_1428 : decode code 1428 = .ok (.dload 7, 2) := by decide +kernel
theorem dE_1430 : decode code 1430 = .ok (.dcmp .l, 1) := by decide +kernel
theorem dE_1431 : decode code 1431 = .ok (.ifCond .eq 21, 3) := by decide +kernel
theorem dE_1434 : decode code 1434 = .ok (.dload 5, 2) := by decide +kernel
theorem dE_1436 : decode code 1436 = .ok (.dload 5, 2) := by decide +kernel
theorem dE_1438 : decode code 1438 = .ok (.dcmp .l, 1) := by decide +kernel
theorem dE_1439 : decode code 1439 = .ok (.ifCond .eq 11, 3) := by decide +kernel
theorem dE_1442 : decode code 1442 = .ok (.dload 7, 2) := by decide +kernel
theorem dE_1444 : decode code 1444 = .ok (.dload 7, 2) := by decide +kernel
theorem dE_1446 : decode code 1446 = .ok (.dcmp .l, 1) := by decide +kernel
theorem dE_1447 : decode code 1447 = .ok (.ifCond .ne 5, 3) := by decide +kernel
theorem dE_1450 : decode code 1450 = .ok (.iconst 0, 1) := by decide +kernel
theorem dE_1451 : decode code 1451 = .ok (.ireturn, 1) := by decide +kernel
theorem dE_1452 : decode code 1452 = .ok (.goto 17, 3) := by decide +kernel
theorem dE_1455 : decode code 1455 = .ok (.aload_n 1, 1) := by decide +kernel
theorem dE_1456 : decode code 1456 = .ok (.invokevirtual 165, 3) := by decide +kernel
theorem dE_1459 : decode code 1459 = .ok (.aload_n 2, 1) := by decide +kernel
theorem dE_1460 : decode code 1460 = .ok (.invokevirtual 169, 3) := by decide +kernel
theorem dE_1463 : decode code 1463 = .ok (.lcmp, 1) := by decide +kernel
theorem dE_1464 : decode code 1464 = .ok (.ifCond .eq 5, 3) := by decide +kernel
theorem dE_1467 : decode code 1467 = .ok (.iconst 0, 1) := by decide +kernel
theorem dE_1468 : decode code 1468 = .ok (.ireturn, 1) := by decide +kernel
theorem dE_1469 : decode code 1469 = .ok (.iinc 4 4, 3) := by decide +kernel
theorem dE_1472 : decode code 1472 = .ok (.goto (-1449), 3) := by decide +kernel
theorem dE_1475 : decode code 1475 = .ok (.iconst 1, 1) := by decide +kernel
theorem dE_1476 : decode code 1476 = .ok (.ireturn, 1) := by decide +kernel
