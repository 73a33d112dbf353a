theorem dX12_init_181 : decode cX12_init 181 = .ok (.sipush 200, 3) := by decide +kernel
theorem dX12_init_184 : decode cX12_init 184 = .ok (.newarray .boolean, 2) := by decide +kernel
theorem dX12_init_186 : decode cX12_init 186 = .ok (.putfield 73, 3) := by decide +kernel
theorem dX12_init_189 : decode cX12_init 189 = .ok (.aload_n 0, 1) := by decide +kernel
theorem dX12_init_190 : decode cX12_init 190 = .ok (.sipush 200, 3) := by decide +kernel
theorem dX12_init_193 : decode cX12_init 193 = .ok (.newarray .boolean, 2) := by decide +kernel
theorem dX12_init_195 : decode cX12_init 195 = .ok (.putfield 77, 3) := by decide +kernel
theorem dX12_init_198 : decode cX12_init 198 = .ok (.aload_n 0, 1) := by decide +kernel
theorem dX12_init_199 : decode cX12_init 199 = .ok (.sipush 6000, 3) := by decide +kernel
theorem dX12_init_202 : decode cX12_init 202 = .ok (.newarray .int, 2) := by decide +kernel
theorem dX12_init_204 : decode cX12_init 204 = .ok (.putfield 80, 3) := by decide +kernel
theorem dX12_init_207 : decode cX12_init 207 = .ok (.aload_n 0, 1) := by decide +kernel
theorem dX12_init_208 : decode cX12_init 208 = .ok (.sipush 6000, 3) := by decide +kernel
theorem dX12_init_211 : decode cX12_init 211 = .ok (.newarray .int, 2) := by decide +kernel
theorem dX12_init_213 : decode cX12_init 213 = .ok (.putfield 83, 3) := by decide +kernel
theorem dX12_init_216 : decode cX12_init 216 = .ok (.aload_n 0, 1) := by decide +kernel
theorem dX12_init_217 : decode cX12_init 217 = .ok (.sipush 6000, 3) := by decide +kernel
theorem dX12_init_220 : decode cX12_init 220 = .ok (.newarray .int, 2) := by decide +kernel
theorem dX12_init_222 : decode cX12_init 222 = .ok (.putfield 86, 3) := by decide +kernel
theorem dX12_init_225 : decode cX12_init 225 = .ok (.aload_n 0, 1) := by decide +kernel
theorem dX12_init_226 : decode cX12_init 226 = .ok (.sipush 200, 3) := by decide +kernel
theorem dX12_init_229 : decode cX12_init 229 = .ok (.newarray .int, 2) := by decide +kernel
theorem dX12_init_231 : decode cX12_init 231 = .ok (.putfield 89, 3) := by decide +kernel
theorem dX12_init_234 : decode cX12_init 234 = .ok (.aload_n 0, 1) := by decide +kernel
theorem dX12_init_235 : decode cX12_init 235 = .ok (.sipush 200, 3) := by decide +kernel
theorem dX12_init_238 : decode cX12_init 238 = .ok (.newarray .int, 2) := by decide +kernel
theorem dX12_init_240 : decode cX12_init 240 = .ok (.putfield 92, 3) := by decide +kernel
theorem dX12_init_243 : decode cX12_init 243 = .ok (.aload_n 0, 1) := by decide +kernel
theorem dX12_init_244 : decode cX12_init 244 = .ok (.sipush 200, 3) := by decide +kernel
theorem dX12_init_247 : decode cX12_init 247 = .ok (.newarray .int, 2) := by decide +kernel
theorem dX12_init_249 : decode cX12_init 249 = .ok (.putfield 95, 3) := by decide +kernel
theorem dX12_init_252 : decode cX12_init 252 = .ok (.aload_n 0, 1) := by decide +kernel
theorem dX12_init_253 : decode cX12_init 253 = .ok (.sipush 200, 3) := by decide +kernel
theorem dX12_init_256 : decode cX12_init 256 = .ok (.newarray .int, 2) := by decide +kernel
theorem dX12_init_258 : decode cX12_init 258 = .ok (.putfield 98, 3) := by decide +kernel
theorem dX12_init_261 : decode cX12_init 261 = .ok (.aload_n 0, 1) := by decide +kernel
theorem dX12_init_262 : decode cX12_init 262 = .ok (.sipush 200, 3) := by decide +kernel
theorem dX12_init_265 : decode cX12_init 265 = .ok (.newarray .int, 2) := by decide +kernel
theorem dX12_init_267 : decode cX12_init 267 = .ok (.putfield 101, 3) := by decide +kernel
theorem dX12_init_270 : decode cX12_init 270 = .ok (.aload_n 0, 1) := by decide +kernel
theorem dX12_init_271 : decode cX12_init 271 = .ok (.sipush 200, 3) := by decide +kernel
theorem dX12_init_274 : decode cX12_init 274 = .ok (.newarray .int, 2) := by decide +kernel
theorem dX12_init_276 : decode cX12_init 276 = .ok (.putfield 104, 3) := by decide +kernel
theorem dX12_init_279 : decode cX12_init 279 = .ok (.aload_n 0, 1) := by decide +kernel
theorem dX12_init_280 : decode cX12_init 280 = .ok (.sipush 200, 3) := by decide +kernel
theorem dX12_init_283 : decode cX12_init 283 = .ok (.newarray .int, 2) := by decide +kernel
theorem dX12_init_285 : decode cX12_init 285 = .ok (.putfield 107, 3) := by decide +kernel
theorem dX12_init_288 : decode cX12_init 288 = .ok (.aload_n 0, 1) := by decide +kernel
theorem dX12_init_289 : decode cX12_init 289 = .ok (.bipush 10, 2) := by decide +kernel
theorem dX12_init_291 : decode cX12_init 291 = .ok (.newarray .int, 2) := by decide +kernel
theorem dX12_init_293 : decode cX12_init 293 = .ok (.putfield 110, 3) := by decide +kernel
theorem dX12_init_296 : decode cX12_init 296 = .ok (.aload_n 0, 1) := by decide +kernel
theorem dX12_init_297 : decode cX12_init 297 = .ok (.bipush 10, 2) := by decide +kernel
theorem dX12_init_299 : decode cX12_init 299 = .ok (.newarray .int, 2) := by decide +kernel
theorem dX12_init_301 : decode cX12_init 301 = .ok (.putfield 113, 3) := by decide +kernel
theorem dX12_init_304 : decode cX12_init 304 = .ok (.aload_n 0, 1) := by decide +kernel
theorem dX12_init_305 : decode cX12_init 305 = .ok (.bipush 10, 2) := by decide +kernel
theorem dX12_init_307 : decode cX12_init 307 = .ok (.newarray .int, 2) := by decide +kernel
theorem dX12_init_309 : decode cX12_init 309 = .ok (.putfield 116, 3) := by decide +kernel
theorem dX12_init_312 : decode cX12_init 312 = .ok (.aload_n 0, 1) := by decide +kernel
theorem dX12_init_313 : decode cX12_init 313 = .ok (.bipush 14, 2) := by decide +kernel
theorem dX12_init_315 : decode cX12_init 315 = .ok (.putfield 119, 3) := by decide +kernel
theorem dX12_init_318 : decode cX12_init 318 = .ok (.aload_n 0, 1) := by decide +kernel
theorem dX12_init_319 : decode cX12_init 319 = .ok (.bipush 100, 2) := by decide +kernel
theorem dX12_init_321 : decode cX12_init 321 = .ok (.putfield 123, 3) := by decide +kernel
theorem dX12_init_324 : decode cX12_init 324 = .ok (.aload_n 0, 1) := by decide +kernel
theorem dX12_init_325 : decode cX12_init 325 = .ok (.sipush 2400, 3) := by decide +kernel
theorem dX12_init_328 : decode cX12_init 328 = .ok (.newarray .int, 2) := by decide +kernel
theorem dX12_init_330 : decode cX12_init 330 = .ok (.putfield 126, 3) := by decide +kernel
theorem dX12_init_333 : decode cX12_init 333 = .ok (.aload_n 0, 1) := by decide +kernel
theorem dX12_init_334 : decode cX12_init 334 = .ok (.sipush 2400, 3) := by decide +kernel
theorem dX12_init_337 : decode cX12_init 337 = .ok (.newarray .int, 2) := by decide +kernel
theorem dX12_init_339 : decode cX12_init 339 = .ok (.putfield 129, 3) := by decide +kernel
theorem dX12_init_342 : decode cX12_init 342 = .ok (.aload_n 0, 1) := by decide +kernel
theorem dX12_init_343 : decode cX12_init 343 = .ok (.sipush 200, 3) := by decide +kernel
theorem dX12_init_346 : decode cX12_init 346 = .ok (.newarray .int, 2) := by decide +kernel
theorem dX12_init_348 : decode cX12_init 348 = .ok (.putfield 132, 3) := by decide +kernel
theorem dX12_init_351 : decode cX12_init 351 = .ok (.aload_n 0, 1) := by decide +kernel
theorem dX12_init_352 : decode cX12_init 352 = .ok (.bipush 10, 2) := by decide +kernel
theorem dX12_init_354 : decode cX12_init 354 = .ok (.newarray .int, 2) := by decide +kernel
theorem dX12_init_356 : decode cX12_init 356 = .ok (.putfield 135, 3) := by decide +kernel
theorem dX12_init_359 : decode cX12_init 359 = .ok (.aload_n 0, 1) := by decide +kernel
theorem dX12_init_360 : decode cX12_init 360 = .ok (.bipush 7, 2) := by decide +kernel
theorem dX12_init_362 : decode cX12_init 362 = .ok (.newarray .int, 2) := by decide +kernel
theorem dX12_init_364 : decode cX12_init 364 = .ok (.putfield 138, 3) := by decide +kernel
theorem dX12_init_367 : decode cX12_init 367 = .ok (.aload_n 0, 1) := by decide +kernel
theorem dX12_init_368 : decode cX12_init 368 = .ok (.sipush 160, 3) := by decide +kernel
theorem dX12_init_371 : decode cX12_init 371 = .ok (.newarray .int, 2) := by decide +kernel
theorem dX12_init_373 : decode cX12_init 373 = .ok (.putfield 141, 3) := by decide +kernel
theorem dX12_init_376 : decode cX12_init 376 = .ok (.aload_n 0, 1) := by decide +kernel
theorem dX12_init_377 : decode cX12_init 377 = .ok (.sipush 3200, 3) := by decide +kernel
theorem dX12_init_380 : decode cX12_init 380 = .ok (.newarray .int, 2) := by decide +kernel
theorem dX12_init_382 : decode cX12_init 382 = .ok (.putfield 144, 3) := by decide +kernel
theorem dX12_init_385 : decode cX12_init 385 = .ok (.aload_n 0, 1) := by decide +kernel
theorem dX12_init_386 : decode cX12_init 386 = .ok (.bipush 20, 2) := by decide +kernel
theorem dX12_init_388 : decode cX12_init 388 = .ok (.newarray .int, 2) := by decide +kernel
theorem dX12_init_390 : decode cX12_init 390 = .ok (.putfield 147, 3) := by decide +kernel
theorem dX12_init_393 : decode cX12_init 393 = .ok (.aload_n 0, 1) := by decide +kernel
theorem dX12_init_394 : decode cX12_init 394 = .ok (.bipush 20, 2) := by decide +kernel
theorem dX12_init_396 : decode cX12_init 396 = .ok (.newarray .int, 2) := by decide +kernel
theorem dX12_init_398 : decode cX12_init 398 = .ok (.putfield 150, 3) := by decide +kernel
theorem dX12_init_401 : decode cX12_init 401 = .ok (.aload_n 0, 1) := by decide +kernel
theorem dX12_init_402 : decode cX12_init 402 = .ok (.bipush 20, 2) := by decide +kernel
theorem dX12_init_404 : decode cX12_init 404 = .ok (.newarray .int, 2) := by decide +kernel
theorem dX12_init_406 : decode cX12_init 406 = .ok (.putfield 153, 3) := by decide +kernel
theorem dX12_init_409 : decode cX12_init 409 = .ok (.aload_n 0, 1) := by decide +kernel
theorem dX12_init_410 : decode cX12_init 410 = .ok (.iconst 2, 1) := by decide +kernel
theorem dX12_init_411 : decode cX12_init 411 = .ok (.newarray .int, 2) := by decide +kernel
theorem dX12_init_413 : decode cX12_init 413 = .ok (.putfield 156, 3) := by decide +kernel
theorem dX12_init_416 : decode cX12_init 416 = .ok (.aload_n 0, 1) := by decide +kernel
theorem dX12_init_417 : decode cX12_init 417 = .ok (.iconst 1, 1) := by decide +kernel
theorem dX12_init_418 : decode cX12_init 418 = .ok (.putfield 159, 3) := by decide +kernel
theorem dX12_init_421 : decode cX12_init 421 = .ok (.aload_n 0, 1) := by decide +kernel
theorem dX12_init_422 : decode cX12_init 422 = .ok (.bipush 40, 2) := by decide +kernel
theorem dX12_init_424 : decode cX12_init 424 = .ok (.newarray .boolean, 2) := by decide +kernel
theorem dX12_init_426 : decode cX12_init 426 = .ok (.putfield 162, 3) := by decide +kernel
theorem dX12_init_429 : decode cX12_init 429 = .ok (.aload_n 0, 1) := by decide +kernel
theorem dX12_init_430 : decode cX12_init 430 = .ok (.bipush 7, 2) := by decide +kernel
theorem dX12_init_432 : decode cX12_init 432 = .ok (.newarray .int, 2) := by decide +kernel
theorem dX12_init_434 : decode cX12_init 434 = .ok (.putfield 165, 3) := by decide +kernel
theorem dX12_init_437 : decode cX12_init 437 = .ok (.aload_n 0, 1) := by decide +kernel
theorem dX12_init_438 : decode cX12_init 438 = .ok (.bipush 7, 2) := by decide +kernel
theorem dX12_init_440 : decode cX12_init 440 = .ok (.newarray .int, 2) := by decide +kernel
theorem dX12_init_442 : decode cX12_init 442 = .ok (.putfield 168, 3) := by decide +kernel
theorem dX12_init_445 : decode cX12_init 445 = .ok (.aload_n 0, 1) := by decide +kernel
theorem dX12_init_446 : decode cX12_init 446 = .ok (.bipush 9, 2) := by decide +kernel
theorem dX12_init_448 : decode cX12_init 448 = .ok (.newarray .int, 2) := by decide +kernel
theorem dX12_init_450 : decode cX12_init 450 = .ok (.putfield 171, 3) := by decide +kernel
theorem dX12_init_453 : decode cX12_init 453 = .ok (.aload_n 0, 1) := by decide +kernel
theorem dX12_init_454 : decode cX12_init 454 = .ok (.iconst 5, 1) := by decide +kernel
theorem dX12_init_455 : decode cX12_init 455 = .ok (.newarray .int, 2) := by decide +kernel
theorem dX12_init_457 : decode cX12_init 457 = .ok (.putfield 174, 3) := by decide +kernel
theorem dX12_init_460 : decode cX12_init 460 = .ok (.iconst 0, 1) := by decide +kernel
theorem dX12_init_461 : decode cX12_init 461 = .ok (.istore_n 1, 1) := by decide +kernel
theorem dX12_init_462 : decode cX12_init 462 = .ok (.iload_n 1, 1) := by decide +kernel
theorem dX12_init_463 : decode cX12_init 463 = .ok (.bipush 10, 2) := by decide +kernel
theorem dX12_init_465 : decode cX12_init 465 = .ok (.if_icmp .ge 16, 3) := by decide +kernel
theorem dX12_init_468 : decode cX12_init 468 = .ok (.aload_n 0, 1) := by decide +kernel
theorem dX12_init_469 : decode cX12_init 469 = .ok (.getfield 135, 3) := by decide +kernel
theorem dX12_init_472 : decode cX12_init 472 = .ok (.iload_n 1, 1) := by decide +kernel
theorem dX12_init_473 : decode cX12_init 473 = .ok (.iconst 1, 1) := by decide +kernel
theorem dX12_init_474 : decode cX12_init 474 = .ok (.iastore, 1) := by decide +kernel
theorem dX12_init_475 : decode cX12_init 475 = .ok (.iinc 1 1, 3) := by decide +kernel
theorem dX12_init_478 : decode cX12_init 478 = .ok (.goto (-16), 3) := by decide +kernel
theorem dX12_init_481 : decode cX12_init 481 = .ok (.return_, 1) := by decide +kernel
theorem dX12_within_0 : decode cX12_within 0 = .ok (.iload_n 0, 1) := by decide +kernel
theorem dX12_within_1 : decode cX12_within 1 = .ok (.iload_n 1, 1) := by decide +kernel
theorem dX12_within_2 : decode cX12_within 2 = .ok (.if_icmp .lt 12, 3) := by decide +kernel
theorem dX12_within_5 : decode cX12_within 5 = .ok (.iload_n 0, 1) := by decide +kernel
theorem dX12_within_6 : decode cX12_within 6 = .ok (.iload_n 2, 1) := by decide +kernel
theorem dX12_within_7 : decode cX12_within 7 = .ok (.if_icmp .gt 7, 3) := by decide +kernel
theorem dX12_within_10 : decode cX12_within 10 = .ok (.iconst 1, 1) := by decide +kernel
theorem dX12_within_11 : decode cX12_within 11 = .ok (.goto 4, 3) := by decide +kernel
theorem dX12_within_14 : decode cX12_within 14 = .ok (.iconst 0, 1) := by decide +kernel
theorem dX12_within_15 : decode cX12_within 15 = .ok (.ireturn, 1) := by decide +kernel
theorem dX12_isDay_0 : decode cX12_isDay 0 = .ok (.iload_n 0, 1) := by decide +kernel
theorem dX12_isDay_1 : decode cX12_isDay 1 = .ok (.iconst 0, 1) := by decide +kernel
theorem dX12_isDay_2 : decode cX12_isDay 2 = .ok (.sipush 9999, 3) := by decide +kernel
theorem dX12_isDay_5 : decode cX12_isDay 5 = .ok (.invokestatic 177, 3) := by decide +kernel
theorem dX12_isDay_8 : decode cX12_isDay 8 = .ok (.ireturn, 1) := by decide +kernel
theorem dX12_isHome_0 : decode cX12_isHome 0 = .ok (.iload_n 1, 1) := by decide +kernel
theorem dX12_isHome_1 : decode cX12_isHome 1 = .ok (.ifCond .lt 15, 3) := by decide +kernel
theorem dX12_isHome_4 : decode cX12_isHome 4 = .ok (.iload_n 1, 1) := by decide +kernel
theorem dX12_isHome_5 : decode cX12_isHome 5 = .ok (.aload_n 0, 1) := by decide +kernel
theorem dX12_isHome_6 : decode cX12_isHome 6 = .ok (.getfield 181, 3) := by decide +kernel
theorem dX12_isHome_9 : decode cX12_isHome 9 = .ok (.if_icmp .ge 7, 3) := by decide +kernel
theorem dX12_isHome_12 : decode cX12_isHome 12 = .ok (.iconst 1, 1) := by decide +kernel
theorem dX12_isHome_13 : decode cX12_isHome 13 = .ok (.goto 4, 3) := by decide +kernel
theorem dX12_isHome_16 : decode cX12_isHome 16 = .ok (.iconst 0, 1) := by decide +kernel
theorem dX12_isHome_17 : decode cX12_isHome 17 = .ok (.ireturn, 1) := by decide +kernel
theorem dX12_isKind_0 : decode cX12_isKind 0 = .ok (.iload_n 1, 1) := by decide +kernel
theorem dX12_isKind_1 : decode cX12_isKind 1 = .ok (.ifCond .lt 15, 3) := by decide +kernel
theorem dX12_isKind_4 : decode cX12_isKind 4 = .ok (.iload_n 1, 1) := by decide +kernel
theorem dX12_isKind_5 : decode cX12_isKind 5 = .ok (.aload_n 0, 1) := by decide +kernel
theorem dX12_isKind_6 : decode cX12_isKind 6 = .ok (.getfield 184, 3) := by decide +kernel
theorem dX12_isKind_9 : decode cX12_isKind 9 = .ok (.if_icmp .ge 7, 3) := by decide +kernel
theorem dX12_isKind_12 : decode cX12_isKind 12 = .ok (.iconst 1, 1) := by decide +kernel
theorem dX12_isKind_13 : decode cX12_isKind 13 = .ok (.goto 4, 3) := by decide +kernel
theorem dX12_isKind_16 : decode cX12_isKind 16 = .ok (.iconst 0, 1) := by decide +kernel
theorem dX12_isKind_17 : decode cX12_isKind 17 = .ok (.ireturn, 1) := by decide +kernel
theorem dX12_isFault_0 : decode cX12_isFault 0 = .ok (.iload_n 1, 1) := by decide +kernel
theorem dX12_isFault_1 : decode cX12_isFault 1 = .ok (.ifCond .lt 15, 3) := by decide +kernel
theorem dX12_isFault_4 : decode cX12_isFault 4 = .ok (.iload_n 1, 1) := by decide +kernel
theorem dX12_isFault_5 : decode cX12_isFault 5 = .ok (.aload_n 0, 1) := by decide +kernel
theorem dX12_isFault_6 : decode cX12_isFault 6 = .ok (.getfield 187, 3) := by decide +kernel
theorem dX12_isFault_9 : decode cX12_isFault 9 = .ok (.if_icmp .ge 7, 3) := by decide +kernel
theorem dX12_isFault_12 : decode cX12_isFault 12 = .ok (.iconst 1, 1) := by decide +kernel
theorem dX12_isFault_13 : decode cX12_isFault 13 = .ok (.goto 4, 3) := by decide +kernel
theorem dX12_isFault_16 : decode cX12_isFault 16 = .ok (.iconst 0, 1) := by decide +kernel
theorem dX12_isFault_17 : decode cX12_isFault 17 = .ok (.ireturn, 1) := by decide +kernel
theorem dX12_isCrew_0 : decode cX12_isCrew 0 = .ok (.iload_n 0, 1) := by decide +kernel
theorem dX12_isCrew_1 : decode cX12_isCrew 1 = .ok (.iconst 0, 1) := by decide +kernel
theorem dX12_isCrew_2 : decode cX12_isCrew 2 = .ok (.bipush 9, 2) := by decide +kernel
theorem dX12_isCrew_4 : decode cX12_isCrew 4 = .ok (.invokestatic 177, 3) := by decide +kernel
theorem dX12_isCrew_7 : decode cX12_isCrew 7 = .ok (.ireturn, 1) := by decide +kernel
theorem dX12_isTrade_0 : decode cX12_isTrade 0 = .ok (.iload_n 0, 1) := by decide +kernel
theorem dX12_isTrade_1 : decode cX12_isTrade 1 = .ok (.iconst 0, 1) := by decide +kernel
theorem dX12_isTrade_2 : decode cX12_isTrade 2 = .ok (.bipush 9, 2) := by decide +kernel
theorem dX12_isTrade_4 : decode cX12_isTrade 4 = .ok (.invokestatic 177, 3) := by decide +kernel
theorem dX12_isTrade_7 : decode cX12_isTrade 7 = .ok (.ireturn, 1) := by decide +kernel
theorem dX12_days_0 : decode cX12_days 0 = .ok (.iload_n 1, 1) := by decide +kernel
theorem dX12_days_1 : decode cX12_days 1 = .ok (.iconst 1, 1) := by decide +kernel
theorem dX12_days_2 : decode cX12_days 2 = .ok (.sipush 360, 3) := by decide +kernel
theorem dX12_days_5 : decode cX12_days 5 = .ok (.invokestatic 177, 3) := by decide +kernel
theorem dX12_days_8 : decode cX12_days 8 = .ok (.ifCond .eq 15, 3) := by decide +kernel
theorem dX12_days_11 : decode cX12_days 11 = .ok (.aload_n 0, 1) := by decide +kernel
theorem dX12_days_12 : decode cX12_days 12 = .ok (.getfield 190, 3) := by decide +kernel
theorem dX12_days_15 : decode cX12_days 15 = .ok (.iload_n 1, 1) := by decide +kernel
theorem dX12_days_16 : decode cX12_days 16 = .ok (.iadd, 1) := by decide +kernel
theorem dX12_days_17 : decode cX12_days 17 = .ok (.sipush 9999, 3) := by decide +kernel
theorem dX12_days_20 : decode cX12_days 20 = .ok (.if_icmp .le 5, 3) := by decide +kernel
theorem dX12_days_23 : decode cX12_days 23 = .ok (.iconst (-1), 1) := by decide +kernel
theorem dX12_days_24 : decode cX12_days 24 = .ok (.ireturn, 1) := by decide +kernel
theorem dX12_days_25 : decode cX12_days 25 = .ok (.aload_n 0, 1) := by decide +kernel
theorem dX12_days_26 : decode cX12_days 26 = .ok (.dup, 1) := by decide +kernel
theorem dX12_days_27 : decode cX12_days 27 = .ok (.getfield 190, 3) := by decide +kernel
theorem dX12_days_30 : decode cX12_days 30 = .ok (.iload_n 1, 1) := by decide +kernel
theorem dX12_days_31 : decode cX12_days 31 = .ok (.iadd, 1) := by decide +kernel
theorem dX12_days_32 : decode cX12_days 32 = .ok (.putfield 190, 3) := by decide +kernel
theorem dX12_days_35 : decode cX12_days 35 = .ok (.aload_n 0, 1) := by decide +kernel
theorem dX12_days_36 : decode cX12_days 36 = .ok (.getfield 190, 3) := by decide +kernel
theorem dX12_days_39 : decode cX12_days 39 = .ok (.ireturn, 1) := by decide +kernel
theorem dX12_home_0 : decode cX12_home 0 = .ok (.iload_n 1, 1) := by decide +kernel
theorem dX12_home_1 : decode cX12_home 1 = .ok (.ifCond .lt 33, 3) := by decide +kernel
theorem dX12_home_4 : decode cX12_home 4 = .ok (.iload_n 1, 1) := by decide +kernel
theorem dX12_home_5 : decode cX12_home 5 = .ok (.bipush 100, 2) := by decide +kernel
theorem dX12_home_7 : decode cX12_home 7 = .ok (.idiv, 1) := by decide +kernel
theorem dX12_home_8 : decode cX12_home 8 = .ok (.bipush 8, 2) := by decide +kernel
theorem dX12_home_10 : decode cX12_home 10 = .ok (.if_icmp .ge 24, 3) := by decide +kernel
theorem dX12_home_13 : decode cX12_home 13 = .ok (.iload_n 2, 1) := by decide +kernel
theorem dX12_home_14 : decode cX12_home 14 = .ok (.iconst 0, 1) := by decide +kernel
theorem dX12_home_15 : decode cX12_home 15 = .ok (.sipush 999, 3) := by decide +kernel
theorem dX12_home_18 : decode cX12_home 18 = .ok (.invokestatic 177, 3) := by decide +kernel
theorem dX12_home_21 : decode cX12_home 21 = .ok (.ifCond .eq 13, 3) := by decide +kernel
theorem dX12_home_24 : decode cX12_home 24 = .ok (.iload_n 3, 1) := by decide +kernel
theorem dX12_home_25 : decode cX12_home 25 = .ok (.iconst 0, 1) := by decide +kernel
theorem dX12_home_26 : decode cX12_home 26 = .ok (.bipush 9, 2) := by decide +kernel
theorem dX12_home_28 : decode cX12_home 28 = .ok (.invokestatic 177, 3) := by decide +kernel
theorem dX12_home_31 : decode cX12_home 31 = .ok (.ifCond .ne 5, 3) := by decide +kernel
theorem dX12_home_34 : decode cX12_home 34 = .ok (.iconst (-1), 1) := by decide +kernel
theorem dX12_home_35 : decode cX12_home 35 = .ok (.ireturn, 1) := by decide +kernel
theorem dX12_home_36 : decode cX12_home 36 = .ok (.aload_n 0, 1) := by decide +kernel
theorem dX12_home_37 : decode cX12_home 37 = .ok (.getfield 181, 3) := by decide +kernel
theorem dX12_home_40 : decode cX12_home 40 = .ok (.bipush 40, 2) := by decide +kernel
theorem dX12_home_42 : decode cX12_home 42 = .ok (.if_icmp .ne 6, 3) := by decide +kernel
theorem dX12_home_45 : decode cX12_home 45 = .ok (.bipush (-2), 2) := by decide +kernel
theorem dX12_home_47 : decode cX12_home 47 = .ok (.ireturn, 1) := by decide +kernel
theorem dX12_home_48 : decode cX12_home 48 = .ok (.aload_n 0, 1) := by decide +kernel
theorem dX12_home_49 : decode cX12_home 49 = .ok (.getfield 9, 3) := by decide +kernel
theorem dX12_home_52 : decode cX12_home 52 = .ok (.aload_n 0, 1) := by decide +kernel
theorem dX12_home_53 : decode cX12_home 53 = .ok (.getfield 181, 3) := by decide +kernel
theorem dX12_home_56 : decode cX12_home 56 = .ok (.iload_n 1, 1) := by decide +kernel
theorem dX12_home_57 : decode cX12_home 57 = .ok (.bipush 100, 2) := by decide +kernel
theorem dX12_home_59 : decode cX12_home 59 = .ok (.idiv, 1) := by decide +kernel
theorem dX12_home_60 : decode cX12_home 60 = .ok (.iastore, 1) := by decide +kernel
theorem dX12_home_61 : decode cX12_home 61 = .ok (.aload_n 0, 1) := by decide +kernel
theorem dX12_home_62 : decode cX12_home 62 = .ok (.getfield 13, 3) := by decide +kernel
theorem dX12_home_65 : decode cX12_home 65 = .ok (.aload_n 0, 1) := by decide +kernel
theorem dX12_home_66 : decode cX12_home 66 = .ok (.getfield 181, 3) := by decide +kernel
theorem dX12_home_69 : decode cX12_home 69 = .ok (.iload_n 1, 1) := by decide +kernel
theorem dX12_home_70 : decode cX12_home 70 = .ok (.bipush 100, 2) := by decide +kernel
theorem dX12_home_72 : decode cX12_home 72 = .ok (.irem, 1) := by decide +kernel
theorem dX12_home_73 : decode cX12_home 73 = .ok (.iastore, 1) := by decide +kernel
theorem dX12_home_74 : decode cX12_home 74 = .ok (.aload_n 0, 1) := by decide +kernel
theorem dX12_home_75 : decode cX12_home 75 = .ok (.getfield 16, 3) := by decide +kernel
theorem dX12_home_78 : decode cX12_home 78 = .ok (.aload_n 0, 1) := by decide +kernel
theorem dX12_home_79 : decode cX12_home 79 = .ok (.getfield 181, 3) := by decide +kernel
theorem dX12_home_82 : decode cX12_home 82 = .ok (.iload_n 2, 1) := by decide +kernel
theorem dX12_home_83 : decode cX12_home 83 = .ok (.iastore, 1) := by decide +kernel
theorem dX12_home_84 : decode cX12_home 84 = .ok (.aload_n 0, 1) := by decide +kernel
theorem dX12_home_85 : decode cX12_home 85 = .ok (.getfield 19, 3) := by decide +kernel
theorem dX12_home_88 : decode cX12_home 88 = .ok (.aload_n 0, 1) := by decide +kernel
theorem dX12_home_89 : decode cX12_home 89 = .ok (.getfield 181, 3) := by decide +kernel
theorem dX12_home_92 : decode cX12_home 92 = .ok (.iload_n 3, 1) := by decide +kernel
theorem dX12_home_93 : decode cX12_home 93 = .ok (.iastore, 1) := by decide +kernel
theorem dX12_home_94 : decode cX12_home 94 = .ok (.aload_n 0, 1) := by decide +kernel
theorem dX12_home_95 : decode cX12_home 95 = .ok (.getfield 22, 3) := by decide +kernel
theorem dX12_home_98 : decode cX12_home 98 = .ok (.aload_n 0, 1) := by decide +kernel
theorem dX12_home_99 : decode cX12_home 99 = .ok (.getfield 181, 3) := by decide +kernel
theorem dX12_home_102 : decode cX12_home 102 = .ok (.iconst (-1), 1) := by decide +kernel
theorem dX12_home_103 : decode cX12_home 103 = .ok (.iastore, 1) := by decide +kernel
theorem dX12_home_104 : decode cX12_home 104 = .ok (.aload_n 0, 1) := by decide +kernel
theorem dX12_home_105 : decode cX12_home 105 = .ok (.getfield 31, 3) := by decide +kernel
theorem dX12_home_108 : decode cX12_home 108 = .ok (.aload_n 0, 1) := by decide +kernel
theorem dX12_home_109 : decode cX12_home 109 = .ok (.getfield 181, 3) := by decide +kernel
theorem dX12_home_112 : decode cX12_home 112 = .ok (.bipush 127, 2) := by decide +kernel
theorem dX12_home_114 : decode cX12_home 114 = .ok (.iastore, 1) := by decide +kernel
theorem dX12_home_115 : decode cX12_home 115 = .ok (.iconst 0, 1) := by decide +kernel
theorem dX12_home_116 : decode cX12_home 116 = .ok (.istore 4, 2) := by decide +kernel
theorem dX12_home_118 : decode cX12_home 118 = .ok (.iload 4, 2) := by decide +kernel
theorem dX12_home_120 : decode cX12_home 120 = .ok (.bipush 10, 2) := by decide +kernel
theorem dX12_home_122 : decode cX12_home 122 = .ok (.if_icmp .ge 25, 3) := by decide +kernel
theorem dX12_home_125 : decode cX12_home 125 = .ok (.aload_n 0, 1) := by decide +kernel
theorem dX12_home_126 : decode cX12_home 126 = .ok (.getfield 34, 3) := by decide +kernel
theorem dX12_home_129 : decode cX12_home 129 = .ok (.bipush 10, 2) := by decide +kernel
theorem dX12_home_131 : decode cX12_home 131 = .ok (.aload_n 0, 1) := by decide +kernel
theorem dX12_home_132 : decode cX12_home 132 = .ok (.getfield 181, 3) := by decide +kernel
theorem dX12_home_135 : decode cX12_home 135 = .ok (.imul, 1) := by decide +kernel
theorem dX12_home_136 : decode cX12_home 136 = .ok (.iload 4, 2) := by decide +kernel
theorem dX12_home_138 : decode cX12_home 138 = .ok (.iadd, 1) := by decide +kernel
theorem dX12_home_139 : decode cX12_home 139 = .ok (.iconst (-1), 1) := by decide +kernel
theorem dX12_home_140 : decode cX12_home 140 = .ok (.iastore, 1) := by decide +kernel
theorem dX12_home_141 : decode cX12_home 141 = .ok (.iinc 4 1, 3) := by decide +kernel
theorem dX12_home_144 : decode cX12_home 144 = .ok (.goto (-26), 3) := by decide +kernel
theorem dX12_home_147 : decode cX12_home 147 = .ok (.aload_n 0, 1) := by decide +kernel
theorem dX12_home_148 : decode cX12_home 148 = .ok (.dup, 1) := by decide +kernel
theorem dX12_home_149 : decode cX12_home 149 = .ok (.getfield 181, 3) := by decide +kernel
theorem dX12_home_152 : decode cX12_home 152 = .ok (.iconst 1, 1) := by decide +kernel
theorem dX12_home_153 : decode cX12_home 153 = .ok (.iadd, 1) := by decide +kernel
theorem dX12_home_154 : decode cX12_home 154 = .ok (.putfield 181, 3) := by decide +kernel
theorem dX12_home_157 : decode cX12_home 157 = .ok (.aload_n 0, 1) := by decide +kernel
theorem dX12_home_158 : decode cX12_home 158 = .ok (.getfield 181, 3) := by decide +kernel
theorem dX12_home_161 : decode cX12_home 161 = .ok (.iconst 1, 1) := by decide +kernel
theorem dX12_home_162 : decode cX12_home 162 = .ok (.isub, 1) := by decide +kernel
theorem dX12_home_163 : decode cX12_home 163 = .ok (.ireturn, 1) := by decide +kernel
theorem dX12_key_0 : decode cX12_key 0 = .ok (.aload_n 0, 1) := by decide +kernel
theorem dX12_key_1 : decode cX12_key 1 = .ok (.iload_n 1, 1) := by decide +kernel
theorem dX12_key_2 : decode cX12_key 2 = .ok (.invokevirtual 193, 3) := by decide +kernel
theorem dX12_key_5 : decode cX12_key 5 = .ok (.ifCond .eq 13, 3) := by decide +kernel
theorem dX12_key_8 : decode cX12_key 8 = .ok (.iload_n 2, 1) := by decide +kernel
theorem dX12_key_9 : decode cX12_key 9 = .ok (.iconst 0, 1) := by decide +kernel
theorem dX12_key_10 : decode cX12_key 10 = .ok (.ldc 197, 2) := by decide +kernel
theorem dX12_key_12 : decode cX12_key 12 = .ok (.invokestatic 177, 3) := by decide +kernel
theorem dX12_key_15 : decode cX12_key 15 = .ok (.ifCond .ne 5, 3) := by decide +kernel
theorem dX12_key_18 : decode cX12_key 18 = .ok (.iconst (-1), 1) := by decide +kernel
theorem dX12_key_19 : decode cX12_key 19 = .ok (.ireturn, 1) := by decide +kernel
theorem dX12_key_20 : decode cX12_key 20 = .ok (.aload_n 0, 1) := by decide +kernel
theorem dX12_key_21 : decode cX12_key 21 = .ok (.getfield 22, 3) := by decide +kernel
theorem dX12_key_24 : decode cX12_key 24 = .ok (.iload_n 1, 1) := by decide +kernel
theorem dX12_key_25 : decode cX12_key 25 = .ok (.iaload, 1) := by decide +kernel
theorem dX12_key_26 : decode cX12_key 26 = .ok (.ifCond .lt 6, 3) := by decide +kernel
theorem dX12_key_29 : decode cX12_key 29 = .ok (.bipush (-3), 2) := by decide +kernel
theorem dX12_key_31 : decode cX12_key 31 = .ok (.ireturn, 1) := by decide +kernel
theorem dX12_key_32 : decode cX12_key 32 = .ok (.aload_n 0, 1) := by decide +kernel
theorem dX12_key_33 : decode cX12_key 33 = .ok (.getfield 22, 3) := by decide +kernel
theorem dX12_key_36 : decode cX12_key 36 = .ok (.iload_n 1, 1) := by decide +kernel
theorem dX12_key_37 : decode cX12_key 37 = .ok (.aload_n 0, 1) := by decide +kernel
theorem dX12_key_38 : decode cX12_key 38 = .ok (.getfield 190, 3) := by decide +kernel
theorem dX12_key_41 : decode cX12_key 41 = .ok (.iastore, 1) := by decide +kernel
theorem dX12_key_42 : decode cX12_key 42 = .ok (.aload_n 0, 1) := by decide +kernel
theorem dX12_key_43 : decode cX12_key 43 = .ok (.getfield 37, 3) := by decide +kernel
theorem dX12_key_46 : decode cX12_key 46 = .ok (.iload_n 1, 1) := by decide +kernel
theorem dX12_key_47 : decode cX12_key 47 = .ok (.iload_n 2, 1) := by decide +kernel
theorem dX12_key_48 : decode cX12_key 48 = .ok (.iastore, 1) := by decide +kernel
theorem dX12_key_49 : decode cX12_key 49 = .ok (.iconst 1, 1) := by decide +kernel
theorem dX12_key_50 : decode cX12_key 50 = .ok (.ireturn, 1) := by decide +kernel
theorem dX12_sell_0 : decode cX12_sell 0 = .ok (.aload_n 0, 1) := by decide +kernel
theorem dX12_sell_1 : decode cX12_sell 1 = .ok (.iload_n 1, 1) := by decide +kernel
theorem dX12_sell_2 : decode cX12_sell 2 = .ok (.invokevirtual 193, 3) := by decide +kernel
theorem dX12_sell_5 : decode cX12_sell 5 = .ok (.ifCond .ne 5, 3) := by decide +kernel
theorem dX12_sell_8 : decode cX12_sell 8 = .ok (.iconst (-1), 1) := by decide +kernel
theorem dX12_sell_9 : decode cX12_sell 9 = .ok (.ireturn, 1) := by decide +kernel
theorem dX12_sell_10 : decode cX12_sell 10 = .ok (.aload_n 0, 1) := by decide +kernel
theorem dX12_sell_11 : decode cX12_sell 11 = .ok (.getfield 22, 3) := by decide +kernel
theorem dX12_sell_14 : decode cX12_sell 14 = .ok (.iload_n 1, 1) := by decide +kernel
theorem dX12_sell_15 : decode cX12_sell 15 = .ok (.iaload, 1) := by decide +kernel
theorem dX12_sell_16 : decode cX12_sell 16 = .ok (.ifCond .ge 6, 3) := by decide +kernel
theorem dX12_sell_19 : decode cX12_sell 19 = .ok (.bipush (-3), 2) := by decide +kernel
theorem dX12_sell_21 : decode cX12_sell 21 = .ok (.ireturn, 1) := by decide +kernel
theorem dX12_sell_22 : decode cX12_sell 22 = .ok (.aload_n 0, 1) := by decide +kernel
theorem dX12_sell_23 : decode cX12_sell 23 = .ok (.getfield 28, 3) := by decide +kernel
theorem dX12_sell_26 : decode cX12_sell 26 = .ok (.iload_n 1, 1) := by decide +kernel
theorem dX12_sell_27 : decode cX12_sell 27 = .ok (.iaload, 1) := by decide +kernel
theorem dX12_sell_28 : decode cX12_sell 28 = .ok (.bipush 20, 2) := by decide +kernel
theorem dX12_sell_30 : decode cX12_sell 30 = .ok (.if_icmp .ne 6, 3) := by decide +kernel
theorem dX12_sell_33 : decode cX12_sell 33 = .ok (.bipush (-2), 2) := by decide +kernel
theorem dX12_sell_35 : decode cX12_sell 35 = .ok (.ireturn, 1) := by decide +kernel
theorem dX12_sell_36 : decode cX12_sell 36 = .ok (.aload_n 0, 1) := by decide +kernel
theorem dX12_sell_37 : decode cX12_sell 37 = .ok (.getfield 25, 3) := by decide +kernel
theorem dX12_sell_40 : decode cX12_sell 40 = .ok (.bipush 20, 2) := by decide +kernel
theorem dX12_sell_42 : decode cX12_sell 42 = .ok (.iload_n 1, 1) := by decide +kernel
theorem dX12_sell_43 : decode cX12_sell 43 = .ok (.imul, 1) := by decide +kernel
theorem dX12_sell_44 : decode cX12_sell 44 = .ok (.aload_n 0, 1) := by decide +kernel
theorem dX12_sell_45 : decode cX12_sell 45 = .ok (.getfield 28, 3) := by decide +kernel
theorem dX12_sell_48 : decode cX12_sell 48 = .ok (.iload_n 1, 1) := by decide +kernel
theorem dX12_sell_49 : decode cX12_sell 49 = .ok (.iaload, 1) := by decide +kernel
theorem dX12_sell_50 : decode cX12_sell 50 = .ok (.iadd, 1) := by decide +kernel
theorem dX12_sell_51 : decode cX12_sell 51 = .ok (.aload_n 0, 1) := by decide +kernel
theorem dX12_sell_52 : decode cX12_sell 52 = .ok (.getfield 190, 3) := by decide +kernel
theorem dX12_sell_55 : decode cX12_sell 55 = .ok (.iastore, 1) := by decide +kernel
theorem dX12_sell_56 : decode cX12_sell 56 = .ok (.aload_n 0, 1) := by decide +kernel
theorem dX12_sell_57 : decode cX12_sell 57 = .ok (.getfield 28, 3) := by decide +kernel
theorem dX12_sell_60 : decode cX12_sell 60 = .ok (.iload_n 1, 1) := by decide +kernel
theorem dX12_sell_61 : decode cX12_sell 61 = .ok (.dup2, 1) := by decide +kernel
theorem dX12_sell_62 : decode cX12_sell 62 = .ok (.iaload, 1) := by decide +kernel
theorem dX12_sell_63 : decode cX12_sell 63 = .ok (.iconst 1, 1) := by decide +kernel
theorem dX12_sell_64 : decode cX12_sell 64 = .ok (.iadd, 1) := by decide +kernel
theorem dX12_sell_65 : decode cX12_sell 65 = .ok (.iastore, 1) := by decide +kernel
theorem dX12_sell_66 : decode cX12_sell 66 = .ok (.aload_n 0, 1) := by decide +kernel
theorem dX12_sell_67 : decode cX12_sell 67 = .ok (.getfield 28, 3) := by decide +kernel
theorem dX12_sell_70 : decode cX12_sell 70 = .ok (.iload_n 1, 1) := by decide +kernel
theorem dX12_sell_71 : decode cX12_sell 71 = .ok (.iaload, 1) := by decide +kernel
theorem dX12_sell_72 : decode cX12_sell 72 = .ok (.ireturn, 1) := by decide +kernel
theorem dX12_in_0 : decode cX12_in 0 = .ok (.aload_n 0, 1) := by decide +kernel
theorem dX12_in_1 : decode cX12_in 1 = .ok (.iload_n 1, 1) := by decide +kernel
theorem dX12_in_2 : decode cX12_in 2 = .ok (.invokevirtual 193, 3) := by decide +kernel
theorem dX12_in_5 : decode cX12_in 5 = .ok (.ifCond .eq 13, 3) := by decide +kernel
theorem dX12_in_8 : decode cX12_in 8 = .ok (.iload_n 2, 1) := by decide +kernel
theorem dX12_in_9 : decode cX12_in 9 = .ok (.iconst 0, 1) := by decide +kernel
theorem dX12_in_10 : decode cX12_in 10 = .ok (.bipush 127, 2) := by decide +kernel
theorem dX12_in_12 : decode cX12_in 12 = .ok (.invokestatic 177, 3) := by decide +kernel
theorem dX12_in_15 : decode cX12_in 15 = .ok (.ifCond .ne 5, 3) := by decide +kernel
theorem dX12_in_18 : decode cX12_in 18 = .ok (.iconst (-1), 1) := by decide +kernel
theorem dX12_in_19 : decode cX12_in 19 = .ok (.ireturn, 1) := by decide +kernel
theorem dX12_in_20 : decode cX12_in 20 = .ok (.aload_n 0, 1) := by decide +kernel
theorem dX12_in_21 : decode cX12_in 21 = .ok (.getfield 31, 3) := by decide +kernel
theorem dX12_in_24 : decode cX12_in 24 = .ok (.iload_n 1, 1) := by decide +kernel
theorem dX12_in_25 : decode cX12_in 25 = .ok (.iaload, 1) := by decide +kernel
theorem dX12_in_26 : decode cX12_in 26 = .ok (.istore_n 3, 1) := by decide +kernel
theorem dX12_in_27 : decode cX12_in 27 = .ok (.aload_n 0, 1) := by decide +kernel
theorem dX12_in_28 : decode cX12_in 28 = .ok (.getfield 31, 3) := by decide +kernel
theorem dX12_in_31 : decode cX12_in 31 = .ok (.iload_n 1, 1) := by decide +kernel
theorem dX12_in_32 : decode cX12_in 32 = .ok (.iload_n 2, 1) := by decide +kernel
theorem dX12_in_33 : decode cX12_in 33 = .ok (.iastore, 1) := by decide +kernel
theorem dX12_in_34 : decode cX12_in 34 = .ok (.iload_n 3, 1) := by decide +kernel
theorem dX12_in_35 : decode cX12_in 35 = .ok (.ireturn, 1) := by decide +kernel
theorem dX12_crew_0 : decode cX12_crew 0 = .ok (.aload_n 0, 1) := by decide +kernel
theorem dX12_crew_1 : decode cX12_crew 1 = .ok (.iload_n 1, 1) := by decide +kernel
theorem dX12_crew_2 : decode cX12_crew 2 = .ok (.invokevirtual 193, 3) := by decide +kernel
theorem dX12_crew_5 : decode cX12_crew 5 = .ok (.ifCond .eq 20, 3) := by decide +kernel
theorem dX12_crew_8 : decode cX12_crew 8 = .ok (.iload_n 2, 1) := by decide +kernel
theorem dX12_crew_9 : decode cX12_crew 9 = .ok (.invokestatic 198, 3) := by decide +kernel
theorem dX12_crew_12 : decode cX12_crew 12 = .ok (.ifCond .eq 13, 3) := by decide +kernel
theorem dX12_crew_15 : decode cX12_crew 15 = .ok (.iload_n 3, 1) := by decide +kernel
theorem dX12_crew_16 : decode cX12_crew 16 = .ok (.iconst (-1), 1) := by decide +kernel
theorem dX12_crew_17 : decode cX12_crew 17 = .ok (.bipush 9, 2) := by decide +kernel
theorem dX12_crew_19 : decode cX12_crew 19 = .ok (.invokestatic 177, 3) := by decide +kernel
theorem dX12_crew_22 : decode cX12_crew 22 = .ok (.ifCond .ne 6, 3) := by decide +kernel
theorem dX12_crew_25 : decode cX12_crew 25 = .ok (.ldc 201, 2) := by decide +kernel
theorem dX12_crew_27 : decode cX12_crew 27 = .ok (.ireturn, 1) := by decide +kernel
theorem dX12_crew_28 : decode cX12_crew 28 = .ok (.aload_n 0, 1) := by decide +kernel
theorem dX12_crew_29 : decode cX12_crew 29 = .ok (.getfield 34, 3) := by decide +kernel
theorem dX12_crew_32 : decode cX12_crew 32 = .ok (.bipush 10, 2) := by decide +kernel
theorem dX12_crew_34 : decode cX12_crew 34 = .ok (.iload_n 1, 1) := by decide +kernel
theorem dX12_crew_35 : decode cX12_crew 35 = .ok (.imul, 1) := by decide +kernel
theorem dX12_crew_36 : decode cX12_crew 36 = .ok (.iload_n 2, 1) := by decide +kernel
theorem dX12_crew_37 : decode cX12_crew 37 = .ok (.iadd, 1) := by decide +kernel
theorem dX12_crew_38 : decode cX12_crew 38 = .ok (.iaload, 1) := by decide +kernel
theorem dX12_crew_39 : decode cX12_crew 39 = .ok (.istore 4, 2) := by decide +kernel
theorem dX12_crew_41 : decode cX12_crew 41 = .ok (.aload_n 0, 1) := by decide +kernel
theorem dX12_crew_42 : decode cX12_crew 42 = .ok (.getfield 34, 3) := by decide +kernel
theorem dX12_crew_45 : decode cX12_crew 45 = .ok (.bipush 10, 2) := by decide +kernel
theorem dX12_crew_47 : decode cX12_crew 47 = .ok (.iload_n 1, 1) := by decide +kernel
theorem dX12_crew_48 : decode cX12_crew 48 = .ok (.imul, 1) := by decide +kernel
theorem dX12_crew_49 : decode cX12_crew 49 = .ok (.iload_n 2, 1) := by decide +kernel
theorem dX12_crew_50 : decode cX12_crew 50 = .ok (.iadd, 1) := by decide +kernel
theorem dX12_crew_51 : decode cX12_crew 51 = .ok (.iload_n 3, 1) := by decide +kernel
theorem dX12_crew_52 : decode cX12_crew 52 = .ok (.iastore, 1) := by decide +kernel
theorem dX12_crew_53 : decode cX12_crew 53 = .ok (.iload 4, 2) := by decide +kernel
theorem dX12_crew_55 : decode cX12_crew 55 = .ok (.ireturn, 1) := by decide +kernel
theorem dX12_isLeft_0 : decode cX12_isLeft 0 = .ok (.aload_n 0, 1) := by decide +kernel
theorem dX12_isLeft_1 : decode cX12_isLeft 1 = .ok (.iload_n 1, 1) := by decide +kernel
theorem dX12_isLeft_2 : decode cX12_isLeft 2 = .ok (.iload_n 2, 1) := by decide +kernel
theorem dX12_isLeft_3 : decode cX12_isLeft 3 = .ok (.invokevirtual 202, 3) := by decide +kernel
theorem dX12_isLeft_6 : decode cX12_isLeft 6 = .ok (.istore_n 3, 1) := by decide +kernel
theorem dX12_isLeft_7 : decode cX12_isLeft 7 = .ok (.iload_n 3, 1) := by decide +kernel
theorem dX12_isLeft_8 : decode cX12_isLeft 8 = .ok (.ifCond .lt 17, 3) := by decide +kernel
theorem dX12_isLeft_11 : decode cX12_isLeft 11 = .ok (.iload_n 3, 1) := by decide +kernel
theorem dX12_isLeft_12 : decode cX12_isLeft 12 = .ok (.iconst 3, 1) := by decide +kernel
theorem dX12_isLeft_13 : decode cX12_isLeft 13 = .ok (.if_icmp .eq 12, 3) := by decide +kernel
theorem dX12_isLeft_16 : decode cX12_isLeft 16 = .ok (.iload_n 3, 1) := by decide +kernel
theorem dX12_isLeft_17 : decode cX12_isLeft 17 = .ok (.iconst 4, 1) := by decide +kernel
theorem dX12_isLeft_18 : decode cX12_isLeft 18 = .ok (.if_icmp .eq 7, 3) := by decide +kernel
theorem dX12_isLeft_21 : decode cX12_isLeft 21 = .ok (.iconst 1, 1) := by decide +kernel
theorem dX12_isLeft_22 : decode cX12_isLeft 22 = .ok (.goto 4, 3) := by decide +kernel
theorem dX12_isLeft_25 : decode cX12_isLeft 25 = .ok (.iconst 0, 1) := by decide +kernel
theorem dX12_isLeft_26 : decode cX12_isLeft 26 = .ok (.ireturn, 1) := by decide +kernel
theorem dX12_leftOf_0 : decode cX12_leftOf 0 = .ok (.iconst 0, 1) := by decide +kernel
theorem dX12_leftOf_1 : decode cX12_leftOf 1 = .ok (.istore_n 2, 1) := by decide +kernel
theorem dX12_leftOf_2 : decode cX12_leftOf 2 = .ok (.iconst 0, 1) := by decide +kernel
theorem dX12_leftOf_3 : decode cX12_leftOf 3 = .ok (.istore_n 3, 1) := by decide +kernel
theorem dX12_leftOf_4 : decode cX12_leftOf 4 = .ok (.iload_n 3, 1) := by decide +kernel
theorem dX12_leftOf_5 : decode cX12_leftOf 5 = .ok (.aload_n 0, 1) := by decide +kernel
theorem dX12_leftOf_6 : decode cX12_leftOf 6 = .ok (.getfield 187, 3) := by decide +kernel
theorem dX12_leftOf_9 : decode cX12_leftOf 9 = .ok (.if_icmp .ge 39, 3) := by decide +kernel
theorem dX12_leftOf_12 : decode cX12_leftOf 12 = .ok (.iload_n 2, 1) := by decide +kernel
theorem dX12_leftOf_13 : decode cX12_leftOf 13 = .ok (.aload_n 0, 1) := by decide +kernel
theorem dX12_leftOf_14 : decode cX12_leftOf 14 = .ok (.getfield 55, 3) := by decide +kernel
theorem dX12_leftOf_17 : decode cX12_leftOf 17 = .ok (.iload_n 3, 1) := by decide +kernel
theorem dX12_leftOf_18 : decode cX12_leftOf 18 = .ok (.iaload, 1) := by decide +kernel
theorem dX12_leftOf_19 : decode cX12_leftOf 19 = .ok (.iload_n 1, 1) := by decide +kernel
theorem dX12_leftOf_20 : decode cX12_leftOf 20 = .ok (.if_icmp .ne 19, 3) := by decide +kernel
theorem dX12_leftOf_23 : decode cX12_leftOf 23 = .ok (.aload_n 0, 1) := by decide +kernel
theorem dX12_leftOf_24 : decode cX12_leftOf 24 = .ok (.iload_n 3, 1) := by decide +kernel
theorem dX12_leftOf_25 : decode cX12_leftOf 25 = .ok (.aload_n 0, 1) := by decide +kernel
theorem dX12_leftOf_26 : decode cX12_leftOf 26 = .ok (.getfield 190, 3) := by decide +kernel
theorem dX12_leftOf_29 : decode cX12_leftOf 29 = .ok (.invokevirtual 206, 3) := by decide +kernel
theorem dX12_leftOf_32 : decode cX12_leftOf 32 = .ok (.ifCond .eq 7, 3) := by decide +kernel
theorem dX12_leftOf_35 : decode cX12_leftOf 35 = .ok (.iconst 1, 1) := by decide +kernel
theorem dX12_leftOf_36 : decode cX12_leftOf 36 = .ok (.goto 4, 3) := by decide +kernel
theorem dX12_leftOf_39 : decode cX12_leftOf 39 = .ok (.iconst 0, 1) := by decide +kernel
theorem dX12_leftOf_40 : decode cX12_leftOf 40 = .ok (.iadd, 1) := by decide +kernel
theorem dX12_leftOf_41 : decode cX12_leftOf 41 = .ok (.istore_n 2, 1) := by decide +kernel
theorem dX12_leftOf_42 : decode cX12_leftOf 42 = .ok (.iinc 3 1, 3) := by decide +kernel
theorem dX12_leftOf_45 : decode cX12_leftOf 45 = .ok (.goto (-41), 3) := by decide +kernel
theorem dX12_leftOf_48 : decode cX12_leftOf 48 = .ok (.iload_n 2, 1) := by decide +kernel
theorem dX12_leftOf_49 : decode cX12_leftOf 49 = .ok (.ireturn, 1) := by decide +kernel
theorem dX12_falseOf_0 : decode cX12_falseOf 0 = .ok (.iconst 0, 1) := by decide +kernel
theorem dX12_falseOf_1 : decode cX12_falseOf 1 = .ok (.istore_n 2, 1) := by decide +kernel
theorem dX12_falseOf_2 : decode cX12_falseOf 2 = .ok (.iconst 0, 1) := by decide +kernel
theorem dX12_falseOf_3 : decode cX12_falseOf 3 = .ok (.istore_n 3, 1) := by decide +kernel
theorem dX12_falseOf_4 : decode cX12_falseOf 4 = .ok (.iload_n 3, 1) := by decide +kernel
theorem dX12_falseOf_5 : decode cX12_falseOf 5 = .ok (.aload_n 0, 1) := by decide +kernel
theorem dX12_falseOf_6 : decode cX12_falseOf 6 = .ok (.getfield 187, 3) := by decide +kernel
theorem dX12_falseOf_9 : decode cX12_falseOf 9 = .ok (.if_icmp .ge 32, 3) := by decide +kernel
theorem dX12_falseOf_12 : decode cX12_falseOf 12 = .ok (.iload_n 2, 1) := by decide +kernel
theorem dX12_falseOf_13 : decode cX12_falseOf 13 = .ok (.aload_n 0, 1) := by decide +kernel
theorem dX12_falseOf_14 : decode cX12_falseOf 14 = .ok (.getfield 55, 3) := by decide +kernel
theorem dX12_falseOf_17 : decode cX12_falseOf 17 = .ok (.iload_n 3, 1) := by decide +kernel
theorem dX12_falseOf_18 : decode cX12_falseOf 18 = .ok (.iaload, 1) := by decide +kernel
theorem dX12_falseOf_19 : decode cX12_falseOf 19 = .ok (.iload_n 1, 1) := by decide +kernel
theorem dX12_falseOf_20 : decode cX12_falseOf 20 = .ok (.if_icmp .ne 12, 3) := by decide +kernel
theorem dX12_falseOf_23 : decode cX12_falseOf 23 = .ok (.aload_n 0, 1) := by decide +kernel
theorem dX12_falseOf_24 : decode cX12_falseOf 24 = .ok (.getfield 107, 3) := by decide +kernel
theorem dX12_falseOf_27 : decode cX12_falseOf 27 = .ok (.iload_n 3, 1) := by decide +kernel
theorem dX12_falseOf_28 : decode cX12_falseOf 28 = .ok (.iaload, 1) := by decide +kernel
theorem dX12_falseOf_29 : decode cX12_falseOf 29 = .ok (.goto 4, 3) := by decide +kernel
theorem dX12_falseOf_32 : decode cX12_falseOf 32 = .ok (.iconst 0, 1) := by decide +kernel
theorem dX12_falseOf_33 : decode cX12_falseOf 33 = .ok (.iadd, 1) := by decide +kernel
theorem dX12_falseOf_34 : decode cX12_falseOf 34 = .ok (.istore_n 2, 1) := by decide +kernel
theorem dX12_falseOf_35 : decode cX12_falseOf 35 = .ok (.iinc 3 1, 3) := by decide +kernel
theorem dX12_falseOf_38 : decode cX12_falseOf 38 = .ok (.goto (-34), 3) := by decide +kernel
theorem dX12_falseOf_41 : decode cX12_falseOf 41 = .ok (.iload_n 2, 1) := by decide +kernel
theorem dX12_falseOf_42 : decode cX12_falseOf 42 = .ok (.ireturn, 1) := by decide +kernel
theorem dX12_brokenOf_0 : decode cX12_brokenOf 0 = .ok (.iconst 0, 1) := by decide +kernel
theorem dX12_brokenOf_1 : decode cX12_brokenOf 1 = .ok (.istore_n 2, 1) := by decide +kernel
theorem dX12_brokenOf_2 : decode cX12_brokenOf 2 = .ok (.iconst 0, 1) := by decide +kernel
theorem dX12_brokenOf_3 : decode cX12_brokenOf 3 = .ok (.istore_n 3, 1) := by decide +kernel
theorem dX12_brokenOf_4 : decode cX12_brokenOf 4 = .ok (.iload_n 3, 1) := by decide +kernel
theorem dX12_brokenOf_5 : decode cX12_brokenOf 5 = .ok (.aload_n 0, 1) := by decide +kernel
theorem dX12_brokenOf_6 : decode cX12_brokenOf 6 = .ok (.getfield 187, 3) := by decide +kernel
theorem dX12_brokenOf_9 : decode cX12_brokenOf 9 = .ok (.if_icmp .ge 47, 3) := by decide +kernel
theorem dX12_brokenOf_12 : decode cX12_brokenOf 12 = .ok (.iload_n 2, 1) := by decide +kernel
theorem dX12_brokenOf_13 : decode cX12_brokenOf 13 = .ok (.aload_n 0, 1) := by decide +kernel
theorem dX12_brokenOf_14 : decode cX12_brokenOf 14 = .ok (.getfield 55, 3) := by decide +kernel
theorem dX12_brokenOf_17 : decode cX12_brokenOf 17 = .ok (.iload_n 3, 1) := by decide +kernel
theorem dX12_brokenOf_18 : decode cX12_brokenOf 18 = .ok (.iaload, 1) := by decide +kernel
theorem dX12_brokenOf_19 : decode cX12_brokenOf 19 = .ok (.iload_n 1, 1) := by decide +kernel
theorem dX12_brokenOf_20 : decode cX12_brokenOf 20 = .ok (.if_icmp .ne 27, 3) := by decide +kernel
theorem dX12_brokenOf_23 : decode cX12_brokenOf 23 = .ok (.aload_n 0, 1) := by decide +kernel
theorem dX12_brokenOf_24 : decode cX12_brokenOf 24 = .ok (.getfield 101, 3) := by decide +kernel
theorem dX12_brokenOf_27 : decode cX12_brokenOf 27 = .ok (.iload_n 3, 1) := by decide +kernel
theorem dX12_brokenOf_28 : decode cX12_brokenOf 28 = .ok (.iaload, 1) := by decide +kernel
theorem dX12_brokenOf_29 : decode cX12_brokenOf 29 = .ok (.aload_n 0, 1) := by decide +kernel
theorem dX12_brokenOf_30 : decode cX12_brokenOf 30 = .ok (.iload_n 3, 1) := by decide +kernel
theorem dX12_brokenOf_31 : decode cX12_brokenOf 31 = .ok (.invokevirtual 210, 3) := by decide +kernel
theorem dX12_brokenOf_34 : decode cX12_brokenOf 34 = .ok (.iconst 3, 1) := by decide +kernel
theorem dX12_brokenOf_35 : decode cX12_brokenOf 35 = .ok (.if_icmp .ne 7, 3) := by decide +kernel
theorem dX12_brokenOf_38 : decode cX12_brokenOf 38 = .ok (.iconst 1, 1) := by decide +kernel
theorem dX12_brokenOf_39 : decode cX12_brokenOf 39 = .ok (.goto 4, 3) := by decide +kernel
theorem dX12_brokenOf_42 : decode cX12_brokenOf 42 = .ok (.iconst 0, 1) := by decide +kernel
theorem dX12_brokenOf_43 : decode cX12_brokenOf 43 = .ok (.iadd, 1) := by decide +kernel
theorem dX12_brokenOf_44 : decode cX12_brokenOf 44 = .ok (.goto 4, 3) := by decide +kernel
theorem dX12_brokenOf_47 : decode cX12_brokenOf 47 = .ok (.iconst 0, 1) := by decide +kernel
theorem dX12_brokenOf_48 : decode cX12_brokenOf 48 = .ok (.iadd, 1) := by decide +kernel
theorem dX12_brokenOf_49 : decode cX12_brokenOf 49 = .ok (.istore_n 2, 1) := by decide +kernel
theorem dX12_brokenOf_50 : decode cX12_brokenOf 50 = .ok (.iinc 3 1, 3) := by decide +kernel
theorem dX12_brokenOf_53 : decode cX12_brokenOf 53 = .ok (.goto (-49), 3) := by decide +kernel
theorem dX12_brokenOf_56 : decode cX12_brokenOf 56 = .ok (.iload_n 2, 1) := by decide +kernel
theorem dX12_brokenOf_57 : decode cX12_brokenOf 57 = .ok (.ireturn, 1) := by decide +kernel
theorem dX12_ofHome_0 : decode cX12_ofHome 0 = .ok (.aload_n 0, 1) := by decide +kernel
theorem dX12_ofHome_1 : decode cX12_ofHome 1 = .ok (.iload_n 1, 1) := by decide +kernel
theorem dX12_ofHome_2 : decode cX12_ofHome 2 = .ok (.invokevirtual 193, 3) := by decide +kernel
theorem dX12_ofHome_5 : decode cX12_ofHome 5 = .ok (.ifCond .ne 5, 3) := by decide +kernel
theorem dX12_ofHome_8 : decode cX12_ofHome 8 = .ok (.iconst (-1), 1) := by decide +kernel
theorem dX12_ofHome_9 : decode cX12_ofHome 9 = .ok (.ireturn, 1) := by decide +kernel
theorem dX12_ofHome_10 : decode cX12_ofHome 10 = .ok (.iload_n 2, 1) := by decide +kernel
theorem dX12_ofHome_11 : decode cX12_ofHome 11 = .ok (.tableswitch 187 0 12 #[65, 72, 79, 86, 93, 100, 107, 148, 154, 160, 166, 173, 180], 65) := by decide +kernel
theorem dX12_ofHome_76 : decode cX12_ofHome 76 = .ok (.aload_n 0, 1) := by decide +kernel
theorem dX12_ofHome_77 : decode cX12_ofHome 77 = .ok (.getfield 9, 3) := by decide +kernel
theorem dX12_ofHome_80 : decode cX12_ofHome 80 = .ok (.iload_n 1, 1) := by decide +kernel
theorem dX12_ofHome_81 : decode cX12_ofHome 81 = .ok (.iaload, 1) := by decide +kernel
theorem dX12_ofHome_82 : decode cX12_ofHome 82 = .ok (.ireturn, 1) := by decide +kernel
theorem dX12_ofHome_83 : decode cX12_ofHome 83 = .ok (.aload_n 0, 1) := by decide +kernel
theorem dX12_ofHome_84 : decode cX12_ofHome 84 = .ok (.getfield 13, 3) := by decide +kernel
theorem dX12_ofHome_87 : decode cX12_ofHome 87 = .ok (.iload_n 1, 1) := by decide +kernel
theorem dX12_ofHome_88 : decode cX12_ofHome 88 = .ok (.iaload, 1) := by decide +kernel
theorem dX12_ofHome_89 : decode cX12_ofHome 89 = .ok (.ireturn, 1) := by decide +kernel
theorem dX12_ofHome_90 : decode cX12_ofHome 90 = .ok (.aload_n 0, 1) := by decide +kernel
theorem dX12_ofHome_91 : decode cX12_ofHome 91 = .ok (.getfield 16, 3) := by decide +kernel
theorem dX12_ofHome_94 : decode cX12_ofHome 94 = .ok (.iload_n 1, 1) := by decide +kernel
theorem dX12_ofHome_95 : decode cX12_ofHome 95 = .ok (.iaload, 1) := by decide +kernel
theorem dX12_ofHome_96 : decode cX12_ofHome 96 = .ok (.ireturn, 1) := by decide +kernel
theorem dX12_ofHome_97 : decode cX12_ofHome 97 = .ok (.aload_n 0, 1) := by decide +kernel
theorem dX12_ofHome_98 : decode cX12_ofHome 98 = .ok (.getfield 19, 3) := by decide +kernel
theorem dX12_ofHome_101 : decode cX12_ofHome 101 = .ok (.iload_n 1, 1) := by decide +kernel
theorem dX12_ofHome_102 : decode cX12_ofHome 102 = .ok (.iaload, 1) := by decide +kernel
theorem dX12_ofHome_103 : decode cX12_ofHome 103 = .ok (.ireturn, 1) := by decide +kernel
theorem dX12_ofHome_104 : decode cX12_ofHome 104 = .ok (.aload_n 0, 1) := by decide +kernel
theorem dX12_ofHome_105 : decode cX12_ofHome 105 = .ok (.getfield 22, 3) := by decide +kernel
theorem dX12_ofHome_108 : decode cX12_ofHome 108 = .ok (.iload_n 1, 1) := by decide +kernel
theorem dX12_ofHome_109 : decode cX12_ofHome 109 = .ok (.iaload, 1) := by decide +kernel
theorem dX12_ofHome_110 : decode cX12_ofHome 110 = .ok (.ireturn, 1) := by decide +kernel
theorem dX12_ofHome_111 : decode cX12_ofHome 111 = .ok (.aload_n 0, 1) := by decide +kernel
theorem dX12_ofHome_112 : decode cX12_ofHome 112 = .ok (.getfield 28, 3) := by decide +kernel
theorem dX12_ofHome_115 : decode cX12_ofHome 115 = .ok (.iload_n 1, 1) := by decide +kernel
theorem dX12_ofHome_116 : decode cX12_ofHome 116 = .ok (.iaload, 1) := by decide +kernel
theorem dX12_ofHome_117 : decode cX12_ofHome 117 = .ok (.ireturn, 1) := by decide +kernel
theorem dX12_ofHome_118 : decode cX12_ofHome 118 = .ok (.iconst 0, 1) := by decide +kernel
theorem dX12_ofHome_119 : decode cX12_ofHome 119 = .ok (.istore_n 3, 1) := by decide +kernel
theorem dX12_ofHome_120 : decode cX12_ofHome 120 = .ok (.iconst 0, 1) := by decide +kernel
theorem dX12_ofHome_121 : decode cX12_ofHome 121 = .ok (.istore 4, 2) := by decide +kernel
theorem dX12_ofHome_123 : decode cX12_ofHome 123 = .ok (.iload 4, 2) := by decide +kernel
theorem dX12_ofHome_125 : decode cX12_ofHome 125 = .ok (.aload_n 0, 1) := by decide +kernel
theorem dX12_ofHome_126 : decode cX12_ofHome 126 = .ok (.getfield 187, 3) := by decide +kernel
theorem dX12_ofHome_129 : decode cX12_ofHome 129 = .ok (.if_icmp .ge 28, 3) := by decide +kernel
theorem dX12_ofHome_132 : decode cX12_ofHome 132 = .ok (.iload_n 3, 1) := by decide +kernel
theorem dX12_ofHome_133 : decode cX12_ofHome 133 = .ok (.aload_n 0, 1) := by decide +kernel
theorem dX12_ofHome_134 : decode cX12_ofHome 134 = .ok (.getfield 55, 3) := by decide +kernel
theorem dX12_ofHome_137 : decode cX12_ofHome 137 = .ok (.iload 4, 2) := by decide +kernel
theorem dX12_ofHome_139 : decode cX12_ofHome 139 = .ok (.iaload, 1) := by decide +kernel
theorem dX12_ofHome_140 : decode cX12_ofHome 140 = .ok (.iload_n 1, 1) := by decide +kernel
theorem dX12_ofHome_141 : decode cX12_ofHome 141 = .ok (.if_icmp .ne 7, 3) := by decide +kernel
theorem dX12_ofHome_144 : decode cX12_ofHome 144 = .ok (.iconst 1, 1) := by decide +kernel
theorem dX12_ofHome_145 : decode cX12_ofHome 145 = .ok (.goto 4, 3) := by decide +kernel
theorem dX12_ofHome_148 : decode cX12_ofHome 148 = .ok (.iconst 0, 1) := by decide +kernel
theorem dX12_ofHome_149 : decode cX12_ofHome 149 = .ok (.iadd, 1) := by decide +kernel
theorem dX12_ofHome_150 : decode cX12_ofHome 150 = .ok (.istore_n 3, 1) := by decide +kernel
theorem dX12_ofHome_151 : decode cX12_ofHome 151 = .ok (.iinc 4 1, 3) := by decide +kernel
theorem dX12_ofHome_154 : decode cX12_ofHome 154 = .ok (.goto (-31), 3) := by decide +kernel
theorem dX12_ofHome_157 : decode cX12_ofHome 157 = .ok (.iload_n 3, 1) := by decide +kernel
theorem dX12_ofHome_158 : decode cX12_ofHome 158 = .ok (.ireturn, 1) := by decide +kernel
theorem dX12_ofHome_159 : decode cX12_ofHome 159 = .ok (.aload_n 0, 1) := by decide +kernel
theorem dX12_ofHome_160 : decode cX12_ofHome 160 = .ok (.iload_n 1, 1) := by decide +kernel
theorem dX12_ofHome_161 : decode cX12_ofHome 161 = .ok (.invokevirtual 214, 3) := by decide +kernel
theorem dX12_ofHome_164 : decode cX12_ofHome 164 = .ok (.ireturn, 1) := by decide +kernel
theorem dX12_ofHome_165 : decode cX12_ofHome 165 = .ok (.aload_n 0, 1) := by decide +kernel
theorem dX12_ofHome_166 : decode cX12_ofHome 166 = .ok (.iload_n 1, 1) := by decide +kernel
theorem dX12_ofHome_167 : decode cX12_ofHome 167 = .ok (.invokevirtual 217, 3) := by decide +kernel
theorem dX12_ofHome_170 : decode cX12_ofHome 170 = .ok (.ireturn, 1) := by decide +kernel
theorem dX12_ofHome_171 : decode cX12_ofHome 171 = .ok (.aload_n 0, 1) := by decide +kernel
theorem dX12_ofHome_172 : decode cX12_ofHome 172 = .ok (.iload_n 1, 1) := by decide +kernel
theorem dX12_ofHome_173 : decode cX12_ofHome 173 = .ok (.invokevirtual 220, 3) := by decide +kernel
theorem dX12_ofHome_176 : decode cX12_ofHome 176 = .ok (.ireturn, 1) := by decide +kernel
theorem dX12_ofHome_177 : decode cX12_ofHome 177 = .ok (.aload_n 0, 1) := by decide +kernel
theorem dX12_ofHome_178 : decode cX12_ofHome 178 = .ok (.getfield 37, 3) := by decide +kernel
theorem dX12_ofHome_181 : decode cX12_ofHome 181 = .ok (.iload_n 1, 1) := by decide +kernel
theorem dX12_ofHome_182 : decode cX12_ofHome 182 = .ok (.iaload, 1) := by decide +kernel
theorem dX12_ofHome_183 : decode cX12_ofHome 183 = .ok (.ireturn, 1) := by decide +kernel
theorem dX12_ofHome_184 : decode cX12_ofHome 184 = .ok (.aload_n 0, 1) := by decide +kernel
theorem dX12_ofHome_185 : decode cX12_ofHome 185 = .ok (.getfield 40, 3) := by decide +kernel
theorem dX12_ofHome_188 : decode cX12_ofHome 188 = .ok (.iload_n 1, 1) := by decide +kernel
theorem dX12_ofHome_189 : decode cX12_ofHome 189 = .ok (.iaload, 1) := by decide +kernel
theorem dX12_ofHome_190 : decode cX12_ofHome 190 = .ok (.ireturn, 1) := by decide +kernel
theorem dX12_ofHome_191 : decode cX12_ofHome 191 = .ok (.aload_n 0, 1) := by decide +kernel
theorem dX12_ofHome_192 : decode cX12_ofHome 192 = .ok (.getfield 43, 3) := by decide +kernel
theorem dX12_ofHome_195 : decode cX12_ofHome 195 = .ok (.iload_n 1, 1) := by decide +kernel
theorem dX12_ofHome_196 : decode cX12_ofHome 196 = .ok (.iaload, 1) := by decide +kernel
theorem dX12_ofHome_197 : decode cX12_ofHome 197 = .ok (.ireturn, 1) := by decide +kernel
theorem dX12_ofHome_198 : decode cX12_ofHome 198 = .ok (.iconst (-1), 1) := by decide +kernel
theorem dX12_ofHome_199 : decode cX12_ofHome 199 = .ok (.ireturn, 1) := by decide +kernel
theorem dX12_kind_0 : decode cX12_kind 0 = .ok (.iload_n 1, 1) := by decide +kernel
theorem dX12_kind_1 : decode cX12_kind 1 = .ok (.invokestatic 198, 3) := by decide +kernel
theorem dX12_kind_4 : decode cX12_kind 4 = .ok (.ifCond .eq 24, 3) := by decide +kernel
theorem dX12_kind_7 : decode cX12_kind 7 = .ok (.iload_n 2, 1) := by decide +kernel
theorem dX12_kind_8 : decode cX12_kind 8 = .ok (.iconst 1, 1) := by decide +kernel
theorem dX12_kind_9 : decode cX12_kind 9 = .ok (.sipush 999, 3) := by decide +kernel
theorem dX12_kind_12 : decode cX12_kind 12 = .ok (.invokestatic 177, 3) := by decide +kernel
theorem dX12_kind_15 : decode cX12_kind 15 = .ok (.ifCond .eq 13, 3) := by decide +kernel
theorem dX12_kind_18 : decode cX12_kind 18 = .ok (.iload_n 3, 1) := by decide +kernel
theorem dX12_kind_19 : decode cX12_kind 19 = .ok (.iconst 0, 1) := by decide +kernel
theorem dX12_kind_20 : decode cX12_kind 20 = .ok (.bipush 7, 2) := by decide +kernel
theorem dX12_kind_22 : decode cX12_kind 22 = .ok (.invokestatic 177, 3) := by decide +kernel
theorem dX12_kind_25 : decode cX12_kind 25 = .ok (.ifCond .ne 5, 3) := by decide +kernel
theorem dX12_kind_28 : decode cX12_kind 28 = .ok (.iconst (-1), 1) := by decide +kernel
theorem dX12_kind_29 : decode cX12_kind 29 = .ok (.ireturn, 1) := by decide +kernel
theorem dX12_kind_30 : decode cX12_kind 30 = .ok (.aload_n 0, 1) := by decide +kernel
theorem dX12_kind_31 : decode cX12_kind 31 = .ok (.getfield 184, 3) := by decide +kernel
theorem dX12_kind_34 : decode cX12_kind 34 = .ok (.bipush 20, 2) := by decide +kernel
theorem dX12_kind_36 : decode cX12_kind 36 = .ok (.if_icmp .ne 6, 3) := by decide +kernel
theorem dX12_kind_39 : decode cX12_kind 39 = .ok (.bipush (-2), 2) := by decide +kernel
theorem dX12_kind_41 : decode cX12_kind 41 = .ok (.ireturn, 1) := by decide +kernel
theorem dX12_kind_42 : decode cX12_kind 42 = .ok (.aload_n 0, 1) := by decide +kernel
theorem dX12_kind_43 : decode cX12_kind 43 = .ok (.getfield 46, 3) := by decide +kernel
theorem dX12_kind_46 : decode cX12_kind 46 = .ok (.aload_n 0, 1) := by decide +kernel
theorem dX12_kind_47 : decode cX12_kind 47 = .ok (.getfield 184, 3) := by decide +kernel
theorem dX12_kind_50 : decode cX12_kind 50 = .ok (.iload_n 1, 1) := by decide +kernel
theorem dX12_kind_51 : decode cX12_kind 51 = .ok (.iastore, 1) := by decide +kernel
theorem dX12_kind_52 : decode cX12_kind 52 = .ok (.aload_n 0, 1) := by decide +kernel
theorem dX12_kind_53 : decode cX12_kind 53 = .ok (.getfield 49, 3) := by decide +kernel
theorem dX12_kind_56 : decode cX12_kind 56 = .ok (.aload_n 0, 1) := by decide +kernel
theorem dX12_kind_57 : decode cX12_kind 57 = .ok (.getfield 184, 3) := by decide +kernel
theorem dX12_kind_60 : decode cX12_kind 60 = .ok (.iload_n 2, 1) := by decide +kernel
theorem dX12_kind_61 : decode cX12_kind 61 = .ok (.iastore, 1) := by decide +kernel
theorem dX12_kind_62 : decode cX12_kind 62 = .ok (.aload_n 0, 1) := by decide +kernel
theorem dX12_kind_63 : decode cX12_kind 63 = .ok (.getfield 52, 3) := by decide +kernel
theorem dX12_kind_66 : decode cX12_kind 66 = .ok (.aload_n 0, 1) := by decide +kernel
theorem dX12_kind_67 : decode cX12_kind 67 = .ok (.getfield 184, 3) := by decide +kernel
theorem dX12_kind_70 : decode cX12_kind 70 = .ok (.iload_n 3, 1) := by decide +kernel
theorem dX12_kind_71 : decode cX12_kind 71 = .ok (.iastore, 1) := by decide +kernel
theorem dX12_kind_72 : decode cX12_kind 72 = .ok (.aload_n 0, 1) := by decide +kernel
theorem dX12_kind_73 : decode cX12_kind 73 = .ok (.dup, 1) := by decide +kernel
theorem dX12_kind_74 : decode cX12_kind 74 = .ok (.getfield 184, 3) := by decide +kernel
theorem dX12_kind_77 : decode cX12_kind 77 = .ok (.iconst 1, 1) := by decide +kernel
theorem dX12_kind_78 : decode cX12_kind 78 = .ok (.iadd, 1) := by decide +kernel
theorem dX12_kind_79 : decode cX12_kind 79 = .ok (.putfield 184, 3) := by decide +kernel
theorem dX12_kind_82 : decode cX12_kind 82 = .ok (.aload_n 0, 1) := by decide +kernel
theorem dX12_kind_83 : decode cX12_kind 83 = .ok (.getfield 184, 3) := by decide +kernel
theorem dX12_kind_86 : decode cX12_kind 86 = .ok (.iconst 1, 1) := by decide +kernel
theorem dX12_kind_87 : decode cX12_kind 87 = .ok (.isub, 1) := by decide +kernel
theorem dX12_kind_88 : decode cX12_kind 88 = .ok (.ireturn, 1) := by decide +kernel
theorem dX12_become_0 : decode cX12_become 0 = .ok (.bipush 30, 2) := by decide +kernel
theorem dX12_become_2 : decode cX12_become 2 = .ok (.iload_n 1, 1) := by decide +kernel
theorem dX12_become_3 : decode cX12_become 3 = .ok (.imul, 1) := by decide +kernel
theorem dX12_become_4 : decode cX12_become 4 = .ok (.aload_n 0, 1) := by decide +kernel
theorem dX12_become_5 : decode cX12_become 5 = .ok (.getfield 89, 3) := by decide +kernel
theorem dX12_become_8 : decode cX12_become 8 = .ok (.iload_n 1, 1) := by decide +kernel
theorem dX12_become_9 : decode cX12_become 9 = .ok (.iaload, 1) := by decide +kernel
theorem dX12_become_10 : decode cX12_become 10 = .ok (.iadd, 1) := by decide +kernel
theorem dX12_become_11 : decode cX12_become 11 = .ok (.istore 4, 2) := by decide +kernel
theorem dX12_become_13 : decode cX12_become 13 = .ok (.aload_n 0, 1) := by decide +kernel
theorem dX12_become_14 : decode cX12_become 14 = .ok (.getfield 80, 3) := by decide +kernel
theorem dX12_become_17 : decode cX12_become 17 = .ok (.iload 4, 2) := by decide +kernel
theorem dX12_become_19 : decode cX12_become 19 = .ok (.iload_n 2, 1) := by decide +kernel
theorem dX12_become_20 : decode cX12_become 20 = .ok (.iastore, 1) := by decide +kernel
theorem dX12_become_21 : decode cX12_become 21 = .ok (.aload_n 0, 1) := by decide +kernel
theorem dX12_become_22 : decode cX12_become 22 = .ok (.getfield 83, 3) := by decide +kernel
theorem dX12_become_25 : decode cX12_become 25 = .ok (.iload 4, 2) := by decide +kernel
theorem dX12_become_27 : decode cX12_become 27 = .ok (.aload_n 0, 1) := by decide +kernel
theorem dX12_become_28 : decode cX12_become 28 = .ok (.getfield 190, 3) := by decide +kernel
theorem dX12_become_31 : decode cX12_become 31 = .ok (.iastore, 1) := by decide +kernel
theorem dX12_become_32 : decode cX12_become 32 = .ok (.aload_n 0, 1) := by decide +kernel
theorem dX12_become_33 : decode cX12_become 33 = .ok (.getfield 86, 3) := by decide +kernel
theorem dX12_become_36 : decode cX12_become 36 = .ok (.iload 4, 2) := by decide +kernel
theorem dX12_become_38 : decode cX12_become 38 = .ok (.iload_n 3, 1) := by decide +kernel
theorem dX12_become_39 : decode cX12_become 39 = .ok (.iastore, 1) := by decide +kernel
theorem dX12_become_40 : decode cX12_become 40 = .ok (.aload_n 0, 1) := by decide +kernel
theorem dX12_become_41 : decode cX12_become 41 = .ok (.getfield 89, 3) := by decide +kernel
theorem dX12_become_44 : decode cX12_become 44 = .ok (.iload_n 1, 1) := by decide +kernel
theorem dX12_become_45 : decode cX12_become 45 = .ok (.dup2, 1) := by decide +kernel
theorem dX12_become_46 : decode cX12_become 46 = .ok (.iaload, 1) := by decide +kernel
theorem dX12_become_47 : decode cX12_become 47 = .ok (.iconst 1, 1) := by decide +kernel
theorem dX12_become_48 : decode cX12_become 48 = .ok (.iadd, 1) := by decide +kernel
theorem dX12_become_49 : decode cX12_become 49 = .ok (.iastore, 1) := by decide +kernel
theorem dX12_become_50 : decode cX12_become 50 = .ok (.return_, 1) := by decide +kernel
theorem dX12_stateNow_0 : decode cX12_stateNow 0 = .ok (.aload_n 0, 1) := by decide +kernel
theorem dX12_stateNow_1 : decode cX12_stateNow 1 = .ok (.getfield 80, 3) := by decide +kernel
theorem dX12_stateNow_4 : decode cX12_stateNow 4 = .ok (.bipush 30, 2) := by decide +kernel
theorem dX12_stateNow_6 : decode cX12_stateNow 6 = .ok (.iload_n 1, 1) := by decide +kernel
theorem dX12_stateNow_7 : decode cX12_stateNow 7 = .ok (.imul, 1) := by decide +kernel
theorem dX12_stateNow_8 : decode cX12_stateNow 8 = .ok (.aload_n 0, 1) := by decide +kernel
theorem dX12_stateNow_9 : decode cX12_stateNow 9 = .ok (.getfield 89, 3) := by decide +kernel
theorem dX12_stateNow_12 : decode cX12_stateNow 12 = .ok (.iload_n 1, 1) := by decide +kernel
theorem dX12_stateNow_13 : decode cX12_stateNow 13 = .ok (.iaload, 1) := by decide +kernel
theorem dX12_stateNow_14 : decode cX12_stateNow 14 = .ok (.iadd, 1) := by decide +kernel
theorem dX12_stateNow_15 : decode cX12_stateNow 15 = .ok (.iconst 1, 1) := by decide +kernel
theorem dX12_stateNow_16 : decode cX12_stateNow 16 = .ok (.isub, 1) := by decide +kernel
theorem dX12_stateNow_17 : decode cX12_stateNow 17 = .ok (.iaload, 1) := by decide +kernel
theorem dX12_stateNow_18 : decode cX12_stateNow 18 = .ok (.ireturn, 1) := by decide +kernel
theorem dX12_stateOn_0 : decode cX12_stateOn 0 = .ok (.iconst (-1), 1) := by decide +kernel
theorem dX12_stateOn_1 : decode cX12_stateOn 1 = .ok (.istore_n 3, 1) := by decide +kernel
theorem dX12_stateOn_2 : decode cX12_stateOn 2 = .ok (.bipush 30, 2) := by decide +kernel
theorem dX12_stateOn_4 : decode cX12_stateOn 4 = .ok (.iload_n 1, 1) := by decide +kernel
theorem dX12_stateOn_5 : decode cX12_stateOn 5 = .ok (.imul, 1) := by decide +kernel
theorem dX12_stateOn_6 : decode cX12_stateOn 6 = .ok (.istore 4, 2) := by decide +kernel
theorem dX12_stateOn_8 : decode cX12_stateOn 8 = .ok (.iload 4, 2) := by decide +kernel
theorem dX12_stateOn_10 : decode cX12_stateOn 10 = .ok (.bipush 30, 2) := by decide +kernel
theorem dX12_stateOn_12 : decode cX12_stateOn 12 = .ok (.iload_n 1, 1) := by decide +kernel
theorem dX12_stateOn_13 : decode cX12_stateOn 13 = .ok (.imul, 1) := by decide +kernel
theorem dX12_stateOn_14 : decode cX12_stateOn 14 = .ok (.aload_n 0, 1) := by decide +kernel
theorem dX12_stateOn_15 : decode cX12_stateOn 15 = .ok (.getfield 89, 3) := by decide +kernel
theorem dX12_stateOn_18 : decode cX12_stateOn 18 = .ok (.iload_n 1, 1) := by decide +kernel
theorem dX12_stateOn_19 : decode cX12_stateOn 19 = .ok (.iaload, 1) := by decide +kernel
theorem dX12_stateOn_20 : decode cX12_stateOn 20 = .ok (.iadd, 1) := by decide +kernel
theorem dX12_stateOn_21 : decode cX12_stateOn 21 = .ok (.if_icmp .ge 32, 3) := by decide +kernel
theorem dX12_stateOn_24 : decode cX12_stateOn 24 = .ok (.aload_n 0, 1) := by decide +kernel
theorem dX12_stateOn_25 : decode cX12_stateOn 25 = .ok (.getfield 83, 3) := by decide +kernel
theorem dX12_stateOn_28 : decode cX12_stateOn 28 = .ok (.iload 4, 2) := by decide +kernel
theorem dX12_stateOn_30 : decode cX12_stateOn 30 = .ok (.iaload, 1) := by decide +kernel
theorem dX12_stateOn_31 : decode cX12_stateOn 31 = .ok (.iload_n 2, 1) := by decide +kernel
theorem dX12_stateOn_32 : decode cX12_stateOn 32 = .ok (.if_icmp .gt 13, 3) := by decide +kernel
theorem dX12_stateOn_35 : decode cX12_stateOn 35 = .ok (.aload_n 0, 1) := by decide +kernel
theorem dX12_stateOn_36 : decode cX12_stateOn 36 = .ok (.getfield 80, 3) := by decide +kernel
theorem dX12_stateOn_39 : decode cX12_stateOn 39 = .ok (.iload 4, 2) := by decide +kernel
theorem dX12_stateOn_41 : decode cX12_stateOn 41 = .ok (.iaload, 1) := by decide +kernel
theorem dX12_stateOn_42 : decode cX12_stateOn 42 = .ok (.goto 4, 3) := by decide +kernel
theorem dX12_stateOn_45 : decode cX12_stateOn 45 = .ok (.iload_n 3, 1) := by decide +kernel
theorem dX12_stateOn_46 : decode cX12_stateOn 46 = .ok (.istore_n 3, 1) := by decide +kernel
theorem dX12_stateOn_47 : decode cX12_stateOn 47 = .ok (.iinc 4 1, 3) := by decide +kernel
theorem dX12_stateOn_50 : decode cX12_stateOn 50 = .ok (.goto (-42), 3) := by decide +kernel
theorem dX12_stateOn_53 : decode cX12_stateOn 53 = .ok (.iload_n 3, 1) := by decide +kernel
theorem dX12_stateOn_54 : decode cX12_stateOn 54 = .ok (.ireturn, 1) := by decide +kernel
theorem dX12_fault_0 : decode cX12_fault 0 = .ok (.iload_n 1, 1) := by decide +kernel
theorem dX12_fault_1 : decode cX12_fault 1 = .ok (.ifCond .lt 43, 3) := by decide +kernel
theorem dX12_fault_4 : decode cX12_fault 4 = .ok (.aload_n 0, 1) := by decide +kernel
theorem dX12_fault_5 : decode cX12_fault 5 = .ok (.iload_n 1, 1) := by decide +kernel
theorem dX12_fault_6 : decode cX12_fault 6 = .ok (.bipush 12, 2) := by decide +kernel
theorem dX12_fault_8 : decode cX12_fault 8 = .ok (.idiv, 1) := by decide +kernel
theorem dX12_fault_9 : decode cX12_fault 9 = .ok (.invokevirtual 193, 3) := by decide +kernel
theorem dX12_fault_12 : decode cX12_fault 12 = .ok (.ifCond .eq 32, 3) := by decide +kernel
theorem dX12_fault_15 : decode cX12_fault 15 = .ok (.aload_n 0, 1) := by decide +kernel
theorem dX12_fault_16 : decode cX12_fault 16 = .ok (.iload_n 2, 1) := by decide +kernel
theorem dX12_fault_17 : decode cX12_fault 17 = .ok (.invokevirtual 223, 3) := by decide +kernel
theorem dX12_fault_20 : decode cX12_fault 20 = .ok (.ifCond .eq 24, 3) := by decide +kernel
theorem dX12_fault_23 : decode cX12_fault 23 = .ok (.iload_n 3, 1) := by decide +kernel
theorem dX12_fault_24 : decode cX12_fault 24 = .ok (.iconst 1, 1) := by decide +kernel
theorem dX12_fault_25 : decode cX12_fault 25 = .ok (.bipush 9, 2) := by decide +kernel
theorem dX12_fault_27 : decode cX12_fault 27 = .ok (.invokestatic 177, 3) := by decide +kernel
theorem dX12_fault_30 : decode cX12_fault 30 = .ok (.ifCond .eq 14, 3) := by decide +kernel
theorem dX12_fault_33 : decode cX12_fault 33 = .ok (.iload 4, 2) := by decide +kernel
theorem dX12_fault_35 : decode cX12_fault 35 = .ok (.iconst 0, 1) := by decide +kernel
theorem dX12_fault_36 : decode cX12_fault 36 = .ok (.bipush 10, 2) := by decide +kernel
theorem dX12_fault_38 : decode cX12_fault 38 = .ok (.invokestatic 177, 3) := by decide +kernel
theorem dX12_fault_41 : decode cX12_fault 41 = .ok (.ifCond .ne 5, 3) := by decide +kernel
theorem dX12_fault_44 : decode cX12_fault 44 = .ok (.iconst (-1), 1) := by decide +kernel
theorem dX12_fault_45 : decode cX12_fault 45 = .ok (.ireturn, 1) := by decide +kernel
theorem dX12_fault_46 : decode cX12_fault 46 = .ok (.aload_n 0, 1) := by decide +kernel
theorem dX12_fault_47 : decode cX12_fault 47 = .ok (.getfield 187, 3) := by decide +kernel
theorem dX12_fault_50 : decode cX12_fault 50 = .ok (.sipush 200, 3) := by decide +kernel
theorem dX12_fault_53 : decode cX12_fault 53 = .ok (.if_icmp .ne 6, 3) := by decide +kernel
theorem dX12_fault_56 : decode cX12_fault 56 = .ok (.bipush (-2), 2) := by decide +kernel
theorem dX12_fault_58 : decode cX12_fault 58 = .ok (.ireturn, 1) := by decide +kernel
theorem dX12_fault_59 : decode cX12_fault 59 = .ok (.aload_n 0, 1) := by decide +kernel
theorem dX12_fault_60 : decode cX12_fault 60 = .ok (.getfield 187, 3) := by decide +kernel
theorem dX12_fault_63 : decode cX12_fault 63 = .ok (.istore 5, 2) := by decide +kernel
theorem dX12_fault_65 : decode cX12_fault 65 = .ok (.iload_n 1, 1) := by decide +kernel
theorem dX12_fault_66 : decode cX12_fault 66 = .ok (.bipush 12, 2) := by decide +kernel
theorem dX12_fault_68 : decode cX12_fault 68 = .ok (.idiv, 1) := by decide +kernel
theorem dX12_fault_69 : decode cX12_fault 69 = .ok (.istore 6, 2) := by decide +kernel
theorem dX12_fault_71 : decode cX12_fault 71 = .ok (.aload_n 0, 1) := by decide +kernel
theorem dX12_fault_72 : decode cX12_fault 72 = .ok (.getfield 55, 3) := by decide +kernel
theorem dX12_fault_75 : decode cX12_fault 75 = .ok (.iload 5, 2) := by decide +kernel
theorem dX12_fault_77 : decode cX12_fault 77 = .ok (.iload 6, 2) := by decide +kernel
theorem dX12_fault_79 : decode cX12_fault 79 = .ok (.iastore, 1) := by decide +kernel
theorem dX12_fault_80 : decode cX12_fault 80 = .ok (.aload_n 0, 1) := by decide +kernel
theorem dX12_fault_81 : decode cX12_fault 81 = .ok (.getfield 58, 3) := by decide +kernel
theorem dX12_fault_84 : decode cX12_fault 84 = .ok (.iload 5, 2) := by decide +kernel
theorem dX12_fault_86 : decode cX12_fault 86 = .ok (.iload_n 1, 1) := by decide +kernel
theorem dX12_fault_87 : decode cX12_fault 87 = .ok (.bipush 12, 2) := by decide +kernel
theorem dX12_fault_89 : decode cX12_fault 89 = .ok (.irem, 1) := by decide +kernel
theorem dX12_fault_90 : decode cX12_fault 90 = .ok (.iastore, 1) := by decide +kernel
theorem dX12_fault_91 : decode cX12_fault 91 = .ok (.aload_n 0, 1) := by decide +kernel
theorem dX12_fault_92 : decode cX12_fault 92 = .ok (.getfield 61, 3) := by decide +kernel
theorem dX12_fault_95 : decode cX12_fault 95 = .ok (.iload 5, 2) := by decide +kernel
theorem dX12_fault_97 : decode cX12_fault 97 = .ok (.iload_n 2, 1) := by decide +kernel
theorem dX12_fault_98 : decode cX12_fault 98 = .ok (.iastore, 1) := by decide +kernel
theorem dX12_fault_99 : decode cX12_fault 99 = .ok (.aload_n 0, 1) := by decide +kernel
theorem dX12_fault_100 : decode cX12_fault 100 = .ok (.getfield 64, 3) := by decide +kernel
theorem dX12_fault_103 : decode cX12_fault 103 = .ok (.iload 5, 2) := by decide +kernel
theorem dX12_fault_105 : decode cX12_fault 105 = .ok (.iload_n 3, 1) := by decide +kernel
theorem dX12_fault_106 : decode cX12_fault 106 = .ok (.iastore, 1) := by decide +kernel
theorem dX12_fault_107 : decode cX12_fault 107 = .ok (.aload_n 0, 1) := by decide +kernel
theorem dX12_fault_108 : decode cX12_fault 108 = .ok (.getfield 67, 3) := by decide +kernel
theorem dX12_fault_111 : decode cX12_fault 111 = .ok (.iload 5, 2) := by decide +kernel
theorem dX12_fault_113 : decode cX12_fault 113 = .ok (.aload_n 0, 1) := by decide +kernel
theorem dX12_fault_114 : decode cX12_fault 114 = .ok (.getfield 190, 3) := by decide +kernel
theorem dX12_fault_117 : decode cX12_fault 117 = .ok (.iastore, 1) := by decide +kernel
theorem dX12_fault_118 : decode cX12_fault 118 = .ok (.aload_n 0, 1) := by decide +kernel
theorem dX12_fault_119 : decode cX12_fault 119 = .ok (.getfield 70, 3) := by decide +kernel
theorem dX12_fault_122 : decode cX12_fault 122 = .ok (.iload 5, 2) := by decide +kernel
theorem dX12_fault_124 : decode cX12_fault 124 = .ok (.iload 4, 2) := by decide +kernel
theorem dX12_fault_126 : decode cX12_fault 126 = .ok (.iastore, 1) := by decide +kernel
theorem dX12_fault_127 : decode cX12_fault 127 = .ok (.aload_n 0, 1) := by decide +kernel
theorem dX12_fault_128 : decode cX12_fault 128 = .ok (.getfield 73, 3) := by decide +kernel
theorem dX12_fault_131 : decode cX12_fault 131 = .ok (.iload 5, 2) := by decide +kernel
theorem dX12_fault_133 : decode cX12_fault 133 = .ok (.aload_n 0, 1) := by decide +kernel
theorem dX12_fault_134 : decode cX12_fault 134 = .ok (.getfield 22, 3) := by decide +kernel
theorem dX12_fault_137 : decode cX12_fault 137 = .ok (.iload 6, 2) := by decide +kernel
theorem dX12_fault_139 : decode cX12_fault 139 = .ok (.iaload, 1) := by decide +kernel
theorem dX12_fault_140 : decode cX12_fault 140 = .ok (.ifCond .lt 17, 3) := by decide +kernel
theorem dX12_fault_143 : decode cX12_fault 143 = .ok (.aload_n 0, 1) := by decide +kernel
theorem dX12_fault_144 : decode cX12_fault 144 = .ok (.getfield 190, 3) := by decide +kernel
theorem dX12_fault_147 : decode cX12_fault 147 = .ok (.aload_n 0, 1) := by decide +kernel
theorem dX12_fault_148 : decode cX12_fault 148 = .ok (.getfield 22, 3) := by decide +kernel
theorem dX12_fault_151 : decode cX12_fault 151 = .ok (.iload 6, 2) := by decide +kernel
theorem dX12_fault_153 : decode cX12_fault 153 = .ok (.iaload, 1) := by decide +kernel
theorem dX12_fault_154 : decode cX12_fault 154 = .ok (.if_icmp .gt 7, 3) := by decide +kernel
theorem dX12_fault_157 : decode cX12_fault 157 = .ok (.iconst 1, 1) := by decide +kernel
theorem dX12_fault_158 : decode cX12_fault 158 = .ok (.goto 4, 3) := by decide +kernel
theorem dX12_fault_161 : decode cX12_fault 161 = .ok (.iconst 0, 1) := by decide +kernel
theorem dX12_fault_162 : decode cX12_fault 162 = .ok (.bastore, 1) := by decide +kernel
theorem dX12_fault_163 : decode cX12_fault 163 = .ok (.aload_n 0, 1) := by decide +kernel
theorem dX12_fault_164 : decode cX12_fault 164 = .ok (.getfield 73, 3) := by decide +kernel
theorem dX12_fault_167 : decode cX12_fault 167 = .ok (.iload 5, 2) := by decide +kernel
theorem dX12_fault_169 : decode cX12_fault 169 = .ok (.baload, 1) := by decide +kernel
theorem dX12_fault_170 : decode cX12_fault 170 = .ok (.istore 7, 2) := by decide +kernel
theorem dX12_fault_172 : decode cX12_fault 172 = .ok (.iconst 0, 1) := by decide +kernel
theorem dX12_fault_173 : decode cX12_fault 173 = .ok (.istore 8, 2) := by decide +kernel
theorem dX12_fault_175 : decode cX12_fault 175 = .ok (.iload 8, 2) := by decide +kernel
theorem dX12_fault_177 : decode cX12_fault 177 = .ok (.iload 5, 2) := by decide +kernel
theorem dX12_fault_179 : decode cX12_fault 179 = .ok (.if_icmp .ge 103, 3) := by decide +kernel
theorem dX12_fault_182 : decode cX12_fault 182 = .ok (.aload_n 0, 1) := by decide +kernel
theorem dX12_fault_183 : decode cX12_fault 183 = .ok (.getfield 55, 3) := by decide +kernel
theorem dX12_fault_186 : decode cX12_fault 186 = .ok (.iload 8, 2) := by decide +kernel
theorem dX12_fault_188 : decode cX12_fault 188 = .ok (.iaload, 1) := by decide +kernel
theorem dX12_fault_189 : decode cX12_fault 189 = .ok (.iload 6, 2) := by decide +kernel
theorem dX12_fault_191 : decode cX12_fault 191 = .ok (.if_icmp .ne 45, 3) := by decide +kernel
theorem dX12_fault_194 : decode cX12_fault 194 = .ok (.aload_n 0, 1) := by decide +kernel
theorem dX12_fault_195 : decode cX12_fault 195 = .ok (.getfield 58, 3) := by decide +kernel
theorem dX12_fault_198 : decode cX12_fault 198 = .ok (.iload 8, 2) := by decide +kernel
theorem dX12_fault_200 : decode cX12_fault 200 = .ok (.iaload, 1) := by decide +kernel
theorem dX12_fault_201 : decode cX12_fault 201 = .ok (.aload_n 0, 1) := by decide +kernel
theorem dX12_fault_202 : decode cX12_fault 202 = .ok (.getfield 58, 3) := by decide +kernel
theorem dX12_fault_205 : decode cX12_fault 205 = .ok (.iload 5, 2) := by decide +kernel
theorem dX12_fault_207 : decode cX12_fault 207 = .ok (.iaload, 1) := by decide +kernel
theorem dX12_fault_208 : decode cX12_fault 208 = .ok (.if_icmp .ne 28, 3) := by decide +kernel
theorem dX12_fault_211 : decode cX12_fault 211 = .ok (.aload_n 0, 1) := by decide +kernel
theorem dX12_fault_212 : decode cX12_fault 212 = .ok (.getfield 61, 3) := by decide +kernel
theorem dX12_fault_215 : decode cX12_fault 215 = .ok (.iload 8, 2) := by decide +kernel
theorem dX12_fault_217 : decode cX12_fault 217 = .ok (.iaload, 1) := by decide +kernel
theorem dX12_fault_218 : decode cX12_fault 218 = .ok (.iload_n 2, 1) := by decide +kernel
theorem dX12_fault_219 : decode cX12_fault 219 = .ok (.if_icmp .ne 17, 3) := by decide +kernel
theorem dX12_fault_222 : decode cX12_fault 222 = .ok (.aload_n 0, 1) := by decide +kernel
theorem dX12_fault_223 : decode cX12_fault 223 = .ok (.iload 8, 2) := by decide +kernel
theorem dX12_fault_225 : decode cX12_fault 225 = .ok (.invokevirtual 226, 3) := by decide +kernel
theorem dX12_fault_228 : decode cX12_fault 228 = .ok (.iconst 4, 1) := by decide +kernel
theorem dX12_fault_229 : decode cX12_fault 229 = .ok (.if_icmp .eq 7, 3) := by decide +kernel
theorem dX12_fault_232 : decode cX12_fault 232 = .ok (.iconst 1, 1) := by decide +kernel
theorem dX12_fault_233 : decode cX12_fault 233 = .ok (.goto 4, 3) := by decide +kernel
theorem dX12_fault_236 : decode cX12_fault 236 = .ok (.iconst 0, 1) := by decide +kernel
theorem dX12_fault_237 : decode cX12_fault 237 = .ok (.istore 9, 2) := by decide +kernel
theorem dX12_fault_239 : decode cX12_fault 239 = .ok (.iload 7, 2) := by decide +kernel
theorem dX12_fault_241 : decode cX12_fault 241 = .ok (.ifCond .ne 28, 3) := by decide +kernel
theorem dX12_fault_244 : decode cX12_fault 244 = .ok (.iload 9, 2) := by decide +kernel
theorem dX12_fault_246 : decode cX12_fault 246 = .ok (.ifCond .eq 27, 3) := by decide +kernel
theorem dX12_fault_249 : decode cX12_fault 249 = .ok (.aload_n 0, 1) := by decide +kernel
theorem dX12_fault_250 : decode cX12_fault 250 = .ok (.getfield 73, 3) := by decide +kernel
theorem dX12_fault_253 : decode cX12_fault 253 = .ok (.iload 8, 2) := by decide +kernel
theorem dX12_fault_255 : decode cX12_fault 255 = .ok (.baload, 1) := by decide +kernel
theorem dX12_fault_256 : decode cX12_fault 256 = .ok (.ifCond .ne 13, 3) := by decide +kernel
theorem dX12_fault_259 : decode cX12_fault 259 = .ok (.aload_n 0, 1) := by decide +kernel
theorem dX12_fault_260 : decode cX12_fault 260 = .ok (.iload 8, 2) := by decide +kernel
theorem dX12_fault_262 : decode cX12_fault 262 = .ok (.invokevirtual 226, 3) := by decide +kernel
theorem dX12_fault_265 : decode cX12_fault 265 = .ok (.iconst 3, 1) := by decide +kernel
theorem dX12_fault_266 : decode cX12_fault 266 = .ok (.if_icmp .eq 7, 3) := by decide +kernel
theorem dX12_fault_269 : decode cX12_fault 269 = .ok (.iconst 1, 1) := by decide +kernel
theorem dX12_fault_270 : decode cX12_fault 270 = .ok (.goto 4, 3) := by decide +kernel
theorem dX12_fault_273 : decode cX12_fault 273 = .ok (.iconst 0, 1) := by decide +kernel
theorem dX12_fault_274 : decode cX12_fault 274 = .ok (.istore 7, 2) := by decide +kernel
theorem dX12_fault_276 : decode cX12_fault 276 = .ok (.iinc 8 1, 3) := by decide +kernel
theorem dX12_fault_279 : decode cX12_fault 279 = .ok (.goto (-104), 3) := by decide +kernel
theorem dX12_fault_282 : decode cX12_fault 282 = .ok (.aload_n 0, 1) := by decide +kernel
theorem dX12_fault_283 : decode cX12_fault 283 = .ok (.getfield 77, 3) := by decide +kernel
theorem dX12_fault_286 : decode cX12_fault 286 = .ok (.iload 5, 2) := by decide +kernel
theorem dX12_fault_288 : decode cX12_fault 288 = .ok (.iload 7, 2) := by decide +kernel
theorem dX12_fault_290 : decode cX12_fault 290 = .ok (.ifCond .ne 7, 3) := by decide +kernel
theorem dX12_fault_293 : decode cX12_fault 293 = .ok (.iconst 1, 1) := by decide +kernel
theorem dX12_fault_294 : decode cX12_fault 294 = .ok (.goto 4, 3) := by decide +kernel
theorem dX12_fault_297 : decode cX12_fault 297 = .ok (.iconst 0, 1) := by decide +kernel
theorem dX12_fault_298 : decode cX12_fault 298 = .ok (.bastore, 1) := by decide +kernel
theorem dX12_fault_299 : decode cX12_fault 299 = .ok (.aload_n 0, 1) := by decide +kernel
theorem dX12_fault_300 : decode cX12_fault 300 = .ok (.dup, 1) := by decide +kernel
theorem dX12_fault_301 : decode cX12_fault 301 = .ok (.getfield 187, 3) := by decide +kernel
theorem dX12_fault_304 : decode cX12_fault 304 = .ok (.iconst 1, 1) := by decide +kernel
theorem dX12_fault_305 : decode cX12_fault 305 = .ok (.iadd, 1) := by decide +kernel
theorem dX12_fault_306 : decode cX12_fault 306 = .ok (.putfield 187, 3) := by decide +kernel
theorem dX12_fault_309 : decode cX12_fault 309 = .ok (.aload_n 0, 1) := by decide +kernel
theorem dX12_fault_310 : decode cX12_fault 310 = .ok (.iload 5, 2) := by decide +kernel
theorem dX12_fault_312 : decode cX12_fault 312 = .ok (.iconst 0, 1) := by decide +kernel
theorem dX12_fault_313 : decode cX12_fault 313 = .ok (.iconst (-1), 1) := by decide +kernel
theorem dX12_fault_314 : decode cX12_fault 314 = .ok (.invokevirtual 229, 3) := by decide +kernel
theorem dX12_fault_317 : decode cX12_fault 317 = .ok (.iload 5, 2) := by decide +kernel
theorem dX12_fault_319 : decode cX12_fault 319 = .ok (.ireturn, 1) := by decide +kernel
theorem dX12_isOpen_0 : decode cX12_isOpen 0 = .ok (.aload_n 0, 1) := by decide +kernel
theorem dX12_isOpen_1 : decode cX12_isOpen 1 = .ok (.iload_n 1, 1) := by decide +kernel
theorem dX12_isOpen_2 : decode cX12_isOpen 2 = .ok (.invokevirtual 226, 3) := by decide +kernel
theorem dX12_isOpen_5 : decode cX12_isOpen 5 = .ok (.ifCond .eq 12, 3) := by decide +kernel
theorem dX12_isOpen_8 : decode cX12_isOpen 8 = .ok (.aload_n 0, 1) := by decide +kernel
theorem dX12_isOpen_9 : decode cX12_isOpen 9 = .ok (.iload_n 1, 1) := by decide +kernel
theorem dX12_isOpen_10 : decode cX12_isOpen 10 = .ok (.invokevirtual 226, 3) := by decide +kernel
theorem dX12_isOpen_13 : decode cX12_isOpen 13 = .ok (.iconst 1, 1) := by decide +kernel
theorem dX12_isOpen_14 : decode cX12_isOpen 14 = .ok (.if_icmp .ne 7, 3) := by decide +kernel
theorem dX12_isOpen_17 : decode cX12_isOpen 17 = .ok (.iconst 1, 1) := by decide +kernel
theorem dX12_isOpen_18 : decode cX12_isOpen 18 = .ok (.goto 4, 3) := by decide +kernel
theorem dX12_isOpen_21 : decode cX12_isOpen 21 = .ok (.iconst 0, 1) := by decide +kernel
theorem dX12_isOpen_22 : decode cX12_isOpen 22 = .ok (.ireturn, 1) := by decide +kernel
theorem dX12_promiseNow_0 : decode cX12_promiseNow 0 = .ok (.aload_n 0, 1) := by decide +kernel
theorem dX12_promiseNow_1 : decode cX12_promiseNow 1 = .ok (.getfield 92, 3) := by decide +kernel
theorem dX12_promiseNow_4 : decode cX12_promiseNow 4 = .ok (.iload_n 1, 1) := by decide +kernel
theorem dX12_promiseNow_5 : decode cX12_promiseNow 5 = .ok (.iaload, 1) := by decide +kernel
theorem dX12_promiseNow_6 : decode cX12_promiseNow 6 = .ok (.iconst 1, 1) := by decide +kernel
theorem dX12_promiseNow_7 : decode cX12_promiseNow 7 = .ok (.if_icmp .ne 20, 3) := by decide +kernel
theorem dX12_promiseNow_10 : decode cX12_promiseNow 10 = .ok (.aload_n 0, 1) := by decide +kernel
theorem dX12_promiseNow_11 : decode cX12_promiseNow 11 = .ok (.getfield 190, 3) := by decide +kernel
theorem dX12_promiseNow_14 : decode cX12_promiseNow 14 = .ok (.aload_n 0, 1) := by decide +kernel
theorem dX12_promiseNow_15 : decode cX12_promiseNow 15 = .ok (.getfield 95, 3) := by decide +kernel
theorem dX12_promiseNow_18 : decode cX12_promiseNow 18 = .ok (.iload_n 1, 1) := by decide +kernel
theorem dX12_promiseNow_19 : decode cX12_promiseNow 19 = .ok (.iaload, 1) := by decide +kernel
theorem dX12_promiseNow_20 : decode cX12_promiseNow 20 = .ok (.if_icmp .le 7, 3) := by decide +kernel
theorem dX12_promiseNow_23 : decode cX12_promiseNow 23 = .ok (.iconst 3, 1) := by decide +kernel
theorem dX12_promiseNow_24 : decode cX12_promiseNow 24 = .ok (.goto 9, 3) := by decide +kernel
theorem dX12_promiseNow_27 : decode cX12_promiseNow 27 = .ok (.aload_n 0, 1) := by decide +kernel
theorem dX12_promiseNow_28 : decode cX12_promiseNow 28 = .ok (.getfield 92, 3) := by decide +kernel
theorem dX12_promiseNow_31 : decode cX12_promiseNow 31 = .ok (.iload_n 1, 1) := by decide +kernel
theorem dX12_promiseNow_32 : decode cX12_promiseNow 32 = .ok (.iaload, 1) := by decide +kernel
theorem dX12_promiseNow_33 : decode cX12_promiseNow 33 = .ok (.ireturn, 1) := by decide +kernel
theorem dX12_promise_0 : decode cX12_promise 0 = .ok (.aload_n 0, 1) := by decide +kernel
theorem dX12_promise_1 : decode cX12_promise 1 = .ok (.iload_n 1, 1) := by decide +kernel
theorem dX12_promise_2 : decode cX12_promise 2 = .ok (.invokevirtual 233, 3) := by decide +kernel
theorem dX12_promise_5 : decode cX12_promise 5 = .ok (.ifCond .eq 17, 3) := by decide +kernel
theorem dX12_promise_8 : decode cX12_promise 8 = .ok (.iload_n 2, 1) := by decide +kernel
theorem dX12_promise_9 : decode cX12_promise 9 = .ok (.aload_n 0, 1) := by decide +kernel
theorem dX12_promise_10 : decode cX12_promise 10 = .ok (.getfield 190, 3) := by decide +kernel
theorem dX12_promise_13 : decode cX12_promise 13 = .ok (.sipush 9999, 3) := by decide +kernel
theorem dX12_promise_16 : decode cX12_promise 16 = .ok (.invokestatic 177, 3) := by decide +kernel
theorem dX12_promise_19 : decode cX12_promise 19 = .ok (.ifCond .ne 5, 3) := by decide +kernel
theorem dX12_promise_22 : decode cX12_promise 22 = .ok (.iconst (-1), 1) := by decide +kernel
theorem dX12_promise_23 : decode cX12_promise 23 = .ok (.ireturn, 1) := by decide +kernel
theorem dX12_promise_24 : decode cX12_promise 24 = .ok (.aload_n 0, 1) := by decide +kernel
theorem dX12_promise_25 : decode cX12_promise 25 = .ok (.iload_n 1, 1) := by decide +kernel
theorem dX12_promise_26 : decode cX12_promise 26 = .ok (.invokevirtual 236, 3) := by decide +kernel
theorem dX12_promise_29 : decode cX12_promise 29 = .ok (.ifCond .ne 6, 3) := by decide +kernel
theorem dX12_promise_32 : decode cX12_promise 32 = .ok (.bipush (-3), 2) := by decide +kernel
theorem dX12_promise_34 : decode cX12_promise 34 = .ok (.ireturn, 1) := by decide +kernel
theorem dX12_promise_35 : decode cX12_promise 35 = .ok (.aload_n 0, 1) := by decide +kernel
theorem dX12_promise_36 : decode cX12_promise 36 = .ok (.getfield 89, 3) := by decide +kernel
theorem dX12_promise_39 : decode cX12_promise 39 = .ok (.iload_n 1, 1) := by decide +kernel
theorem dX12_promise_40 : decode cX12_promise 40 = .ok (.iaload, 1) := by decide +kernel
theorem dX12_promise_41 : decode cX12_promise 41 = .ok (.bipush 30, 2) := by decide +kernel
theorem dX12_promise_43 : decode cX12_promise 43 = .ok (.if_icmp .ne 6, 3) := by decide +kernel
theorem dX12_promise_46 : decode cX12_promise 46 = .ok (.bipush (-2), 2) := by decide +kernel
theorem dX12_promise_48 : decode cX12_promise 48 = .ok (.ireturn, 1) := by decide +kernel
theorem dX12_promise_49 : decode cX12_promise 49 = .ok (.aload_n 0, 1) := by decide +kernel
theorem dX12_promise_50 : decode cX12_promise 50 = .ok (.getfield 101, 3) := by decide +kernel
theorem dX12_promise_53 : decode cX12_promise 53 = .ok (.iload_n 1, 1) := by decide +kernel
theorem dX12_promise_54 : decode cX12_promise 54 = .ok (.dup2, 1) := by decide +kernel
theorem dX12_promise_55 : decode cX12_promise 55 = .ok (.iaload, 1) := by decide +kernel
theorem dX12_promise_56 : decode cX12_promise 56 = .ok (.aload_n 0, 1) := by decide +kernel
theorem dX12_promise_57 : decode cX12_promise 57 = .ok (.iload_n 1, 1) := by decide +kernel
theorem dX12_promise_58 : decode cX12_promise 58 = .ok (.invokevirtual 210, 3) := by decide +kernel
theorem dX12_promise_61 : decode cX12_promise 61 = .ok (.iconst 3, 1) := by decide +kernel
theorem dX12_promise_62 : decode cX12_promise 62 = .ok (.if_icmp .ne 7, 3) := by decide +kernel
theorem dX12_promise_65 : decode cX12_promise 65 = .ok (.iconst 1, 1) := by decide +kernel
theorem dX12_promise_66 : decode cX12_promise 66 = .ok (.goto 4, 3) := by decide +kernel
theorem dX12_promise_69 : decode cX12_promise 69 = .ok (.iconst 0, 1) := by decide +kernel
theorem dX12_promise_70 : decode cX12_promise 70 = .ok (.iadd, 1) := by decide +kernel
theorem dX12_promise_71 : decode cX12_promise 71 = .ok (.iastore, 1) := by decide +kernel
theorem dX12_promise_72 : decode cX12_promise 72 = .ok (.aload_n 0, 1) := by decide +kernel
theorem dX12_promise_73 : decode cX12_promise 73 = .ok (.getfield 98, 3) := by decide +kernel
theorem dX12_promise_76 : decode cX12_promise 76 = .ok (.iload_n 1, 1) := by decide +kernel
theorem dX12_promise_77 : decode cX12_promise 77 = .ok (.dup2, 1) := by decide +kernel
theorem dX12_promise_78 : decode cX12_promise 78 = .ok (.iaload, 1) := by decide +kernel
theorem dX12_promise_79 : decode cX12_promise 79 = .ok (.aload_n 0, 1) := by decide +kernel
theorem dX12_promise_80 : decode cX12_promise 80 = .ok (.iload_n 1, 1) := by decide +kernel
theorem dX12_promise_81 : decode cX12_promise 81 = .ok (.invokevirtual 210, 3) := by decide +kernel
theorem dX12_promise_84 : decode cX12_promise 84 = .ok (.iconst 1, 1) := by decide +kernel
theorem dX12_promise_85 : decode cX12_promise 85 = .ok (.if_icmp .ne 7, 3) := by decide +kernel
theorem dX12_promise_88 : decode cX12_promise 88 = .ok (.iconst 1, 1) := by decide +kernel
theorem dX12_promise_89 : decode cX12_promise 89 = .ok (.goto 4, 3) := by decide +kernel
theorem dX12_promise_92 : decode cX12_promise 92 = .ok (.iconst 0, 1) := by decide +kernel
theorem dX12_promise_93 : decode cX12_promise 93 = .ok (.iadd, 1) := by decide +kernel
theorem dX12_promise_94 : decode cX12_promise 94 = .ok (.iastore, 1) := by decide +kernel
theorem dX12_promise_95 : decode cX12_promise 95 = .ok (.aload_n 0, 1) := by decide +kernel
theorem dX12_promise_96 : decode cX12_promise 96 = .ok (.getfield 92, 3) := by decide +kernel
theorem dX12_promise_99 : decode cX12_promise 99 = .ok (.iload_n 1, 1) := by decide +kernel
theorem dX12_promise_100 : decode cX12_promise 100 = .ok (.iconst 1, 1) := by decide +kernel
theorem dX12_promise_101 : decode cX12_promise 101 = .ok (.iastore, 1) := by decide +kernel
theorem dX12_promise_102 : decode cX12_promise 102 = .ok (.aload_n 0, 1) := by decide +kernel
theorem dX12_promise_103 : decode cX12_promise 103 = .ok (.getfield 95, 3) := by decide +kernel
theorem dX12_promise_106 : decode cX12_promise 106 = .ok (.iload_n 1, 1) := by decide +kernel
theorem dX12_promise_107 : decode cX12_promise 107 = .ok (.iload_n 2, 1) := by decide +kernel
theorem dX12_promise_108 : decode cX12_promise 108 = .ok (.iastore, 1) := by decide +kernel
theorem dX12_promise_109 : decode cX12_promise 109 = .ok (.aload_n 0, 1) := by decide +kernel
theorem dX12_promise_110 : decode cX12_promise 110 = .ok (.iload_n 1, 1) := by decide +kernel
theorem dX12_promise_111 : decode cX12_promise 111 = .ok (.iconst 1, 1) := by decide +kernel
theorem dX12_promise_112 : decode cX12_promise 112 = .ok (.iconst (-1), 1) := by decide +kernel
theorem dX12_promise_113 : decode cX12_promise 113 = .ok (.invokevirtual 229, 3) := by decide +kernel
theorem dX12_promise_116 : decode cX12_promise 116 = .ok (.iconst 1, 1) := by decide +kernel
theorem dX12_promise_117 : decode cX12_promise 117 = .ok (.ireturn, 1) := by decide +kernel
theorem dX12_said_0 : decode cX12_said 0 = .ok (.aload_n 0, 1) := by decide +kernel
theorem dX12_said_1 : decode cX12_said 1 = .ok (.iload_n 1, 1) := by decide +kernel
theorem dX12_said_2 : decode cX12_said 2 = .ok (.invokevirtual 233, 3) := by decide +kernel
theorem dX12_said_5 : decode cX12_said 5 = .ok (.ifCond .eq 10, 3) := by decide +kernel
theorem dX12_said_8 : decode cX12_said 8 = .ok (.iload_n 2, 1) := by decide +kernel
theorem dX12_said_9 : decode cX12_said 9 = .ok (.invokestatic 239, 3) := by decide +kernel
theorem dX12_said_12 : decode cX12_said 12 = .ok (.ifCond .ne 5, 3) := by decide +kernel
theorem dX12_said_15 : decode cX12_said 15 = .ok (.iconst (-1), 1) := by decide +kernel
theorem dX12_said_16 : decode cX12_said 16 = .ok (.ireturn, 1) := by decide +kernel
theorem dX12_said_17 : decode cX12_said 17 = .ok (.aload_n 0, 1) := by decide +kernel
theorem dX12_said_18 : decode cX12_said 18 = .ok (.iload_n 1, 1) := by decide +kernel
theorem dX12_said_19 : decode cX12_said 19 = .ok (.invokevirtual 236, 3) := by decide +kernel
theorem dX12_said_22 : decode cX12_said 22 = .ok (.ifCond .ne 6, 3) := by decide +kernel
theorem dX12_said_25 : decode cX12_said 25 = .ok (.bipush (-3), 2) := by decide +kernel
theorem dX12_said_27 : decode cX12_said 27 = .ok (.ireturn, 1) := by decide +kernel
theorem dX12_said_28 : decode cX12_said 28 = .ok (.aload_n 0, 1) := by decide +kernel
theorem dX12_said_29 : decode cX12_said 29 = .ok (.getfield 89, 3) := by decide +kernel
theorem dX12_said_32 : decode cX12_said 32 = .ok (.iload_n 1, 1) := by decide +kernel
theorem dX12_said_33 : decode cX12_said 33 = .ok (.iaload, 1) := by decide +kernel
theorem dX12_said_34 : decode cX12_said 34 = .ok (.bipush 30, 2) := by decide +kernel
theorem dX12_said_36 : decode cX12_said 36 = .ok (.if_icmp .ne 6, 3) := by decide +kernel
theorem dX12_said_39 : decode cX12_said 39 = .ok (.bipush (-2), 2) := by decide +kernel
theorem dX12_said_41 : decode cX12_said 41 = .ok (.ireturn, 1) := by decide +kernel
theorem dX12_said_42 : decode cX12_said 42 = .ok (.aload_n 0, 1) := by decide +kernel
theorem dX12_said_43 : decode cX12_said 43 = .ok (.getfield 92, 3) := by decide +kernel
theorem dX12_said_46 : decode cX12_said 46 = .ok (.iload_n 1, 1) := by decide +kernel
theorem dX12_said_47 : decode cX12_said 47 = .ok (.aload_n 0, 1) := by decide +kernel
theorem dX12_said_48 : decode cX12_said 48 = .ok (.iload_n 1, 1) := by decide +kernel
theorem dX12_said_49 : decode cX12_said 49 = .ok (.invokevirtual 210, 3) := by decide +kernel
theorem dX12_said_52 : decode cX12_said 52 = .ok (.iconst 1, 1) := by decide +kernel
theorem dX12_said_53 : decode cX12_said 53 = .ok (.if_icmp .ne 7, 3) := by decide +kernel
theorem dX12_said_56 : decode cX12_said 56 = .ok (.iconst 2, 1) := by decide +kernel
theorem dX12_said_57 : decode cX12_said 57 = .ok (.goto 8, 3) := by decide +kernel
theorem dX12_said_60 : decode cX12_said 60 = .ok (.aload_n 0, 1) := by decide +kernel
theorem dX12_said_61 : decode cX12_said 61 = .ok (.iload_n 1, 1) := by decide +kernel
theorem dX12_said_62 : decode cX12_said 62 = .ok (.invokevirtual 210, 3) := by decide +kernel
theorem dX12_said_65 : decode cX12_said 65 = .ok (.iastore, 1) := by decide +kernel
theorem dX12_said_66 : decode cX12_said 66 = .ok (.aload_n 0, 1) := by decide +kernel
theorem dX12_said_67 : decode cX12_said 67 = .ok (.getfield 104, 3) := by decide +kernel
theorem dX12_said_70 : decode cX12_said 70 = .ok (.iload_n 1, 1) := by decide +kernel
theorem dX12_said_71 : decode cX12_said 71 = .ok (.dup2, 1) := by decide +kernel
theorem dX12_said_72 : decode cX12_said 72 = .ok (.iaload, 1) := by decide +kernel
theorem dX12_said_73 : decode cX12_said 73 = .ok (.iconst 1, 1) := by decide +kernel
theorem dX12_said_74 : decode cX12_said 74 = .ok (.iadd, 1) := by decide +kernel
theorem dX12_said_75 : decode cX12_said 75 = .ok (.iastore, 1) := by decide +kernel
theorem dX12_said_76 : decode cX12_said 76 = .ok (.aload_n 0, 1) := by decide +kernel
theorem dX12_said_77 : decode cX12_said 77 = .ok (.getfield 116, 3) := by decide +kernel
theorem dX12_said_80 : decode cX12_said 80 = .ok (.iload_n 2, 1) := by decide +kernel
theorem dX12_said_81 : decode cX12_said 81 = .ok (.dup2, 1) := by decide +kernel
theorem dX12_said_82 : decode cX12_said 82 = .ok (.iaload, 1) := by decide +kernel
theorem dX12_said_83 : decode cX12_said 83 = .ok (.iconst 1, 1) := by decide +kernel
theorem dX12_said_84 : decode cX12_said 84 = .ok (.iadd, 1) := by decide +kernel
theorem dX12_said_85 : decode cX12_said 85 = .ok (.iastore, 1) := by decide +kernel
theorem dX12_said_86 : decode cX12_said 86 = .ok (.aload_n 0, 1) := by decide +kernel
theorem dX12_said_87 : decode cX12_said 87 = .ok (.iload_n 1, 1) := by decide +kernel
theorem dX12_said_88 : decode cX12_said 88 = .ok (.iconst 2, 1) := by decide +kernel
theorem dX12_said_89 : decode cX12_said 89 = .ok (.iload_n 2, 1) := by decide +kernel
theorem dX12_said_90 : decode cX12_said 90 = .ok (.invokevirtual 229, 3) := by decide +kernel
theorem dX12_said_93 : decode cX12_said 93 = .ok (.iconst 1, 1) := by decide +kernel
theorem dX12_said_94 : decode cX12_said 94 = .ok (.ireturn, 1) := by decide +kernel
theorem dX12_lastCrew_0 : decode cX12_lastCrew 0 = .ok (.iconst (-1), 1) := by decide +kernel
theorem dX12_lastCrew_1 : decode cX12_lastCrew 1 = .ok (.istore_n 2, 1) := by decide +kernel
theorem dX12_lastCrew_2 : decode cX12_lastCrew 2 = .ok (.bipush 30, 2) := by decide +kernel
theorem dX12_lastCrew_4 : decode cX12_lastCrew 4 = .ok (.iload_n 1, 1) := by decide +kernel
theorem dX12_lastCrew_5 : decode cX12_lastCrew 5 = .ok (.imul, 1) := by decide +kernel
theorem dX12_lastCrew_6 : decode cX12_lastCrew 6 = .ok (.istore_n 3, 1) := by decide +kernel
theorem dX12_lastCrew_7 : decode cX12_lastCrew 7 = .ok (.iload_n 3, 1) := by decide +kernel
theorem dX12_lastCrew_8 : decode cX12_lastCrew 8 = .ok (.bipush 30, 2) := by decide +kernel
theorem dX12_lastCrew_10 : decode cX12_lastCrew 10 = .ok (.iload_n 1, 1) := by decide +kernel
theorem dX12_lastCrew_11 : decode cX12_lastCrew 11 = .ok (.imul, 1) := by decide +kernel
theorem dX12_lastCrew_12 : decode cX12_lastCrew 12 = .ok (.aload_n 0, 1) := by decide +kernel
theorem dX12_lastCrew_13 : decode cX12_lastCrew 13 = .ok (.getfield 89, 3) := by decide +kernel
theorem dX12_lastCrew_16 : decode cX12_lastCrew 16 = .ok (.iload_n 1, 1) := by decide +kernel
theorem dX12_lastCrew_17 : decode cX12_lastCrew 17 = .ok (.iaload, 1) := by decide +kernel
theorem dX12_lastCrew_18 : decode cX12_lastCrew 18 = .ok (.iadd, 1) := by decide +kernel
theorem dX12_lastCrew_19 : decode cX12_lastCrew 19 = .ok (.if_icmp .ge 30, 3) := by decide +kernel
theorem dX12_lastCrew_22 : decode cX12_lastCrew 22 = .ok (.aload_n 0, 1) := by decide +kernel
theorem dX12_lastCrew_23 : decode cX12_lastCrew 23 = .ok (.getfield 80, 3) := by decide +kernel
theorem dX12_lastCrew_26 : decode cX12_lastCrew 26 = .ok (.iload_n 3, 1) := by decide +kernel
theorem dX12_lastCrew_27 : decode cX12_lastCrew 27 = .ok (.iaload, 1) := by decide +kernel
theorem dX12_lastCrew_28 : decode cX12_lastCrew 28 = .ok (.iconst 2, 1) := by decide +kernel
theorem dX12_lastCrew_29 : decode cX12_lastCrew 29 = .ok (.if_icmp .ne 12, 3) := by decide +kernel
theorem dX12_lastCrew_32 : decode cX12_lastCrew 32 = .ok (.aload_n 0, 1) := by decide +kernel
theorem dX12_lastCrew_33 : decode cX12_lastCrew 33 = .ok (.getfield 86, 3) := by decide +kernel
theorem dX12_lastCrew_36 : decode cX12_lastCrew 36 = .ok (.iload_n 3, 1) := by decide +kernel
theorem dX12_lastCrew_37 : decode cX12_lastCrew 37 = .ok (.iaload, 1) := by decide +kernel
theorem dX12_lastCrew_38 : decode cX12_lastCrew 38 = .ok (.goto 4, 3) := by decide +kernel
theorem dX12_lastCrew_41 : decode cX12_lastCrew 41 = .ok (.iload_n 2, 1) := by decide +kernel
theorem dX12_lastCrew_42 : decode cX12_lastCrew 42 = .ok (.istore_n 2, 1) := by decide +kernel
theorem dX12_lastCrew_43 : decode cX12_lastCrew 43 = .ok (.iinc 3 1, 3) := by decide +kernel
theorem dX12_lastCrew_46 : decode cX12_lastCrew 46 = .ok (.goto (-39), 3) := by decide +kernel
theorem dX12_lastCrew_49 : decode cX12_lastCrew 49 = .ok (.iload_n 2, 1) := by decide +kernel
theorem dX12_lastCrew_50 : decode cX12_lastCrew 50 = .ok (.ireturn, 1) := by decide +kernel
theorem dX12_look_0 : decode cX12_look 0 = .ok (.aload_n 0, 1) := by decide +kernel
theorem dX12_look_1 : decode cX12_look 1 = .ok (.iload_n 1, 1) := by decide +kernel
theorem dX12_look_2 : decode cX12_look 2 = .ok (.invokevirtual 233, 3) := by decide +kernel
theorem dX12_look_5 : decode cX12_look 5 = .ok (.ifCond .eq 12, 3) := by decide +kernel
theorem dX12_look_8 : decode cX12_look 8 = .ok (.iload_n 2, 1) := by decide +kernel
theorem dX12_look_9 : decode cX12_look 9 = .ok (.iconst 0, 1) := by decide +kernel
theorem dX12_look_10 : decode cX12_look 10 = .ok (.iconst 1, 1) := by decide +kernel
theorem dX12_look_11 : decode cX12_look 11 = .ok (.invokestatic 177, 3) := by decide +kernel
theorem dX12_look_14 : decode cX12_look 14 = .ok (.ifCond .ne 5, 3) := by decide +kernel
theorem dX12_look_17 : decode cX12_look 17 = .ok (.iconst (-1), 1) := by decide +kernel
theorem dX12_look_18 : decode cX12_look 18 = .ok (.ireturn, 1) := by decide +kernel
theorem dX12_look_19 : decode cX12_look 19 = .ok (.aload_n 0, 1) := by decide +kernel
theorem dX12_look_20 : decode cX12_look 20 = .ok (.iload_n 1, 1) := by decide +kernel
theorem dX12_look_21 : decode cX12_look 21 = .ok (.invokevirtual 226, 3) := by decide +kernel
theorem dX12_look_24 : decode cX12_look 24 = .ok (.iconst 2, 1) := by decide +kernel
theorem dX12_look_25 : decode cX12_look 25 = .ok (.if_icmp .eq 6, 3) := by decide +kernel
theorem dX12_look_28 : decode cX12_look 28 = .ok (.bipush (-3), 2) := by decide +kernel
theorem dX12_look_30 : decode cX12_look 30 = .ok (.ireturn, 1) := by decide +kernel
theorem dX12_look_31 : decode cX12_look 31 = .ok (.aload_n 0, 1) := by decide +kernel
theorem dX12_look_32 : decode cX12_look 32 = .ok (.getfield 89, 3) := by decide +kernel
theorem dX12_look_35 : decode cX12_look 35 = .ok (.iload_n 1, 1) := by decide +kernel
theorem dX12_look_36 : decode cX12_look 36 = .ok (.iaload, 1) := by decide +kernel
theorem dX12_look_37 : decode cX12_look 37 = .ok (.bipush 30, 2) := by decide +kernel
theorem dX12_look_39 : decode cX12_look 39 = .ok (.if_icmp .ne 6, 3) := by decide +kernel
theorem dX12_look_42 : decode cX12_look 42 = .ok (.bipush (-2), 2) := by decide +kernel
theorem dX12_look_44 : decode cX12_look 44 = .ok (.ireturn, 1) := by decide +kernel
theorem dX12_look_45 : decode cX12_look 45 = .ok (.aload_n 0, 1) := by decide +kernel
theorem dX12_look_46 : decode cX12_look 46 = .ok (.iload_n 1, 1) := by decide +kernel
theorem dX12_look_47 : decode cX12_look 47 = .ok (.invokevirtual 242, 3) := by decide +kernel
theorem dX12_look_50 : decode cX12_look 50 = .ok (.istore_n 3, 1) := by decide +kernel
theorem dX12_look_51 : decode cX12_look 51 = .ok (.aload_n 0, 1) := by decide +kernel
theorem dX12_look_52 : decode cX12_look 52 = .ok (.getfield 110, 3) := by decide +kernel
theorem dX12_look_55 : decode cX12_look 55 = .ok (.iload_n 3, 1) := by decide +kernel
theorem dX12_look_56 : decode cX12_look 56 = .ok (.dup2, 1) := by decide +kernel
theorem dX12_look_57 : decode cX12_look 57 = .ok (.iaload, 1) := by decide +kernel
theorem dX12_look_58 : decode cX12_look 58 = .ok (.iconst 1, 1) := by decide +kernel
theorem dX12_look_59 : decode cX12_look 59 = .ok (.iadd, 1) := by decide +kernel
theorem dX12_look_60 : decode cX12_look 60 = .ok (.iastore, 1) := by decide +kernel
theorem dX12_look_61 : decode cX12_look 61 = .ok (.aload_n 0, 1) := by decide +kernel
theorem dX12_look_62 : decode cX12_look 62 = .ok (.getfield 113, 3) := by decide +kernel
theorem dX12_look_65 : decode cX12_look 65 = .ok (.iload_n 3, 1) := by decide +kernel
theorem dX12_look_66 : decode cX12_look 66 = .ok (.dup2, 1) := by decide +kernel
theorem dX12_look_67 : decode cX12_look 67 = .ok (.iaload, 1) := by decide +kernel
theorem dX12_look_68 : decode cX12_look 68 = .ok (.iload_n 2, 1) := by decide +kernel
theorem dX12_look_69 : decode cX12_look 69 = .ok (.iconst 1, 1) := by decide +kernel
theorem dX12_look_70 : decode cX12_look 70 = .ok (.if_icmp .ne 7, 3) := by decide +kernel
theorem dX12_look_73 : decode cX12_look 73 = .ok (.iconst 0, 1) := by decide +kernel
theorem dX12_look_74 : decode cX12_look 74 = .ok (.goto 4, 3) := by decide +kernel
theorem dX12_look_77 : decode cX12_look 77 = .ok (.iconst 1, 1) := by decide +kernel
theorem dX12_look_78 : decode cX12_look 78 = .ok (.iadd, 1) := by decide +kernel
theorem dX12_look_79 : decode cX12_look 79 = .ok (.iastore, 1) := by decide +kernel
theorem dX12_look_80 : decode cX12_look 80 = .ok (.aload_n 0, 1) := by decide +kernel
theorem dX12_look_81 : decode cX12_look 81 = .ok (.getfield 107, 3) := by decide +kernel
theorem dX12_look_84 : decode cX12_look 84 = .ok (.iload_n 1, 1) := by decide +kernel
theorem dX12_look_85 : decode cX12_look 85 = .ok (.dup2, 1) := by decide +kernel
theorem dX12_look_86 : decode cX12_look 86 = .ok (.iaload, 1) := by decide +kernel
theorem dX12_look_87 : decode cX12_look 87 = .ok (.iload_n 2, 1) := by decide +kernel
theorem dX12_look_88 : decode cX12_look 88 = .ok (.iconst 1, 1) := by decide +kernel
theorem dX12_look_89 : decode cX12_look 89 = .ok (.if_icmp .ne 7, 3) := by decide +kernel
theorem dX12_look_92 : decode cX12_look 92 = .ok (.iconst 0, 1) := by decide +kernel
theorem dX12_look_93 : decode cX12_look 93 = .ok (.goto 4, 3) := by decide +kernel
theorem dX12_look_96 : decode cX12_look 96 = .ok (.iconst 1, 1) := by decide +kernel
theorem dX12_look_97 : decode cX12_look 97 = .ok (.iadd, 1) := by decide +kernel
theorem dX12_look_98 : decode cX12_look 98 = .ok (.iastore, 1) := by decide +kernel
theorem dX12_look_99 : decode cX12_look 99 = .ok (.aload_n 0, 1) := by decide +kernel
theorem dX12_look_100 : decode cX12_look 100 = .ok (.iload_n 1, 1) := by decide +kernel
theorem dX12_look_101 : decode cX12_look 101 = .ok (.iload_n 2, 1) := by decide +kernel
theorem dX12_look_102 : decode cX12_look 102 = .ok (.iconst 1, 1) := by decide +kernel
theorem dX12_look_103 : decode cX12_look 103 = .ok (.if_icmp .ne 7, 3) := by decide +kernel
theorem dX12_look_106 : decode cX12_look 106 = .ok (.iconst 3, 1) := by decide +kernel
theorem dX12_look_107 : decode cX12_look 107 = .ok (.goto 4, 3) := by decide +kernel
theorem dX12_look_110 : decode cX12_look 110 = .ok (.iconst 0, 1) := by decide +kernel
theorem dX12_look_111 : decode cX12_look 111 = .ok (.iconst (-1), 1) := by decide +kernel
theorem dX12_look_112 : decode cX12_look 112 = .ok (.invokevirtual 229, 3) := by decide +kernel
theorem dX12_look_115 : decode cX12_look 115 = .ok (.iconst 1, 1) := by decide +kernel
theorem dX12_look_116 : decode cX12_look 116 = .ok (.ireturn, 1) := by decide +kernel
theorem dX12_endPromise_0 : decode cX12_endPromise 0 = .ok (.aload_n 0, 1) := by decide +kernel
theorem dX12_endPromise_1 : decode cX12_endPromise 1 = .ok (.iload_n 1, 1) := by decide +kernel
theorem dX12_endPromise_2 : decode cX12_endPromise 2 = .ok (.invokevirtual 210, 3) := by decide +kernel
theorem dX12_endPromise_5 : decode cX12_endPromise 5 = .ok (.istore_n 2, 1) := by decide +kernel
theorem dX12_endPromise_6 : decode cX12_endPromise 6 = .ok (.aload_n 0, 1) := by decide +kernel
theorem dX12_endPromise_7 : decode cX12_endPromise 7 = .ok (.getfield 92, 3) := by decide +kernel
theorem dX12_endPromise_10 : decode cX12_endPromise 10 = .ok (.iload_n 1, 1) := by decide +kernel
theorem dX12_endPromise_11 : decode cX12_endPromise 11 = .ok (.iload_n 2, 1) := by decide +kernel
theorem dX12_endPromise_12 : decode cX12_endPromise 12 = .ok (.iconst 1, 1) := by decide +kernel
theorem dX12_endPromise_13 : decode cX12_endPromise 13 = .ok (.if_icmp .ne 7, 3) := by decide +kernel
theorem dX12_endPromise_16 : decode cX12_endPromise 16 = .ok (.iconst 0, 1) := by decide +kernel
theorem dX12_endPromise_17 : decode cX12_endPromise 17 = .ok (.goto 4, 3) := by decide +kernel
theorem dX12_endPromise_20 : decode cX12_endPromise 20 = .ok (.iload_n 2, 1) := by decide +kernel
theorem dX12_endPromise_21 : decode cX12_endPromise 21 = .ok (.iastore, 1) := by decide +kernel
theorem dX12_endPromise_22 : decode cX12_endPromise 22 = .ok (.return_, 1) := by decide +kernel
theorem dX12_voids_0 : decode cX12_voids 0 = .ok (.aload_n 0, 1) := by decide +kernel
theorem dX12_voids_1 : decode cX12_voids 1 = .ok (.iload_n 1, 1) := by decide +kernel
theorem dX12_voids_2 : decode cX12_voids 2 = .ok (.invokevirtual 233, 3) := by decide +kernel
theorem dX12_voids_5 : decode cX12_voids 5 = .ok (.ifCond .ne 5, 3) := by decide +kernel
theorem dX12_voids_8 : decode cX12_voids 8 = .ok (.iconst (-1), 1) := by decide +kernel
theorem dX12_voids_9 : decode cX12_voids 9 = .ok (.ireturn, 1) := by decide +kernel
theorem dX12_voids_10 : decode cX12_voids 10 = .ok (.aload_n 0, 1) := by decide +kernel
theorem dX12_voids_11 : decode cX12_voids 11 = .ok (.iload_n 1, 1) := by decide +kernel
theorem dX12_voids_12 : decode cX12_voids 12 = .ok (.invokevirtual 236, 3) := by decide +kernel
theorem dX12_voids_15 : decode cX12_voids 15 = .ok (.ifCond .ne 6, 3) := by decide +kernel
theorem dX12_voids_18 : decode cX12_voids 18 = .ok (.bipush (-3), 2) := by decide +kernel
theorem dX12_voids_20 : decode cX12_voids 20 = .ok (.ireturn, 1) := by decide +kernel
theorem dX12_voids_21 : decode cX12_voids 21 = .ok (.aload_n 0, 1) := by decide +kernel
theorem dX12_voids_22 : decode cX12_voids 22 = .ok (.getfield 89, 3) := by decide +kernel
theorem dX12_voids_25 : decode cX12_voids 25 = .ok (.iload_n 1, 1) := by decide +kernel
theorem dX12_voids_26 : decode cX12_voids 26 = .ok (.iaload, 1) := by decide +kernel
theorem dX12_voids_27 : decode cX12_voids 27 = .ok (.bipush 30, 2) := by decide +kernel
theorem dX12_voids_29 : decode cX12_voids 29 = .ok (.if_icmp .ne 6, 3) := by decide +kernel
theorem dX12_voids_32 : decode cX12_voids 32 = .ok (.bipush (-2), 2) := by decide +kernel
theorem dX12_voids_34 : decode cX12_voids 34 = .ok (.ireturn, 1) := by decide +kernel
theorem dX12_voids_35 : decode cX12_voids 35 = .ok (.aload_n 0, 1) := by decide +kernel
theorem dX12_voids_36 : decode cX12_voids 36 = .ok (.iload_n 1, 1) := by decide +kernel
theorem dX12_voids_37 : decode cX12_voids 37 = .ok (.invokevirtual 245, 3) := by decide +kernel
theorem dX12_voids_40 : decode cX12_voids 40 = .ok (.aload_n 0, 1) := by decide +kernel
theorem dX12_voids_41 : decode cX12_voids 41 = .ok (.iload_n 1, 1) := by decide +kernel
theorem dX12_voids_42 : decode cX12_voids 42 = .ok (.iconst 4, 1) := by decide +kernel
theorem dX12_voids_43 : decode cX12_voids 43 = .ok (.iconst (-1), 1) := by decide +kernel
theorem dX12_voids_44 : decode cX12_voids 44 = .ok (.invokevirtual 229, 3) := by decide +kernel
theorem dX12_voids_47 : decode cX12_voids 47 = .ok (.iconst 1, 1) := by decide +kernel
theorem dX12_voids_48 : decode cX12_voids 48 = .ok (.ireturn, 1) := by decide +kernel
theorem dX12_state_0 : decode cX12_state 0 = .ok (.aload_n 0, 1) := by decide +kernel
theorem dX12_state_1 : decode cX12_state 1 = .ok (.iload_n 1, 1) := by decide +kernel
theorem dX12_state_2 : decode cX12_state 2 = .ok (.invokevirtual 233, 3) := by decide +kernel
theorem dX12_state_5 : decode cX12_state 5 = .ok (.ifCond .eq 10, 3) := by decide +kernel
theorem dX12_state_8 : decode cX12_state 8 = .ok (.iload_n 2, 1) := by decide +kernel
theorem dX12_state_9 : decode cX12_state 9 = .ok (.invokestatic 249, 3) := by decide +kernel
theorem dX12_state_12 : decode cX12_state 12 = .ok (.ifCond .ne 5, 3) := by decide +kernel
theorem dX12_state_15 : decode cX12_state 15 = .ok (.iconst (-1), 1) := by decide +kernel
theorem dX12_state_16 : decode cX12_state 16 = .ok (.ireturn, 1) := by decide +kernel
theorem dX12_state_17 : decode cX12_state 17 = .ok (.aload_n 0, 1) := by decide +kernel
theorem dX12_state_18 : decode cX12_state 18 = .ok (.iload_n 1, 1) := by decide +kernel
theorem dX12_state_19 : decode cX12_state 19 = .ok (.iload_n 2, 1) := by decide +kernel
theorem dX12_state_20 : decode cX12_state 20 = .ok (.invokevirtual 202, 3) := by decide +kernel
theorem dX12_state_23 : decode cX12_state 23 = .ok (.istore_n 3, 1) := by decide +kernel
theorem dX12_state_24 : decode cX12_state 24 = .ok (.iload_n 3, 1) := by decide +kernel
theorem dX12_state_25 : decode cX12_state 25 = .ok (.ifCond .ge 8, 3) := by decide +kernel
theorem dX12_state_28 : decode cX12_state 28 = .ok (.bipush (-4), 2) := by decide +kernel
theorem dX12_state_30 : decode cX12_state 30 = .ok (.goto 4, 3) := by decide +kernel
theorem dX12_state_33 : decode cX12_state 33 = .ok (.iload_n 3, 1) := by decide +kernel
theorem dX12_state_34 : decode cX12_state 34 = .ok (.ireturn, 1) := by decide +kernel
theorem dX12_priceOf_0 : decode cX12_priceOf 0 = .ok (.aload_n 0, 1) := by decide +kernel
theorem dX12_priceOf_1 : decode cX12_priceOf 1 = .ok (.getfield 49, 3) := by decide +kernel
theorem dX12_priceOf_4 : decode cX12_priceOf 4 = .ok (.aload_n 0, 1) := by decide +kernel
theorem dX12_priceOf_5 : decode cX12_priceOf 5 = .ok (.getfield 61, 3) := by decide +kernel
theorem dX12_priceOf_8 : decode cX12_priceOf 8 = .ok (.iload_n 1, 1) := by decide +kernel
theorem dX12_priceOf_9 : decode cX12_priceOf 9 = .ok (.iaload, 1) := by decide +kernel
theorem dX12_priceOf_10 : decode cX12_priceOf 10 = .ok (.iaload, 1) := by decide +kernel
theorem dX12_priceOf_11 : decode cX12_priceOf 11 = .ok (.aload_n 0, 1) := by decide +kernel
theorem dX12_priceOf_12 : decode cX12_priceOf 12 = .ok (.getfield 64, 3) := by decide +kernel
theorem dX12_priceOf_15 : decode cX12_priceOf 15 = .ok (.iload_n 1, 1) := by decide +kernel
theorem dX12_priceOf_16 : decode cX12_priceOf 16 = .ok (.iaload, 1) := by decide +kernel
theorem dX12_priceOf_17 : decode cX12_priceOf 17 = .ok (.imul, 1) := by decide +kernel
theorem dX12_priceOf_18 : decode cX12_priceOf 18 = .ok (.istore_n 2, 1) := by decide +kernel
theorem dX12_priceOf_19 : decode cX12_priceOf 19 = .ok (.aload_n 0, 1) := by decide +kernel
theorem dX12_priceOf_20 : decode cX12_priceOf 20 = .ok (.getfield 58, 3) := by decide +kernel
theorem dX12_priceOf_23 : decode cX12_priceOf 23 = .ok (.iload_n 1, 1) := by decide +kernel
theorem dX12_priceOf_24 : decode cX12_priceOf 24 = .ok (.iaload, 1) := by decide +kernel
theorem dX12_priceOf_25 : decode cX12_priceOf 25 = .ok (.iconst 4, 1) := by decide +kernel
theorem dX12_priceOf_26 : decode cX12_priceOf 26 = .ok (.idiv, 1) := by decide +kernel
theorem dX12_priceOf_27 : decode cX12_priceOf 27 = .ok (.iconst 2, 1) := by decide +kernel
theorem dX12_priceOf_28 : decode cX12_priceOf 28 = .ok (.if_icmp .ne 13, 3) := by decide +kernel
theorem dX12_priceOf_31 : decode cX12_priceOf 31 = .ok (.iconst 3, 1) := by decide +kernel
theorem dX12_priceOf_32 : decode cX12_priceOf 32 = .ok (.iload_n 2, 1) := by decide +kernel
theorem dX12_priceOf_33 : decode cX12_priceOf 33 = .ok (.imul, 1) := by decide +kernel
theorem dX12_priceOf_34 : decode cX12_priceOf 34 = .ok (.iconst 1, 1) := by decide +kernel
theorem dX12_priceOf_35 : decode cX12_priceOf 35 = .ok (.iadd, 1) := by decide +kernel
theorem dX12_priceOf_36 : decode cX12_priceOf 36 = .ok (.iconst 2, 1) := by decide +kernel
theorem dX12_priceOf_37 : decode cX12_priceOf 37 = .ok (.idiv, 1) := by decide +kernel
theorem dX12_priceOf_38 : decode cX12_priceOf 38 = .ok (.goto 4, 3) := by decide +kernel
theorem dX12_priceOf_41 : decode cX12_priceOf 41 = .ok (.iload_n 2, 1) := by decide +kernel
theorem dX12_priceOf_42 : decode cX12_priceOf 42 = .ok (.ireturn, 1) := by decide +kernel
theorem dX12_ofFault_0 : decode cX12_ofFault 0 = .ok (.aload_n 0, 1) := by decide +kernel
theorem dX12_ofFault_1 : decode cX12_ofFault 1 = .ok (.iload_n 1, 1) := by decide +kernel
theorem dX12_ofFault_2 : decode cX12_ofFault 2 = .ok (.invokevirtual 233, 3) := by decide +kernel
theorem dX12_ofFault_5 : decode cX12_ofFault 5 = .ok (.ifCond .ne 5, 3) := by decide +kernel
theorem dX12_ofFault_8 : decode cX12_ofFault 8 = .ok (.iconst (-1), 1) := by decide +kernel
theorem dX12_ofFault_9 : decode cX12_ofFault 9 = .ok (.ireturn, 1) := by decide +kernel
theorem dX12_ofFault_10 : decode cX12_ofFault 10 = .ok (.iload_n 2, 1) := by decide +kernel
theorem dX12_ofFault_11 : decode cX12_ofFault 11 = .ok (.tableswitch 180 0 13 #[69, 76, 83, 90, 97, 104, 111, 126, 141, 147, 153, 160, 167, 174], 69) := by decide +kernel
theorem dX12_ofFault_80 : decode cX12_ofFault 80 = .ok (.aload_n 0, 1) := by decide +kernel
theorem dX12_ofFault_81 : decode cX12_ofFault 81 = .ok (.getfield 55, 3) := by decide +kernel
theorem dX12_ofFault_84 : decode cX12_ofFault 84 = .ok (.iload_n 1, 1) := by decide +kernel
theorem dX12_ofFault_85 : decode cX12_ofFault 85 = .ok (.iaload, 1) := by decide +kernel
theorem dX12_ofFault_86 : decode cX12_ofFault 86 = .ok (.ireturn, 1) := by decide +kernel
theorem dX12_ofFault_87 : decode cX12_ofFault 87 = .ok (.aload_n 0, 1) := by decide +kernel
theorem dX12_ofFault_88 : decode cX12_ofFault 88 = .ok (.getfield 58, 3) := by decide +kernel
theorem dX12_ofFault_91 : decode cX12_ofFault 91 = .ok (.iload_n 1, 1) := by decide +kernel
theorem dX12_ofFault_92 : decode cX12_ofFault 92 = .ok (.iaload, 1) := by decide +kernel
theorem dX12_ofFault_93 : decode cX12_ofFault 93 = .ok (.ireturn, 1) := by decide +kernel
theorem dX12_ofFault_94 : decode cX12_ofFault 94 = .ok (.aload_n 0, 1) := by decide +kernel
theorem dX12_ofFault_95 : decode cX12_ofFault 95 = .ok (.getfield 61, 3) := by decide +kernel
theorem dX12_ofFault_98 : decode cX12_ofFault 98 = .ok (.iload_n 1, 1) := by decide +kernel
theorem dX12_ofFault_99 : decode cX12_ofFault 99 = .ok (.iaload, 1) := by decide +kernel
theorem dX12_ofFault_100 : decode cX12_ofFault 100 = .ok (.ireturn, 1) := by decide +kernel
theorem dX12_ofFault_101 : decode cX12_ofFault 101 = .ok (.aload_n 0, 1) := by decide +kernel
theorem dX12_ofFault_102 : decode cX12_ofFault 102 = .ok (.getfield 64, 3) := by decide +kernel
theorem dX12_ofFault_105 : decode cX12_ofFault 105 = .ok (.iload_n 1, 1) := by decide +kernel
theorem dX12_ofFault_106 : decode cX12_ofFault 106 = .ok (.iaload, 1) := by decide +kernel
theorem dX12_ofFault_107 : decode cX12_ofFault 107 = .ok (.ireturn, 1) := by decide +kernel
theorem dX12_ofFault_108 : decode cX12_ofFault 108 = .ok (.aload_n 0, 1) := by decide +kernel
theorem dX12_ofFault_109 : decode cX12_ofFault 109 = .ok (.getfield 67, 3) := by decide +kernel
theorem dX12_ofFault_112 : decode cX12_ofFault 112 = .ok (.iload_n 1, 1) := by decide +kernel
theorem dX12_ofFault_113 : decode cX12_ofFault 113 = .ok (.iaload, 1) := by decide +kernel
theorem dX12_ofFault_114 : decode cX12_ofFault 114 = .ok (.ireturn, 1) := by decide +kernel
theorem dX12_ofFault_115 : decode cX12_ofFault 115 = .ok (.aload_n 0, 1) := by decide +kernel
theorem dX12_ofFault_116 : decode cX12_ofFault 116 = .ok (.getfield 70, 3) := by decide +kernel
theorem dX12_ofFault_119 : decode cX12_ofFault 119 = .ok (.iload_n 1, 1) := by decide +kernel
theorem dX12_ofFault_120 : decode cX12_ofFault 120 = .ok (.iaload, 1) := by decide +kernel
theorem dX12_ofFault_121 : decode cX12_ofFault 121 = .ok (.ireturn, 1) := by decide +kernel
theorem dX12_ofFault_122 : decode cX12_ofFault 122 = .ok (.aload_n 0, 1) := by decide +kernel
theorem dX12_ofFault_123 : decode cX12_ofFault 123 = .ok (.getfield 73, 3) := by decide +kernel
theorem dX12_ofFault_126 : decode cX12_ofFault 126 = .ok (.iload_n 1, 1) := by decide +kernel
theorem dX12_ofFault_127 : decode cX12_ofFault 127 = .ok (.baload, 1) := by decide +kernel
theorem dX12_ofFault_128 : decode cX12_ofFault 128 = .ok (.ifCond .eq 7, 3) := by decide +kernel
theorem dX12_ofFault_131 : decode cX12_ofFault 131 = .ok (.iconst 1, 1) := by decide +kernel
theorem dX12_ofFault_132 : decode cX12_ofFault 132 = .ok (.goto 4, 3) := by decide +kernel
theorem dX12_ofFault_135 : decode cX12_ofFault 135 = .ok (.iconst 0, 1) := by decide +kernel
theorem dX12_ofFault_136 : decode cX12_ofFault 136 = .ok (.ireturn, 1) := by decide +kernel
theorem dX12_ofFault_137 : decode cX12_ofFault 137 = .ok (.aload_n 0, 1) := by decide +kernel
theorem dX12_ofFault_138 : decode cX12_ofFault 138 = .ok (.getfield 77, 3) := by decide +kernel
theorem dX12_ofFault_141 : decode cX12_ofFault 141 = .ok (.iload_n 1, 1) := by decide +kernel
theorem dX12_ofFault_142 : decode cX12_ofFault 142 = .ok (.baload, 1) := by decide +kernel
theorem dX12_ofFault_143 : decode cX12_ofFault 143 = .ok (.ifCond .eq 7, 3) := by decide +kernel
theorem dX12_ofFault_146 : decode cX12_ofFault 146 = .ok (.iconst 1, 1) := by decide +kernel
theorem dX12_ofFault_147 : decode cX12_ofFault 147 = .ok (.goto 4, 3) := by decide +kernel
theorem dX12_ofFault_150 : decode cX12_ofFault 150 = .ok (.iconst 0, 1) := by decide +kernel
theorem dX12_ofFault_151 : decode cX12_ofFault 151 = .ok (.ireturn, 1) := by decide +kernel
theorem dX12_ofFault_152 : decode cX12_ofFault 152 = .ok (.aload_n 0, 1) := by decide +kernel
theorem dX12_ofFault_153 : decode cX12_ofFault 153 = .ok (.iload_n 1, 1) := by decide +kernel
theorem dX12_ofFault_154 : decode cX12_ofFault 154 = .ok (.invokevirtual 252, 3) := by decide +kernel
theorem dX12_ofFault_157 : decode cX12_ofFault 157 = .ok (.ireturn, 1) := by decide +kernel
theorem dX12_ofFault_158 : decode cX12_ofFault 158 = .ok (.aload_n 0, 1) := by decide +kernel
theorem dX12_ofFault_159 : decode cX12_ofFault 159 = .ok (.iload_n 1, 1) := by decide +kernel
theorem dX12_ofFault_160 : decode cX12_ofFault 160 = .ok (.invokevirtual 210, 3) := by decide +kernel
theorem dX12_ofFault_163 : decode cX12_ofFault 163 = .ok (.ireturn, 1) := by decide +kernel
theorem dX12_ofFault_164 : decode cX12_ofFault 164 = .ok (.aload_n 0, 1) := by decide +kernel
theorem dX12_ofFault_165 : decode cX12_ofFault 165 = .ok (.getfield 98, 3) := by decide +kernel
theorem dX12_ofFault_168 : decode cX12_ofFault 168 = .ok (.iload_n 1, 1) := by decide +kernel
theorem dX12_ofFault_169 : decode cX12_ofFault 169 = .ok (.iaload, 1) := by decide +kernel
theorem dX12_ofFault_170 : decode cX12_ofFault 170 = .ok (.ireturn, 1) := by decide +kernel
theorem dX12_ofFault_171 : decode cX12_ofFault 171 = .ok (.aload_n 0, 1) := by decide +kernel
theorem dX12_ofFault_172 : decode cX12_ofFault 172 = .ok (.getfield 104, 3) := by decide +kernel
theorem dX12_ofFault_175 : decode cX12_ofFault 175 = .ok (.iload_n 1, 1) := by decide +kernel
theorem dX12_ofFault_176 : decode cX12_ofFault 176 = .ok (.iaload, 1) := by decide +kernel
theorem dX12_ofFault_177 : decode cX12_ofFault 177 = .ok (.ireturn, 1) := by decide +kernel
theorem dX12_ofFault_178 : decode cX12_ofFault 178 = .ok (.aload_n 0, 1) := by decide +kernel
theorem dX12_ofFault_179 : decode cX12_ofFault 179 = .ok (.getfield 107, 3) := by decide +kernel
theorem dX12_ofFault_182 : decode cX12_ofFault 182 = .ok (.iload_n 1, 1) := by decide +kernel
theorem dX12_ofFault_183 : decode cX12_ofFault 183 = .ok (.iaload, 1) := by decide +kernel
theorem dX12_ofFault_184 : decode cX12_ofFault 184 = .ok (.ireturn, 1) := by decide +kernel
theorem dX12_ofFault_185 : decode cX12_ofFault 185 = .ok (.aload_n 0, 1) := by decide +kernel
theorem dX12_ofFault_186 : decode cX12_ofFault 186 = .ok (.iload_n 1, 1) := by decide +kernel
theorem dX12_ofFault_187 : decode cX12_ofFault 187 = .ok (.invokevirtual 242, 3) := by decide +kernel
theorem dX12_ofFault_190 : decode cX12_ofFault 190 = .ok (.ireturn, 1) := by decide +kernel
theorem dX12_ofFault_191 : decode cX12_ofFault 191 = .ok (.iconst (-1), 1) := by decide +kernel
theorem dX12_ofFault_192 : decode cX12_ofFault 192 = .ok (.ireturn, 1) := by decide +kernel
theorem dX12_hasFlag_0 : decode cX12_hasFlag 0 = .ok (.aload_n 0, 1) := by decide +kernel
theorem dX12_hasFlag_1 : decode cX12_hasFlag 1 = .ok (.getfield 52, 3) := by decide +kernel
theorem dX12_hasFlag_4 : decode cX12_hasFlag 4 = .ok (.aload_n 0, 1) := by decide +kernel
theorem dX12_hasFlag_5 : decode cX12_hasFlag 5 = .ok (.getfield 61, 3) := by decide +kernel
theorem dX12_hasFlag_8 : decode cX12_hasFlag 8 = .ok (.iload_n 1, 1) := by decide +kernel
theorem dX12_hasFlag_9 : decode cX12_hasFlag 9 = .ok (.iaload, 1) := by decide +kernel
theorem dX12_hasFlag_10 : decode cX12_hasFlag 10 = .ok (.iaload, 1) := by decide +kernel
theorem dX12_hasFlag_11 : decode cX12_hasFlag 11 = .ok (.iload_n 2, 1) := by decide +kernel
theorem dX12_hasFlag_12 : decode cX12_hasFlag 12 = .ok (.iand, 1) := by decide +kernel
theorem dX12_hasFlag_13 : decode cX12_hasFlag 13 = .ok (.ifCond .eq 7, 3) := by decide +kernel
theorem dX12_hasFlag_16 : decode cX12_hasFlag 16 = .ok (.iconst 1, 1) := by decide +kernel
theorem dX12_hasFlag_17 : decode cX12_hasFlag 17 = .ok (.goto 4, 3) := by decide +kernel
theorem dX12_hasFlag_20 : decode cX12_hasFlag 20 = .ok (.iconst 0, 1) := by decide +kernel
theorem dX12_hasFlag_21 : decode cX12_hasFlag 21 = .ok (.ireturn, 1) := by decide +kernel
theorem dX12_leakAbove_0 : decode cX12_leakAbove 0 = .ok (.iconst 0, 1) := by decide +kernel
theorem dX12_leakAbove_1 : decode cX12_leakAbove 1 = .ok (.istore_n 3, 1) := by decide +kernel
theorem dX12_leakAbove_2 : decode cX12_leakAbove 2 = .ok (.iload_n 3, 1) := by decide +kernel
theorem dX12_leakAbove_3 : decode cX12_leakAbove 3 = .ok (.aload_n 0, 1) := by decide +kernel
theorem dX12_leakAbove_4 : decode cX12_leakAbove 4 = .ok (.getfield 187, 3) := by decide +kernel
theorem dX12_leakAbove_7 : decode cX12_leakAbove 7 = .ok (.if_icmp .ge 66, 3) := by decide +kernel
theorem dX12_leakAbove_10 : decode cX12_leakAbove 10 = .ok (.iload_n 3, 1) := by decide +kernel
theorem dX12_leakAbove_11 : decode cX12_leakAbove 11 = .ok (.iload_n 1, 1) := by decide +kernel
theorem dX12_leakAbove_12 : decode cX12_leakAbove 12 = .ok (.if_icmp .eq 55, 3) := by decide +kernel
theorem dX12_leakAbove_15 : decode cX12_leakAbove 15 = .ok (.aload_n 0, 1) := by decide +kernel
theorem dX12_leakAbove_16 : decode cX12_leakAbove 16 = .ok (.getfield 55, 3) := by decide +kernel
theorem dX12_leakAbove_19 : decode cX12_leakAbove 19 = .ok (.iload_n 3, 1) := by decide +kernel
theorem dX12_leakAbove_20 : decode cX12_leakAbove 20 = .ok (.iaload, 1) := by decide +kernel
theorem dX12_leakAbove_21 : decode cX12_leakAbove 21 = .ok (.aload_n 0, 1) := by decide +kernel
theorem dX12_leakAbove_22 : decode cX12_leakAbove 22 = .ok (.getfield 55, 3) := by decide +kernel
theorem dX12_leakAbove_25 : decode cX12_leakAbove 25 = .ok (.iload_n 1, 1) := by decide +kernel
theorem dX12_leakAbove_26 : decode cX12_leakAbove 26 = .ok (.iaload, 1) := by decide +kernel
theorem dX12_leakAbove_27 : decode cX12_leakAbove 27 = .ok (.if_icmp .ne 40, 3) := by decide +kernel
theorem dX12_leakAbove_30 : decode cX12_leakAbove 30 = .ok (.aload_n 0, 1) := by decide +kernel
theorem dX12_leakAbove_31 : decode cX12_leakAbove 31 = .ok (.getfield 58, 3) := by decide +kernel
theorem dX12_leakAbove_34 : decode cX12_leakAbove 34 = .ok (.iload_n 3, 1) := by decide +kernel
theorem dX12_leakAbove_35 : decode cX12_leakAbove 35 = .ok (.iaload, 1) := by decide +kernel
theorem dX12_leakAbove_36 : decode cX12_leakAbove 36 = .ok (.aload_n 0, 1) := by decide +kernel
theorem dX12_leakAbove_37 : decode cX12_leakAbove 37 = .ok (.getfield 58, 3) := by decide +kernel
theorem dX12_leakAbove_40 : decode cX12_leakAbove 40 = .ok (.iload_n 1, 1) := by decide +kernel
theorem dX12_leakAbove_41 : decode cX12_leakAbove 41 = .ok (.iaload, 1) := by decide +kernel
theorem dX12_leakAbove_42 : decode cX12_leakAbove 42 = .ok (.iconst 4, 1) := by decide +kernel
theorem dX12_leakAbove_43 : decode cX12_leakAbove 43 = .ok (.iadd, 1) := by decide +kernel
theorem dX12_leakAbove_44 : decode cX12_leakAbove 44 = .ok (.if_icmp .ne 23, 3) := by decide +kernel
theorem dX12_leakAbove_47 : decode cX12_leakAbove 47 = .ok (.aload_n 0, 1) := by decide +kernel
theorem dX12_leakAbove_48 : decode cX12_leakAbove 48 = .ok (.iload_n 3, 1) := by decide +kernel
theorem dX12_leakAbove_49 : decode cX12_leakAbove 49 = .ok (.iconst 1, 1) := by decide +kernel
theorem dX12_leakAbove_50 : decode cX12_leakAbove 50 = .ok (.invokevirtual 255, 3) := by decide +kernel
theorem dX12_leakAbove_53 : decode cX12_leakAbove 53 = .ok (.ifCond .eq 14, 3) := by decide +kernel
theorem dX12_leakAbove_56 : decode cX12_leakAbove 56 = .ok (.aload_n 0, 1) := by decide +kernel
theorem dX12_leakAbove_57 : decode cX12_leakAbove 57 = .ok (.iload_n 3, 1) := by decide +kernel
theorem dX12_leakAbove_58 : decode cX12_leakAbove 58 = .ok (.iload_n 2, 1) := by decide +kernel
theorem dX12_leakAbove_59 : decode cX12_leakAbove 59 = .ok (.invokevirtual 206, 3) := by decide +kernel
theorem dX12_leakAbove_62 : decode cX12_leakAbove 62 = .ok (.ifCond .eq 5, 3) := by decide +kernel
theorem dX12_leakAbove_65 : decode cX12_leakAbove 65 = .ok (.iload_n 3, 1) := by decide +kernel
theorem dX12_leakAbove_66 : decode cX12_leakAbove 66 = .ok (.ireturn, 1) := by decide +kernel
theorem dX12_leakAbove_67 : decode cX12_leakAbove 67 = .ok (.iinc 3 1, 3) := by decide +kernel
theorem dX12_leakAbove_70 : decode cX12_leakAbove 70 = .ok (.goto (-68), 3) := by decide +kernel
theorem dX12_leakAbove_73 : decode cX12_leakAbove 73 = .ok (.iconst (-1), 1) := by decide +kernel
theorem dX12_leakAbove_74 : decode cX12_leakAbove 74 = .ok (.ireturn, 1) := by decide +kernel
theorem dX12_source_0 : decode cX12_source 0 = .ok (.aload_n 0, 1) := by decide +kernel
theorem dX12_source_1 : decode cX12_source 1 = .ok (.iload_n 1, 1) := by decide +kernel
theorem dX12_source_2 : decode cX12_source 2 = .ok (.invokevirtual 233, 3) := by decide +kernel
theorem dX12_source_5 : decode cX12_source 5 = .ok (.ifCond .eq 20, 3) := by decide +kernel
theorem dX12_source_8 : decode cX12_source 8 = .ok (.iload_n 2, 1) := by decide +kernel
theorem dX12_source_9 : decode cX12_source 9 = .ok (.invokestatic 249, 3) := by decide +kernel
theorem dX12_source_12 : decode cX12_source 12 = .ok (.ifCond .eq 13, 3) := by decide +kernel
theorem dX12_source_15 : decode cX12_source 15 = .ok (.aload_n 0, 1) := by decide +kernel
theorem dX12_source_16 : decode cX12_source 16 = .ok (.getfield 67, 3) := by decide +kernel
theorem dX12_source_19 : decode cX12_source 19 = .ok (.iload_n 1, 1) := by decide +kernel
theorem dX12_source_20 : decode cX12_source 20 = .ok (.iaload, 1) := by decide +kernel
theorem dX12_source_21 : decode cX12_source 21 = .ok (.iload_n 2, 1) := by decide +kernel
theorem dX12_source_22 : decode cX12_source 22 = .ok (.if_icmp .le 5, 3) := by decide +kernel
theorem dX12_source_25 : decode cX12_source 25 = .ok (.iconst (-1), 1) := by decide +kernel
theorem dX12_source_26 : decode cX12_source 26 = .ok (.ireturn, 1) := by decide +kernel
theorem dX12_source_27 : decode cX12_source 27 = .ok (.iload_n 1, 1) := by decide +kernel
theorem dX12_source_28 : decode cX12_source 28 = .ok (.istore_n 3, 1) := by decide +kernel
theorem dX12_source_29 : decode cX12_source 29 = .ok (.aload_n 0, 1) := by decide +kernel
theorem dX12_source_30 : decode cX12_source 30 = .ok (.iload_n 3, 1) := by decide +kernel
theorem dX12_source_31 : decode cX12_source 31 = .ok (.iconst 4, 1) := by decide +kernel
theorem dX12_source_32 : decode cX12_source 32 = .ok (.invokevirtual 255, 3) := by decide +kernel
theorem dX12_source_35 : decode cX12_source 35 = .ok (.ifCond .eq 12, 3) := by decide +kernel
theorem dX12_source_38 : decode cX12_source 38 = .ok (.aload_n 0, 1) := by decide +kernel
theorem dX12_source_39 : decode cX12_source 39 = .ok (.iload_n 3, 1) := by decide +kernel
theorem dX12_source_40 : decode cX12_source 40 = .ok (.iload_n 2, 1) := by decide +kernel
theorem dX12_source_41 : decode cX12_source 41 = .ok (.invokevirtual 258, 3) := by decide +kernel
theorem dX12_source_44 : decode cX12_source 44 = .ok (.goto 4, 3) := by decide +kernel
theorem dX12_source_47 : decode cX12_source 47 = .ok (.iconst (-1), 1) := by decide +kernel
theorem dX12_source_48 : decode cX12_source 48 = .ok (.istore 4, 2) := by decide +kernel
theorem dX12_source_50 : decode cX12_source 50 = .ok (.iload 4, 2) := by decide +kernel
theorem dX12_source_52 : decode cX12_source 52 = .ok (.ifCond .lt 30, 3) := by decide +kernel
theorem dX12_source_55 : decode cX12_source 55 = .ok (.iload 4, 2) := by decide +kernel
theorem dX12_source_57 : decode cX12_source 57 = .ok (.istore_n 3, 1) := by decide +kernel
theorem dX12_source_58 : decode cX12_source 58 = .ok (.aload_n 0, 1) := by decide +kernel
theorem dX12_source_59 : decode cX12_source 59 = .ok (.iload_n 3, 1) := by decide +kernel
theorem dX12_source_60 : decode cX12_source 60 = .ok (.iconst 4, 1) := by decide +kernel
theorem dX12_source_61 : decode cX12_source 61 = .ok (.invokevirtual 255, 3) := by decide +kernel
theorem dX12_source_64 : decode cX12_source 64 = .ok (.ifCond .eq 12, 3) := by decide +kernel
theorem dX12_source_67 : decode cX12_source 67 = .ok (.aload_n 0, 1) := by decide +kernel
theorem dX12_source_68 : decode cX12_source 68 = .ok (.iload_n 3, 1) := by decide +kernel
theorem dX12_source_69 : decode cX12_source 69 = .ok (.iload_n 2, 1) := by decide +kernel
theorem dX12_source_70 : decode cX12_source 70 = .ok (.invokevirtual 258, 3) := by decide +kernel
theorem dX12_source_73 : decode cX12_source 73 = .ok (.goto 4, 3) := by decide +kernel
theorem dX12_source_76 : decode cX12_source 76 = .ok (.iconst (-1), 1) := by decide +kernel
theorem dX12_source_77 : decode cX12_source 77 = .ok (.istore 4, 2) := by decide +kernel
theorem dX12_source_79 : decode cX12_source 79 = .ok (.goto (-29), 3) := by decide +kernel
theorem dX12_source_82 : decode cX12_source 82 = .ok (.iload_n 3, 1) := by decide +kernel
theorem dX12_source_83 : decode cX12_source 83 = .ok (.ireturn, 1) := by decide +kernel
theorem dX12_damageBy_0 : decode cX12_damageBy 0 = .ok (.iconst (-1), 1) := by decide +kernel
theorem dX12_damageBy_1 : decode cX12_damageBy 1 = .ok (.istore_n 2, 1) := by decide +kernel
theorem dX12_damageBy_2 : decode cX12_damageBy 2 = .ok (.iconst (-1), 1) := by decide +kernel
theorem dX12_damageBy_3 : decode cX12_damageBy 3 = .ok (.istore_n 3, 1) := by decide +kernel
theorem dX12_damageBy_4 : decode cX12_damageBy 4 = .ok (.iconst 0, 1) := by decide +kernel
theorem dX12_damageBy_5 : decode cX12_damageBy 5 = .ok (.istore 4, 2) := by decide +kernel
theorem dX12_damageBy_7 : decode cX12_damageBy 7 = .ok (.iload 4, 2) := by decide +kernel
theorem dX12_damageBy_9 : decode cX12_damageBy 9 = .ok (.aload_n 0, 1) := by decide +kernel
theorem dX12_damageBy_10 : decode cX12_damageBy 10 = .ok (.getfield 187, 3) := by decide +kernel
theorem dX12_damageBy_13 : decode cX12_damageBy 13 = .ok (.if_icmp .ge 181, 3) := by decide +kernel
theorem dX12_damageBy_16 : decode cX12_damageBy 16 = .ok (.iload 4, 2) := by decide +kernel
theorem dX12_damageBy_18 : decode cX12_damageBy 18 = .ok (.iload_n 1, 1) := by decide +kernel
theorem dX12_damageBy_19 : decode cX12_damageBy 19 = .ok (.if_icmp .eq 55, 3) := by decide +kernel
theorem dX12_damageBy_22 : decode cX12_damageBy 22 = .ok (.aload_n 0, 1) := by decide +kernel
theorem dX12_damageBy_23 : decode cX12_damageBy 23 = .ok (.getfield 55, 3) := by decide +kernel
theorem dX12_damageBy_26 : decode cX12_damageBy 26 = .ok (.iload 4, 2) := by decide +kernel
theorem dX12_damageBy_28 : decode cX12_damageBy 28 = .ok (.iaload, 1) := by decide +kernel
theorem dX12_damageBy_29 : decode cX12_damageBy 29 = .ok (.aload_n 0, 1) := by decide +kernel
theorem dX12_damageBy_30 : decode cX12_damageBy 30 = .ok (.getfield 55, 3) := by decide +kernel
theorem dX12_damageBy_33 : decode cX12_damageBy 33 = .ok (.iload_n 1, 1) := by decide +kernel
theorem dX12_damageBy_34 : decode cX12_damageBy 34 = .ok (.iaload, 1) := by decide +kernel
theorem dX12_damageBy_35 : decode cX12_damageBy 35 = .ok (.if_icmp .ne 39, 3) := by decide +kernel
theorem dX12_damageBy_38 : decode cX12_damageBy 38 = .ok (.aload_n 0, 1) := by decide +kernel
theorem dX12_damageBy_39 : decode cX12_damageBy 39 = .ok (.getfield 58, 3) := by decide +kernel
theorem dX12_damageBy_42 : decode cX12_damageBy 42 = .ok (.iload 4, 2) := by decide +kernel
theorem dX12_damageBy_44 : decode cX12_damageBy 44 = .ok (.iaload, 1) := by decide +kernel
theorem dX12_damageBy_45 : decode cX12_damageBy 45 = .ok (.aload_n 0, 1) := by decide +kernel
theorem dX12_damageBy_46 : decode cX12_damageBy 46 = .ok (.getfield 58, 3) := by decide +kernel
theorem dX12_damageBy_49 : decode cX12_damageBy 49 = .ok (.iload_n 1, 1) := by decide +kernel
theorem dX12_damageBy_50 : decode cX12_damageBy 50 = .ok (.iaload, 1) := by decide +kernel
theorem dX12_damageBy_51 : decode cX12_damageBy 51 = .ok (.if_icmp .ne 23, 3) := by decide +kernel
theorem dX12_damageBy_54 : decode cX12_damageBy 54 = .ok (.aload_n 0, 1) := by decide +kernel
theorem dX12_damageBy_55 : decode cX12_damageBy 55 = .ok (.getfield 61, 3) := by decide +kernel
theorem dX12_damageBy_58 : decode cX12_damageBy 58 = .ok (.iload 4, 2) := by decide +kernel
theorem dX12_damageBy_60 : decode cX12_damageBy 60 = .ok (.iaload, 1) := by decide +kernel
theorem dX12_damageBy_61 : decode cX12_damageBy 61 = .ok (.aload_n 0, 1) := by decide +kernel
theorem dX12_damageBy_62 : decode cX12_damageBy 62 = .ok (.getfield 61, 3) := by decide +kernel
theorem dX12_damageBy_65 : decode cX12_damageBy 65 = .ok (.iload_n 1, 1) := by decide +kernel
theorem dX12_damageBy_66 : decode cX12_damageBy 66 = .ok (.iaload, 1) := by decide +kernel
theorem dX12_damageBy_67 : decode cX12_damageBy 67 = .ok (.if_icmp .eq 7, 3) := by decide +kernel
theorem dX12_damageBy_70 : decode cX12_damageBy 70 = .ok (.iconst 1, 1) := by decide +kernel
theorem dX12_damageBy_71 : decode cX12_damageBy 71 = .ok (.goto 4, 3) := by decide +kernel
theorem dX12_damageBy_74 : decode cX12_damageBy 74 = .ok (.iconst 0, 1) := by decide +kernel
theorem dX12_damageBy_75 : decode cX12_damageBy 75 = .ok (.istore 5, 2) := by decide +kernel
theorem dX12_damageBy_77 : decode cX12_damageBy 77 = .ok (.bipush 30, 2) := by decide +kernel
theorem dX12_damageBy_79 : decode cX12_damageBy 79 = .ok (.iload 4, 2) := by decide +kernel
theorem dX12_damageBy_81 : decode cX12_damageBy 81 = .ok (.imul, 1) := by decide +kernel
theorem dX12_damageBy_82 : decode cX12_damageBy 82 = .ok (.istore 6, 2) := by decide +kernel
theorem dX12_damageBy_84 : decode cX12_damageBy 84 = .ok (.iload 6, 2) := by decide +kernel
theorem dX12_damageBy_86 : decode cX12_damageBy 86 = .ok (.bipush 30, 2) := by decide +kernel
theorem dX12_damageBy_88 : decode cX12_damageBy 88 = .ok (.iload 4, 2) := by decide +kernel
theorem dX12_damageBy_90 : decode cX12_damageBy 90 = .ok (.imul, 1) := by decide +kernel
theorem dX12_damageBy_91 : decode cX12_damageBy 91 = .ok (.aload_n 0, 1) := by decide +kernel
theorem dX12_damageBy_92 : decode cX12_damageBy 92 = .ok (.getfield 89, 3) := by decide +kernel
theorem dX12_damageBy_95 : decode cX12_damageBy 95 = .ok (.iload 4, 2) := by decide +kernel
theorem dX12_damageBy_97 : decode cX12_damageBy 97 = .ok (.iaload, 1) := by decide +kernel
theorem dX12_damageBy_98 : decode cX12_damageBy 98 = .ok (.iadd, 1) := by decide +kernel
theorem dX12_damageBy_99 : decode cX12_damageBy 99 = .ok (.if_icmp .ge 89, 3) := by decide +kernel
theorem dX12_damageBy_102 : decode cX12_damageBy 102 = .ok (.iload 5, 2) := by decide +kernel
theorem dX12_damageBy_104 : decode cX12_damageBy 104 = .ok (.ifCond .eq 84, 3) := by decide +kernel
theorem dX12_damageBy_107 : decode cX12_damageBy 107 = .ok (.aload_n 0, 1) := by decide +kernel
theorem dX12_damageBy_108 : decode cX12_damageBy 108 = .ok (.getfield 67, 3) := by decide +kernel
theorem dX12_damageBy_111 : decode cX12_damageBy 111 = .ok (.iload_n 1, 1) := by decide +kernel
theorem dX12_damageBy_112 : decode cX12_damageBy 112 = .ok (.iaload, 1) := by decide +kernel
theorem dX12_damageBy_113 : decode cX12_damageBy 113 = .ok (.aload_n 0, 1) := by decide +kernel
theorem dX12_damageBy_114 : decode cX12_damageBy 114 = .ok (.getfield 83, 3) := by decide +kernel
theorem dX12_damageBy_117 : decode cX12_damageBy 117 = .ok (.iload 6, 2) := by decide +kernel
theorem dX12_damageBy_119 : decode cX12_damageBy 119 = .ok (.iaload, 1) := by decide +kernel
theorem dX12_damageBy_120 : decode cX12_damageBy 120 = .ok (.isub, 1) := by decide +kernel
theorem dX12_damageBy_121 : decode cX12_damageBy 121 = .ok (.istore 7, 2) := by decide +kernel
theorem dX12_damageBy_123 : decode cX12_damageBy 123 = .ok (.aload_n 0, 1) := by decide +kernel
theorem dX12_damageBy_124 : decode cX12_damageBy 124 = .ok (.getfield 80, 3) := by decide +kernel
theorem dX12_damageBy_127 : decode cX12_damageBy 127 = .ok (.iload 6, 2) := by decide +kernel
theorem dX12_damageBy_129 : decode cX12_damageBy 129 = .ok (.iaload, 1) := by decide +kernel
theorem dX12_damageBy_130 : decode cX12_damageBy 130 = .ok (.iconst 2, 1) := by decide +kernel
theorem dX12_damageBy_131 : decode cX12_damageBy 131 = .ok (.if_icmp .ne 51, 3) := by decide +kernel
theorem dX12_damageBy_134 : decode cX12_damageBy 134 = .ok (.iload 7, 2) := by decide +kernel
theorem dX12_damageBy_136 : decode cX12_damageBy 136 = .ok (.iconst 1, 1) := by decide +kernel
theorem dX12_damageBy_137 : decode cX12_damageBy 137 = .ok (.if_icmp .lt 45, 3) := by decide +kernel
theorem dX12_damageBy_140 : decode cX12_damageBy 140 = .ok (.iload 7, 2) := by decide +kernel
theorem dX12_damageBy_142 : decode cX12_damageBy 142 = .ok (.aload_n 0, 1) := by decide +kernel
theorem dX12_damageBy_143 : decode cX12_damageBy 143 = .ok (.getfield 119, 3) := by decide +kernel
theorem dX12_damageBy_146 : decode cX12_damageBy 146 = .ok (.if_icmp .gt 36, 3) := by decide +kernel
theorem dX12_damageBy_149 : decode cX12_damageBy 149 = .ok (.aload_n 0, 1) := by decide +kernel
theorem dX12_damageBy_150 : decode cX12_damageBy 150 = .ok (.getfield 83, 3) := by decide +kernel
theorem dX12_damageBy_153 : decode cX12_damageBy 153 = .ok (.iload 6, 2) := by decide +kernel
theorem dX12_damageBy_155 : decode cX12_damageBy 155 = .ok (.iaload, 1) := by decide +kernel
theorem dX12_damageBy_156 : decode cX12_damageBy 156 = .ok (.iload_n 3, 1) := by decide +kernel
theorem dX12_damageBy_157 : decode cX12_damageBy 157 = .ok (.if_icmp .lt 25, 3) := by decide +kernel
theorem dX12_damageBy_160 : decode cX12_damageBy 160 = .ok (.iload 4, 2) := by decide +kernel
theorem dX12_damageBy_162 : decode cX12_damageBy 162 = .ok (.istore_n 2, 1) := by decide +kernel
theorem dX12_damageBy_163 : decode cX12_damageBy 163 = .ok (.aload_n 0, 1) := by decide +kernel
theorem dX12_damageBy_164 : decode cX12_damageBy 164 = .ok (.getfield 83, 3) := by decide +kernel
theorem dX12_damageBy_167 : decode cX12_damageBy 167 = .ok (.iload 6, 2) := by decide +kernel
theorem dX12_damageBy_169 : decode cX12_damageBy 169 = .ok (.iaload, 1) := by decide +kernel
theorem dX12_damageBy_170 : decode cX12_damageBy 170 = .ok (.istore_n 3, 1) := by decide +kernel
theorem dX12_damageBy_171 : decode cX12_damageBy 171 = .ok (.aload_n 0, 1) := by decide +kernel
theorem dX12_damageBy_172 : decode cX12_damageBy 172 = .ok (.aload_n 0, 1) := by decide +kernel
theorem dX12_damageBy_173 : decode cX12_damageBy 173 = .ok (.getfield 86, 3) := by decide +kernel
theorem dX12_damageBy_176 : decode cX12_damageBy 176 = .ok (.iload 6, 2) := by decide +kernel
theorem dX12_damageBy_178 : decode cX12_damageBy 178 = .ok (.iaload, 1) := by decide +kernel
theorem dX12_damageBy_179 : decode cX12_damageBy 179 = .ok (.putfield 261, 3) := by decide +kernel
theorem dX12_damageBy_182 : decode cX12_damageBy 182 = .ok (.iinc 6 1, 3) := by decide +kernel
theorem dX12_damageBy_185 : decode cX12_damageBy 185 = .ok (.goto (-101), 3) := by decide +kernel
theorem dX12_damageBy_188 : decode cX12_damageBy 188 = .ok (.iinc 4 1, 3) := by decide +kernel
theorem dX12_damageBy_191 : decode cX12_damageBy 191 = .ok (.goto (-184), 3) := by decide +kernel
theorem dX12_damageBy_194 : decode cX12_damageBy 194 = .ok (.iload_n 2, 1) := by decide +kernel
theorem dX12_damageBy_195 : decode cX12_damageBy 195 = .ok (.ireturn, 1) := by decide +kernel
theorem dX12_damage_0 : decode cX12_damage 0 = .ok (.aload_n 0, 1) := by decide +kernel
theorem dX12_damage_1 : decode cX12_damage 1 = .ok (.iload_n 1, 1) := by decide +kernel
theorem dX12_damage_2 : decode cX12_damage 2 = .ok (.invokevirtual 233, 3) := by decide +kernel
theorem dX12_damage_5 : decode cX12_damage 5 = .ok (.ifCond .ne 5, 3) := by decide +kernel
theorem dX12_damage_8 : decode cX12_damage 8 = .ok (.iconst (-1), 1) := by decide +kernel
theorem dX12_damage_9 : decode cX12_damage 9 = .ok (.ireturn, 1) := by decide +kernel
theorem dX12_damage_10 : decode cX12_damage 10 = .ok (.aload_n 0, 1) := by decide +kernel
theorem dX12_damage_11 : decode cX12_damage 11 = .ok (.iload_n 1, 1) := by decide +kernel
theorem dX12_damage_12 : decode cX12_damage 12 = .ok (.invokevirtual 264, 3) := by decide +kernel
theorem dX12_damage_15 : decode cX12_damage 15 = .ok (.istore_n 2, 1) := by decide +kernel
theorem dX12_damage_16 : decode cX12_damage 16 = .ok (.iload_n 2, 1) := by decide +kernel
theorem dX12_damage_17 : decode cX12_damage 17 = .ok (.ifCond .ge 8, 3) := by decide +kernel
theorem dX12_damage_20 : decode cX12_damage 20 = .ok (.bipush (-4), 2) := by decide +kernel
theorem dX12_damage_22 : decode cX12_damage 22 = .ok (.goto 4, 3) := by decide +kernel
theorem dX12_damage_25 : decode cX12_damage 25 = .ok (.iload_n 2, 1) := by decide +kernel
theorem dX12_damage_26 : decode cX12_damage 26 = .ok (.ireturn, 1) := by decide +kernel
theorem dX12_rule_0 : decode cX12_rule 0 = .ok (.iload_n 1, 1) := by decide +kernel
theorem dX12_rule_1 : decode cX12_rule 1 = .ok (.iconst 0, 1) := by decide +kernel
theorem dX12_rule_2 : decode cX12_rule 2 = .ok (.iconst 1, 1) := by decide +kernel
theorem dX12_rule_3 : decode cX12_rule 3 = .ok (.invokestatic 177, 3) := by decide +kernel
theorem dX12_rule_6 : decode cX12_rule 6 = .ok (.ifCond .eq 23, 3) := by decide +kernel
theorem dX12_rule_9 : decode cX12_rule 9 = .ok (.iload_n 2, 1) := by decide +kernel
theorem dX12_rule_10 : decode cX12_rule 10 = .ok (.iconst 0, 1) := by decide +kernel
theorem dX12_rule_11 : decode cX12_rule 11 = .ok (.iload_n 1, 1) := by decide +kernel
theorem dX12_rule_12 : decode cX12_rule 12 = .ok (.ifCond .ne 8, 3) := by decide +kernel
theorem dX12_rule_15 : decode cX12_rule 15 = .ok (.bipush 60, 2) := by decide +kernel
theorem dX12_rule_17 : decode cX12_rule 17 = .ok (.goto 6, 3) := by decide +kernel
theorem dX12_rule_20 : decode cX12_rule 20 = .ok (.sipush 999, 3) := by decide +kernel
theorem dX12_rule_23 : decode cX12_rule 23 = .ok (.invokestatic 177, 3) := by decide +kernel
theorem dX12_rule_26 : decode cX12_rule 26 = .ok (.ifCond .ne 5, 3) := by decide +kernel
theorem dX12_rule_29 : decode cX12_rule 29 = .ok (.iconst (-1), 1) := by decide +kernel
theorem dX12_rule_30 : decode cX12_rule 30 = .ok (.ireturn, 1) := by decide +kernel
theorem dX12_rule_31 : decode cX12_rule 31 = .ok (.iload_n 1, 1) := by decide +kernel
theorem dX12_rule_32 : decode cX12_rule 32 = .ok (.ifCond .ne 10, 3) := by decide +kernel
theorem dX12_rule_35 : decode cX12_rule 35 = .ok (.aload_n 0, 1) := by decide +kernel
theorem dX12_rule_36 : decode cX12_rule 36 = .ok (.getfield 119, 3) := by decide +kernel
theorem dX12_rule_39 : decode cX12_rule 39 = .ok (.goto 7, 3) := by decide +kernel
theorem dX12_rule_42 : decode cX12_rule 42 = .ok (.aload_n 0, 1) := by decide +kernel
theorem dX12_rule_43 : decode cX12_rule 43 = .ok (.getfield 123, 3) := by decide +kernel
theorem dX12_rule_46 : decode cX12_rule 46 = .ok (.istore_n 3, 1) := by decide +kernel
theorem dX12_rule_47 : decode cX12_rule 47 = .ok (.iload_n 1, 1) := by decide +kernel
theorem dX12_rule_48 : decode cX12_rule 48 = .ok (.ifCond .ne 11, 3) := by decide +kernel
theorem dX12_rule_51 : decode cX12_rule 51 = .ok (.aload_n 0, 1) := by decide +kernel
theorem dX12_rule_52 : decode cX12_rule 52 = .ok (.iload_n 2, 1) := by decide +kernel
theorem dX12_rule_53 : decode cX12_rule 53 = .ok (.putfield 119, 3) := by decide +kernel
theorem dX12_rule_56 : decode cX12_rule 56 = .ok (.goto 8, 3) := by decide +kernel
theorem dX12_rule_59 : decode cX12_rule 59 = .ok (.aload_n 0, 1) := by decide +kernel
theorem dX12_rule_60 : decode cX12_rule 60 = .ok (.iload_n 2, 1) := by decide +kernel
theorem dX12_rule_61 : decode cX12_rule 61 = .ok (.putfield 123, 3) := by decide +kernel
theorem dX12_rule_64 : decode cX12_rule 64 = .ok (.iload_n 3, 1) := by decide +kernel
theorem dX12_rule_65 : decode cX12_rule 65 = .ok (.ireturn, 1) := by decide +kernel
theorem dX12_isGroup_0 : decode cX12_isGroup 0 = .ok (.iload_n 0, 1) := by decide +kernel
theorem dX12_isGroup_1 : decode cX12_isGroup 1 = .ok (.ifCond .lt 45, 3) := by decide +kernel
theorem dX12_isGroup_4 : decode cX12_isGroup 4 = .ok (.iload_n 0, 1) := by decide +kernel
theorem dX12_isGroup_5 : decode cX12_isGroup 5 = .ok (.bipush 10, 2) := by decide +kernel
theorem dX12_isGroup_7 : decode cX12_isGroup 7 = .ok (.idiv, 1) := by decide +kernel
theorem dX12_isGroup_8 : decode cX12_isGroup 8 = .ok (.ifCond .ne 12, 3) := by decide +kernel
theorem dX12_isGroup_11 : decode cX12_isGroup 11 = .ok (.iload_n 0, 1) := by decide +kernel
theorem dX12_isGroup_12 : decode cX12_isGroup 12 = .ok (.bipush 10, 2) := by decide +kernel
theorem dX12_isGroup_14 : decode cX12_isGroup 14 = .ok (.irem, 1) := by decide +kernel
theorem dX12_isGroup_15 : decode cX12_isGroup 15 = .ok (.bipush 8, 2) := by decide +kernel
theorem dX12_isGroup_17 : decode cX12_isGroup 17 = .ok (.if_icmp .lt 25, 3) := by decide +kernel
theorem dX12_isGroup_20 : decode cX12_isGroup 20 = .ok (.iload_n 0, 1) := by decide +kernel
theorem dX12_isGroup_21 : decode cX12_isGroup 21 = .ok (.bipush 10, 2) := by decide +kernel
theorem dX12_isGroup_23 : decode cX12_isGroup 23 = .ok (.idiv, 1) := by decide +kernel
theorem dX12_isGroup_24 : decode cX12_isGroup 24 = .ok (.iconst 1, 1) := by decide +kernel
theorem dX12_isGroup_25 : decode cX12_isGroup 25 = .ok (.if_icmp .eq 17, 3) := by decide +kernel
theorem dX12_isGroup_28 : decode cX12_isGroup 28 = .ok (.iload_n 0, 1) := by decide +kernel
theorem dX12_isGroup_29 : decode cX12_isGroup 29 = .ok (.bipush 10, 2) := by decide +kernel
theorem dX12_isGroup_31 : decode cX12_isGroup 31 = .ok (.idiv, 1) := by decide +kernel
theorem dX12_isGroup_32 : decode cX12_isGroup 32 = .ok (.iconst 2, 1) := by decide +kernel
theorem dX12_isGroup_33 : decode cX12_isGroup 33 = .ok (.if_icmp .eq 9, 3) := by decide +kernel
theorem dX12_isGroup_36 : decode cX12_isGroup 36 = .ok (.iload_n 0, 1) := by decide +kernel
theorem dX12_isGroup_37 : decode cX12_isGroup 37 = .ok (.bipush 30, 2) := by decide +kernel
theorem dX12_isGroup_39 : decode cX12_isGroup 39 = .ok (.if_icmp .ne 7, 3) := by decide +kernel
theorem dX12_isGroup_42 : decode cX12_isGroup 42 = .ok (.iconst 1, 1) := by decide +kernel
theorem dX12_isGroup_43 : decode cX12_isGroup 43 = .ok (.goto 4, 3) := by decide +kernel
theorem dX12_isGroup_46 : decode cX12_isGroup 46 = .ok (.iconst 0, 1) := by decide +kernel
theorem dX12_isGroup_47 : decode cX12_isGroup 47 = .ok (.ireturn, 1) := by decide +kernel
theorem dX12_isIn_0 : decode cX12_isIn 0 = .ok (.iload_n 2, 1) := by decide +kernel
theorem dX12_isIn_1 : decode cX12_isIn 1 = .ok (.bipush 10, 2) := by decide +kernel
theorem dX12_isIn_3 : decode cX12_isIn 3 = .ok (.irem, 1) := by decide +kernel
theorem dX12_isIn_4 : decode cX12_isIn 4 = .ok (.istore 4, 2) := by decide +kernel
theorem dX12_isIn_6 : decode cX12_isIn 6 = .ok (.iload_n 2, 1) := by decide +kernel
theorem dX12_isIn_7 : decode cX12_isIn 7 = .ok (.bipush 10, 2) := by decide +kernel
theorem dX12_isIn_9 : decode cX12_isIn 9 = .ok (.idiv, 1) := by decide +kernel
theorem dX12_isIn_10 : decode cX12_isIn 10 = .ok (.ifCond .ne 22, 3) := by decide +kernel
theorem dX12_isIn_13 : decode cX12_isIn 13 = .ok (.aload_n 0, 1) := by decide +kernel
theorem dX12_isIn_14 : decode cX12_isIn 14 = .ok (.getfield 9, 3) := by decide +kernel
theorem dX12_isIn_17 : decode cX12_isIn 17 = .ok (.iload_n 1, 1) := by decide +kernel
theorem dX12_isIn_18 : decode cX12_isIn 18 = .ok (.iaload, 1) := by decide +kernel
theorem dX12_isIn_19 : decode cX12_isIn 19 = .ok (.iload 4, 2) := by decide +kernel
theorem dX12_isIn_21 : decode cX12_isIn 21 = .ok (.if_icmp .ne 7, 3) := by decide +kernel
theorem dX12_isIn_24 : decode cX12_isIn 24 = .ok (.iconst 1, 1) := by decide +kernel
theorem dX12_isIn_25 : decode cX12_isIn 25 = .ok (.goto 89, 3) := by decide +kernel
theorem dX12_isIn_28 : decode cX12_isIn 28 = .ok (.iconst 0, 1) := by decide +kernel
theorem dX12_isIn_29 : decode cX12_isIn 29 = .ok (.goto 85, 3) := by decide +kernel
theorem dX12_isIn_32 : decode cX12_isIn 32 = .ok (.iload_n 2, 1) := by decide +kernel
theorem dX12_isIn_33 : decode cX12_isIn 33 = .ok (.bipush 10, 2) := by decide +kernel
theorem dX12_isIn_35 : decode cX12_isIn 35 = .ok (.idiv, 1) := by decide +kernel
theorem dX12_isIn_36 : decode cX12_isIn 36 = .ok (.iconst 1, 1) := by decide +kernel
theorem dX12_isIn_37 : decode cX12_isIn 37 = .ok (.if_icmp .ne 32, 3) := by decide +kernel
theorem dX12_isIn_40 : decode cX12_isIn 40 = .ok (.aload_n 0, 1) := by decide +kernel
theorem dX12_isIn_41 : decode cX12_isIn 41 = .ok (.getfield 34, 3) := by decide +kernel
theorem dX12_isIn_44 : decode cX12_isIn 44 = .ok (.bipush 10, 2) := by decide +kernel
theorem dX12_isIn_46 : decode cX12_isIn 46 = .ok (.iload_n 1, 1) := by decide +kernel
theorem dX12_isIn_47 : decode cX12_isIn 47 = .ok (.imul, 1) := by decide +kernel
theorem dX12_isIn_48 : decode cX12_isIn 48 = .ok (.aload_n 0, 1) := by decide +kernel
theorem dX12_isIn_49 : decode cX12_isIn 49 = .ok (.getfield 46, 3) := by decide +kernel
theorem dX12_isIn_52 : decode cX12_isIn 52 = .ok (.iload_n 3, 1) := by decide +kernel
theorem dX12_isIn_53 : decode cX12_isIn 53 = .ok (.iaload, 1) := by decide +kernel
theorem dX12_isIn_54 : decode cX12_isIn 54 = .ok (.iadd, 1) := by decide +kernel
theorem dX12_isIn_55 : decode cX12_isIn 55 = .ok (.iaload, 1) := by decide +kernel
theorem dX12_isIn_56 : decode cX12_isIn 56 = .ok (.iload 4, 2) := by decide +kernel
theorem dX12_isIn_58 : decode cX12_isIn 58 = .ok (.if_icmp .ne 7, 3) := by decide +kernel
theorem dX12_isIn_61 : decode cX12_isIn 61 = .ok (.iconst 1, 1) := by decide +kernel
theorem dX12_isIn_62 : decode cX12_isIn 62 = .ok (.goto 52, 3) := by decide +kernel
theorem dX12_isIn_65 : decode cX12_isIn 65 = .ok (.iconst 0, 1) := by decide +kernel
theorem dX12_isIn_66 : decode cX12_isIn 66 = .ok (.goto 48, 3) := by decide +kernel
theorem dX12_isIn_69 : decode cX12_isIn 69 = .ok (.iload_n 2, 1) := by decide +kernel
theorem dX12_isIn_70 : decode cX12_isIn 70 = .ok (.bipush 10, 2) := by decide +kernel
theorem dX12_isIn_72 : decode cX12_isIn 72 = .ok (.idiv, 1) := by decide +kernel
theorem dX12_isIn_73 : decode cX12_isIn 73 = .ok (.iconst 2, 1) := by decide +kernel
theorem dX12_isIn_74 : decode cX12_isIn 74 = .ok (.if_icmp .ne 22, 3) := by decide +kernel
theorem dX12_isIn_77 : decode cX12_isIn 77 = .ok (.aload_n 0, 1) := by decide +kernel
theorem dX12_isIn_78 : decode cX12_isIn 78 = .ok (.getfield 19, 3) := by decide +kernel
theorem dX12_isIn_81 : decode cX12_isIn 81 = .ok (.iload_n 1, 1) := by decide +kernel
theorem dX12_isIn_82 : decode cX12_isIn 82 = .ok (.iaload, 1) := by decide +kernel
theorem dX12_isIn_83 : decode cX12_isIn 83 = .ok (.iload 4, 2) := by decide +kernel
theorem dX12_isIn_85 : decode cX12_isIn 85 = .ok (.if_icmp .ne 7, 3) := by decide +kernel
theorem dX12_isIn_88 : decode cX12_isIn 88 = .ok (.iconst 1, 1) := by decide +kernel
theorem dX12_isIn_89 : decode cX12_isIn 89 = .ok (.goto 25, 3) := by decide +kernel
theorem dX12_isIn_92 : decode cX12_isIn 92 = .ok (.iconst 0, 1) := by decide +kernel
theorem dX12_isIn_93 : decode cX12_isIn 93 = .ok (.goto 21, 3) := by decide +kernel
theorem dX12_isIn_96 : decode cX12_isIn 96 = .ok (.aload_n 0, 1) := by decide +kernel
theorem dX12_isIn_97 : decode cX12_isIn 97 = .ok (.getfield 16, 3) := by decide +kernel
theorem dX12_isIn_100 : decode cX12_isIn 100 = .ok (.iload_n 1, 1) := by decide +kernel
theorem dX12_isIn_101 : decode cX12_isIn 101 = .ok (.iaload, 1) := by decide +kernel
theorem dX12_isIn_102 : decode cX12_isIn 102 = .ok (.aload_n 0, 1) := by decide +kernel
theorem dX12_isIn_103 : decode cX12_isIn 103 = .ok (.getfield 123, 3) := by decide +kernel
theorem dX12_isIn_106 : decode cX12_isIn 106 = .ok (.if_icmp .ge 7, 3) := by decide +kernel
theorem dX12_isIn_109 : decode cX12_isIn 109 = .ok (.iconst 1, 1) := by decide +kernel
theorem dX12_isIn_110 : decode cX12_isIn 110 = .ok (.goto 4, 3) := by decide +kernel
theorem dX12_isIn_113 : decode cX12_isIn 113 = .ok (.iconst 0, 1) := by decide +kernel
theorem dX12_isIn_114 : decode cX12_isIn 114 = .ok (.ireturn, 1) := by decide +kernel
theorem dX12_hasKind_0 : decode cX12_hasKind 0 = .ok (.iconst 0, 1) := by decide +kernel
theorem dX12_hasKind_1 : decode cX12_hasKind 1 = .ok (.istore 4, 2) := by decide +kernel
theorem dX12_hasKind_3 : decode cX12_hasKind 3 = .ok (.iconst 0, 1) := by decide +kernel
theorem dX12_hasKind_4 : decode cX12_hasKind 4 = .ok (.istore 5, 2) := by decide +kernel
theorem dX12_hasKind_6 : decode cX12_hasKind 6 = .ok (.iload 5, 2) := by decide +kernel
theorem dX12_hasKind_8 : decode cX12_hasKind 8 = .ok (.aload_n 0, 1) := by decide +kernel
theorem dX12_hasKind_9 : decode cX12_hasKind 9 = .ok (.getfield 187, 3) := by decide +kernel
theorem dX12_hasKind_12 : decode cX12_hasKind 12 = .ok (.if_icmp .ge 67, 3) := by decide +kernel
theorem dX12_hasKind_15 : decode cX12_hasKind 15 = .ok (.aload_n 0, 1) := by decide +kernel
theorem dX12_hasKind_16 : decode cX12_hasKind 16 = .ok (.getfield 55, 3) := by decide +kernel
theorem dX12_hasKind_19 : decode cX12_hasKind 19 = .ok (.iload 5, 2) := by decide +kernel
theorem dX12_hasKind_21 : decode cX12_hasKind 21 = .ok (.iaload, 1) := by decide +kernel
theorem dX12_hasKind_22 : decode cX12_hasKind 22 = .ok (.iload_n 1, 1) := by decide +kernel
theorem dX12_hasKind_23 : decode cX12_hasKind 23 = .ok (.if_icmp .ne 24, 3) := by decide +kernel
theorem dX12_hasKind_26 : decode cX12_hasKind 26 = .ok (.aload_n 0, 1) := by decide +kernel
theorem dX12_hasKind_27 : decode cX12_hasKind 27 = .ok (.getfield 61, 3) := by decide +kernel
theorem dX12_hasKind_30 : decode cX12_hasKind 30 = .ok (.iload 5, 2) := by decide +kernel
theorem dX12_hasKind_32 : decode cX12_hasKind 32 = .ok (.iaload, 1) := by decide +kernel
theorem dX12_hasKind_33 : decode cX12_hasKind 33 = .ok (.iload_n 2, 1) := by decide +kernel
theorem dX12_hasKind_34 : decode cX12_hasKind 34 = .ok (.if_icmp .ne 13, 3) := by decide +kernel
theorem dX12_hasKind_37 : decode cX12_hasKind 37 = .ok (.aload_n 0, 1) := by decide +kernel
theorem dX12_hasKind_38 : decode cX12_hasKind 38 = .ok (.iload 5, 2) := by decide +kernel
theorem dX12_hasKind_40 : decode cX12_hasKind 40 = .ok (.iload_n 3, 1) := by decide +kernel
theorem dX12_hasKind_41 : decode cX12_hasKind 41 = .ok (.invokevirtual 202, 3) := by decide +kernel
theorem dX12_hasKind_44 : decode cX12_hasKind 44 = .ok (.goto 4, 3) := by decide +kernel
theorem dX12_hasKind_47 : decode cX12_hasKind 47 = .ok (.iconst (-1), 1) := by decide +kernel
theorem dX12_hasKind_48 : decode cX12_hasKind 48 = .ok (.istore 6, 2) := by decide +kernel
theorem dX12_hasKind_50 : decode cX12_hasKind 50 = .ok (.iload 4, 2) := by decide +kernel
theorem dX12_hasKind_52 : decode cX12_hasKind 52 = .ok (.ifCond .ne 14, 3) := by decide +kernel
theorem dX12_hasKind_55 : decode cX12_hasKind 55 = .ok (.iload 6, 2) := by decide +kernel
theorem dX12_hasKind_57 : decode cX12_hasKind 57 = .ok (.ifCond .lt 13, 3) := by decide +kernel
theorem dX12_hasKind_60 : decode cX12_hasKind 60 = .ok (.iload 6, 2) := by decide +kernel
theorem dX12_hasKind_62 : decode cX12_hasKind 62 = .ok (.iconst 4, 1) := by decide +kernel
theorem dX12_hasKind_63 : decode cX12_hasKind 63 = .ok (.if_icmp .eq 7, 3) := by decide +kernel
theorem dX12_hasKind_66 : decode cX12_hasKind 66 = .ok (.iconst 1, 1) := by decide +kernel
theorem dX12_hasKind_67 : decode cX12_hasKind 67 = .ok (.goto 4, 3) := by decide +kernel
theorem dX12_hasKind_70 : decode cX12_hasKind 70 = .ok (.iconst 0, 1) := by decide +kernel
theorem dX12_hasKind_71 : decode cX12_hasKind 71 = .ok (.istore 4, 2) := by decide +kernel
theorem dX12_hasKind_73 : decode cX12_hasKind 73 = .ok (.iinc 5 1, 3) := by decide +kernel
theorem dX12_hasKind_76 : decode cX12_hasKind 76 = .ok (.goto (-70), 3) := by decide +kernel
theorem dX12_hasKind_79 : decode cX12_hasKind 79 = .ok (.iload 4, 2) := by decide +kernel
theorem dX12_hasKind_81 : decode cX12_hasKind 81 = .ok (.ireturn, 1) := by decide +kernel
theorem dX12_findWith_0 : decode cX12_findWith 0 = .ok (.aload_n 0, 1) := by decide +kernel
theorem dX12_findWith_1 : decode cX12_findWith 1 = .ok (.iconst 0, 1) := by decide +kernel
theorem dX12_findWith_2 : decode cX12_findWith 2 = .ok (.putfield 267, 3) := by decide +kernel
theorem dX12_findWith_5 : decode cX12_findWith 5 = .ok (.iconst 0, 1) := by decide +kernel
theorem dX12_findWith_6 : decode cX12_findWith 6 = .ok (.istore_n 3, 1) := by decide +kernel
theorem dX12_findWith_7 : decode cX12_findWith 7 = .ok (.iload_n 3, 1) := by decide +kernel
theorem dX12_findWith_8 : decode cX12_findWith 8 = .ok (.aload_n 0, 1) := by decide +kernel
theorem dX12_findWith_9 : decode cX12_findWith 9 = .ok (.getfield 181, 3) := by decide +kernel
theorem dX12_findWith_12 : decode cX12_findWith 12 = .ok (.if_icmp .ge 45, 3) := by decide +kernel
theorem dX12_findWith_15 : decode cX12_findWith 15 = .ok (.aload_n 0, 1) := by decide +kernel
theorem dX12_findWith_16 : decode cX12_findWith 16 = .ok (.getfield 162, 3) := by decide +kernel
theorem dX12_findWith_19 : decode cX12_findWith 19 = .ok (.iload_n 3, 1) := by decide +kernel
theorem dX12_findWith_20 : decode cX12_findWith 20 = .ok (.aload_n 0, 1) := by decide +kernel
theorem dX12_findWith_21 : decode cX12_findWith 21 = .ok (.iload_n 3, 1) := by decide +kernel
theorem dX12_findWith_22 : decode cX12_findWith 22 = .ok (.iload_n 1, 1) := by decide +kernel
theorem dX12_findWith_23 : decode cX12_findWith 23 = .ok (.iload_n 2, 1) := by decide +kernel
theorem dX12_findWith_24 : decode cX12_findWith 24 = .ok (.invokevirtual 270, 3) := by decide +kernel
theorem dX12_findWith_27 : decode cX12_findWith 27 = .ok (.bastore, 1) := by decide +kernel
theorem dX12_findWith_28 : decode cX12_findWith 28 = .ok (.aload_n 0, 1) := by decide +kernel
theorem dX12_findWith_29 : decode cX12_findWith 29 = .ok (.dup, 1) := by decide +kernel
theorem dX12_findWith_30 : decode cX12_findWith 30 = .ok (.getfield 267, 3) := by decide +kernel
theorem dX12_findWith_33 : decode cX12_findWith 33 = .ok (.aload_n 0, 1) := by decide +kernel
theorem dX12_findWith_34 : decode cX12_findWith 34 = .ok (.getfield 162, 3) := by decide +kernel
theorem dX12_findWith_37 : decode cX12_findWith 37 = .ok (.iload_n 3, 1) := by decide +kernel
theorem dX12_findWith_38 : decode cX12_findWith 38 = .ok (.baload, 1) := by decide +kernel
theorem dX12_findWith_39 : decode cX12_findWith 39 = .ok (.ifCond .eq 7, 3) := by decide +kernel
theorem dX12_findWith_42 : decode cX12_findWith 42 = .ok (.iconst 1, 1) := by decide +kernel
theorem dX12_findWith_43 : decode cX12_findWith 43 = .ok (.goto 4, 3) := by decide +kernel
theorem dX12_findWith_46 : decode cX12_findWith 46 = .ok (.iconst 0, 1) := by decide +kernel
theorem dX12_findWith_47 : decode cX12_findWith 47 = .ok (.iadd, 1) := by decide +kernel
theorem dX12_findWith_48 : decode cX12_findWith 48 = .ok (.putfield 267, 3) := by decide +kernel
theorem dX12_findWith_51 : decode cX12_findWith 51 = .ok (.iinc 3 1, 3) := by decide +kernel
theorem dX12_findWith_54 : decode cX12_findWith 54 = .ok (.goto (-47), 3) := by decide +kernel
theorem dX12_findWith_57 : decode cX12_findWith 57 = .ok (.return_, 1) := by decide +kernel
theorem dX12_sizeOf_0 : decode cX12_sizeOf 0 = .ok (.iconst 0, 1) := by decide +kernel
theorem dX12_sizeOf_1 : decode cX12_sizeOf 1 = .ok (.istore 4, 2) := by decide +kernel
theorem dX12_sizeOf_3 : decode cX12_sizeOf 3 = .ok (.iconst 0, 1) := by decide +kernel
theorem dX12_sizeOf_4 : decode cX12_sizeOf 4 = .ok (.istore 5, 2) := by decide +kernel
theorem dX12_sizeOf_6 : decode cX12_sizeOf 6 = .ok (.iload 5, 2) := by decide +kernel
theorem dX12_sizeOf_8 : decode cX12_sizeOf 8 = .ok (.aload_n 0, 1) := by decide +kernel
theorem dX12_sizeOf_9 : decode cX12_sizeOf 9 = .ok (.getfield 181, 3) := by decide +kernel
theorem dX12_sizeOf_12 : decode cX12_sizeOf 12 = .ok (.if_icmp .ge 44, 3) := by decide +kernel
theorem dX12_sizeOf_15 : decode cX12_sizeOf 15 = .ok (.iload 4, 2) := by decide +kernel
theorem dX12_sizeOf_17 : decode cX12_sizeOf 17 = .ok (.aload_n 0, 1) := by decide +kernel
theorem dX12_sizeOf_18 : decode cX12_sizeOf 18 = .ok (.iload 5, 2) := by decide +kernel
theorem dX12_sizeOf_20 : decode cX12_sizeOf 20 = .ok (.iload_n 1, 1) := by decide +kernel
theorem dX12_sizeOf_21 : decode cX12_sizeOf 21 = .ok (.iload_n 2, 1) := by decide +kernel
theorem dX12_sizeOf_22 : decode cX12_sizeOf 22 = .ok (.invokevirtual 273, 3) := by decide +kernel
theorem dX12_sizeOf_25 : decode cX12_sizeOf 25 = .ok (.ifCond .eq 21, 3) := by decide +kernel
theorem dX12_sizeOf_28 : decode cX12_sizeOf 28 = .ok (.iload_n 3, 1) := by decide +kernel
theorem dX12_sizeOf_29 : decode cX12_sizeOf 29 = .ok (.ifCond .eq 13, 3) := by decide +kernel
theorem dX12_sizeOf_32 : decode cX12_sizeOf 32 = .ok (.aload_n 0, 1) := by decide +kernel
theorem dX12_sizeOf_33 : decode cX12_sizeOf 33 = .ok (.getfield 162, 3) := by decide +kernel
theorem dX12_sizeOf_36 : decode cX12_sizeOf 36 = .ok (.iload 5, 2) := by decide +kernel
theorem dX12_sizeOf_38 : decode cX12_sizeOf 38 = .ok (.baload, 1) := by decide +kernel
theorem dX12_sizeOf_39 : decode cX12_sizeOf 39 = .ok (.ifCond .eq 7, 3) := by decide +kernel
theorem dX12_sizeOf_42 : decode cX12_sizeOf 42 = .ok (.iconst 1, 1) := by decide +kernel
theorem dX12_sizeOf_43 : decode cX12_sizeOf 43 = .ok (.goto 4, 3) := by decide +kernel
theorem dX12_sizeOf_46 : decode cX12_sizeOf 46 = .ok (.iconst 0, 1) := by decide +kernel
theorem dX12_sizeOf_47 : decode cX12_sizeOf 47 = .ok (.iadd, 1) := by decide +kernel
theorem dX12_sizeOf_48 : decode cX12_sizeOf 48 = .ok (.istore 4, 2) := by decide +kernel
theorem dX12_sizeOf_50 : decode cX12_sizeOf 50 = .ok (.iinc 5 1, 3) := by decide +kernel
theorem dX12_sizeOf_53 : decode cX12_sizeOf 53 = .ok (.goto (-47), 3) := by decide +kernel
theorem dX12_sizeOf_56 : decode cX12_sizeOf 56 = .ok (.iload 4, 2) := by decide +kernel
theorem dX12_sizeOf_58 : decode cX12_sizeOf 58 = .ok (.ireturn, 1) := by decide +kernel
theorem dX12_joined_0 : decode cX12_joined 0 = .ok (.aload_n 0, 1) := by decide +kernel
theorem dX12_joined_1 : decode cX12_joined 1 = .ok (.iload_n 1, 1) := by decide +kernel
theorem dX12_joined_2 : decode cX12_joined 2 = .ok (.invokevirtual 223, 3) := by decide +kernel
theorem dX12_joined_5 : decode cX12_joined 5 = .ok (.ifCond .eq 27, 3) := by decide +kernel
theorem dX12_joined_8 : decode cX12_joined 8 = .ok (.iload_n 2, 1) := by decide +kernel
theorem dX12_joined_9 : decode cX12_joined 9 = .ok (.invokestatic 276, 3) := by decide +kernel
theorem dX12_joined_12 : decode cX12_joined 12 = .ok (.ifCond .eq 20, 3) := by decide +kernel
theorem dX12_joined_15 : decode cX12_joined 15 = .ok (.iload_n 3, 1) := by decide +kernel
theorem dX12_joined_16 : decode cX12_joined 16 = .ok (.invokestatic 249, 3) := by decide +kernel
theorem dX12_joined_19 : decode cX12_joined 19 = .ok (.ifCond .eq 13, 3) := by decide +kernel
theorem dX12_joined_22 : decode cX12_joined 22 = .ok (.iload 4, 2) := by decide +kernel
theorem dX12_joined_24 : decode cX12_joined 24 = .ok (.iconst 0, 1) := by decide +kernel
theorem dX12_joined_25 : decode cX12_joined 25 = .ok (.iconst 2, 1) := by decide +kernel
theorem dX12_joined_26 : decode cX12_joined 26 = .ok (.invokestatic 177, 3) := by decide +kernel
theorem dX12_joined_29 : decode cX12_joined 29 = .ok (.ifCond .ne 5, 3) := by decide +kernel
theorem dX12_joined_32 : decode cX12_joined 32 = .ok (.iconst (-1), 1) := by decide +kernel
theorem dX12_joined_33 : decode cX12_joined 33 = .ok (.ireturn, 1) := by decide +kernel
theorem dX12_joined_34 : decode cX12_joined 34 = .ok (.aload_n 0, 1) := by decide +kernel
theorem dX12_joined_35 : decode cX12_joined 35 = .ok (.iload_n 1, 1) := by decide +kernel
theorem dX12_joined_36 : decode cX12_joined 36 = .ok (.iload_n 3, 1) := by decide +kernel
theorem dX12_joined_37 : decode cX12_joined 37 = .ok (.invokevirtual 279, 3) := by decide +kernel
theorem dX12_joined_40 : decode cX12_joined 40 = .ok (.iload 4, 2) := by decide +kernel
theorem dX12_joined_42 : decode cX12_joined 42 = .ok (.ifCond .ne 10, 3) := by decide +kernel
theorem dX12_joined_45 : decode cX12_joined 45 = .ok (.aload_n 0, 1) := by decide +kernel
theorem dX12_joined_46 : decode cX12_joined 46 = .ok (.getfield 267, 3) := by decide +kernel
theorem dX12_joined_49 : decode cX12_joined 49 = .ok (.goto 20, 3) := by decide +kernel
theorem dX12_joined_52 : decode cX12_joined 52 = .ok (.aload_n 0, 1) := by decide +kernel
theorem dX12_joined_53 : decode cX12_joined 53 = .ok (.iload_n 2, 1) := by decide +kernel
theorem dX12_joined_54 : decode cX12_joined 54 = .ok (.iload_n 1, 1) := by decide +kernel
theorem dX12_joined_55 : decode cX12_joined 55 = .ok (.iload 4, 2) := by decide +kernel
theorem dX12_joined_57 : decode cX12_joined 57 = .ok (.iconst 1, 1) := by decide +kernel
theorem dX12_joined_58 : decode cX12_joined 58 = .ok (.if_icmp .ne 7, 3) := by decide +kernel
theorem dX12_joined_61 : decode cX12_joined 61 = .ok (.iconst 1, 1) := by decide +kernel
theorem dX12_joined_62 : decode cX12_joined 62 = .ok (.goto 4, 3) := by decide +kernel
theorem dX12_joined_65 : decode cX12_joined 65 = .ok (.iconst 0, 1) := by decide +kernel
theorem dX12_joined_66 : decode cX12_joined 66 = .ok (.invokevirtual 283, 3) := by decide +kernel
theorem dX12_joined_69 : decode cX12_joined 69 = .ok (.ireturn, 1) := by decide +kernel
theorem dX12_choose_0 : decode cX12_choose 0 = .ok (.iload_n 1, 1) := by decide +kernel
theorem dX12_choose_1 : decode cX12_choose 1 = .ok (.ifCond .lt 8, 3) := by decide +kernel
theorem dX12_choose_4 : decode cX12_choose 4 = .ok (.iload_n 1, 1) := by decide +kernel
theorem dX12_choose_5 : decode cX12_choose 5 = .ok (.iload_n 0, 1) := by decide +kernel
theorem dX12_choose_6 : decode cX12_choose 6 = .ok (.if_icmp .le 5, 3) := by decide +kernel
theorem dX12_choose_9 : decode cX12_choose 9 = .ok (.lconst 0, 1) := by decide +kernel
theorem dX12_choose_10 : decode cX12_choose 10 = .ok (.lreturn, 1) := by decide +kernel
theorem dX12_choose_11 : decode cX12_choose 11 = .ok (.lconst 1, 1) := by decide +kernel
theorem dX12_choose_12 : decode cX12_choose 12 = .ok (.lstore_n 2, 1) := by decide +kernel
theorem dX12_choose_13 : decode cX12_choose 13 = .ok (.iconst 0, 1) := by decide +kernel
theorem dX12_choose_14 : decode cX12_choose 14 = .ok (.istore 4, 2) := by decide +kernel
theorem dX12_choose_16 : decode cX12_choose 16 = .ok (.iload 4, 2) := by decide +kernel
theorem dX12_choose_18 : decode cX12_choose 18 = .ok (.iload_n 1, 1) := by decide +kernel
theorem dX12_choose_19 : decode cX12_choose 19 = .ok (.if_icmp .ge 23, 3) := by decide +kernel
theorem dX12_choose_22 : decode cX12_choose 22 = .ok (.lload_n 2, 1) := by decide +kernel
theorem dX12_choose_23 : decode cX12_choose 23 = .ok (.iload_n 0, 1) := by decide +kernel
theorem dX12_choose_24 : decode cX12_choose 24 = .ok (.iload 4, 2) := by decide +kernel
theorem dX12_choose_26 : decode cX12_choose 26 = .ok (.isub, 1) := by decide +kernel
theorem dX12_choose_27 : decode cX12_choose 27 = .ok (.i2l, 1) := by decide +kernel
theorem dX12_choose_28 : decode cX12_choose 28 = .ok (.lmul, 1) := by decide +kernel
theorem dX12_choose_29 : decode cX12_choose 29 = .ok (.iload 4, 2) := by decide +kernel
theorem dX12_choose_31 : decode cX12_choose 31 = .ok (.iconst 1, 1) := by decide +kernel
theorem dX12_choose_32 : decode cX12_choose 32 = .ok (.iadd, 1) := by decide +kernel
theorem dX12_choose_33 : decode cX12_choose 33 = .ok (.i2l, 1) := by decide +kernel
theorem dX12_choose_34 : decode cX12_choose 34 = .ok (.ldiv, 1) := by decide +kernel
theorem dX12_choose_35 : decode cX12_choose 35 = .ok (.lstore_n 2, 1) := by decide +kernel
theorem dX12_choose_36 : decode cX12_choose 36 = .ok (.iinc 4 1, 3) := by decide +kernel
theorem dX12_choose_39 : decode cX12_choose 39 = .ok (.goto (-23), 3) := by decide +kernel
theorem dX12_choose_42 : decode cX12_choose 42 = .ok (.lload_n 2, 1) := by decide +kernel
theorem dX12_choose_43 : decode cX12_choose 43 = .ok (.lreturn, 1) := by decide +kernel
theorem dX12_chanceOf_0 : decode cX12_chanceOf 0 = .ok (.aload_n 0, 1) := by decide +kernel
theorem dX12_chanceOf_1 : decode cX12_chanceOf 1 = .ok (.iload_n 1, 1) := by decide +kernel
theorem dX12_chanceOf_2 : decode cX12_chanceOf 2 = .ok (.iload_n 2, 1) := by decide +kernel
theorem dX12_chanceOf_3 : decode cX12_chanceOf 3 = .ok (.iconst 0, 1) := by decide +kernel
theorem dX12_chanceOf_4 : decode cX12_chanceOf 4 = .ok (.invokevirtual 283, 3) := by decide +kernel
theorem dX12_chanceOf_7 : decode cX12_chanceOf 7 = .ok (.istore_n 3, 1) := by decide +kernel
theorem dX12_chanceOf_8 : decode cX12_chanceOf 8 = .ok (.iload_n 3, 1) := by decide +kernel
theorem dX12_chanceOf_9 : decode cX12_chanceOf 9 = .ok (.ifCond .ne 7, 3) := by decide +kernel
theorem dX12_chanceOf_12 : decode cX12_chanceOf 12 = .ok (.sipush 10000, 3) := by decide +kernel
theorem dX12_chanceOf_15 : decode cX12_chanceOf 15 = .ok (.ireturn, 1) := by decide +kernel
theorem dX12_chanceOf_16 : decode cX12_chanceOf 16 = .ok (.lconst 0, 1) := by decide +kernel
theorem dX12_chanceOf_17 : decode cX12_chanceOf 17 = .ok (.lstore 4, 2) := by decide +kernel
theorem dX12_chanceOf_19 : decode cX12_chanceOf 19 = .ok (.aload_n 0, 1) := by decide +kernel
theorem dX12_chanceOf_20 : decode cX12_chanceOf 20 = .ok (.iload_n 1, 1) := by decide +kernel
theorem dX12_chanceOf_21 : decode cX12_chanceOf 21 = .ok (.iload_n 2, 1) := by decide +kernel
theorem dX12_chanceOf_22 : decode cX12_chanceOf 22 = .ok (.iconst 1, 1) := by decide +kernel
theorem dX12_chanceOf_23 : decode cX12_chanceOf 23 = .ok (.invokevirtual 283, 3) := by decide +kernel
theorem dX12_chanceOf_26 : decode cX12_chanceOf 26 = .ok (.istore 6, 2) := by decide +kernel
theorem dX12_chanceOf_28 : decode cX12_chanceOf 28 = .ok (.iload 6, 2) := by decide +kernel
theorem dX12_chanceOf_30 : decode cX12_chanceOf 30 = .ok (.aload_n 0, 1) := by decide +kernel
theorem dX12_chanceOf_31 : decode cX12_chanceOf 31 = .ok (.getfield 267, 3) := by decide +kernel
theorem dX12_chanceOf_34 : decode cX12_chanceOf 34 = .ok (.if_icmp .gt 46, 3) := by decide +kernel
theorem dX12_chanceOf_37 : decode cX12_chanceOf 37 = .ok (.iload 6, 2) := by decide +kernel
theorem dX12_chanceOf_39 : decode cX12_chanceOf 39 = .ok (.iload_n 3, 1) := by decide +kernel
theorem dX12_chanceOf_40 : decode cX12_chanceOf 40 = .ok (.if_icmp .gt 40, 3) := by decide +kernel
theorem dX12_chanceOf_43 : decode cX12_chanceOf 43 = .ok (.lload 4, 2) := by decide +kernel
theorem dX12_chanceOf_45 : decode cX12_chanceOf 45 = .ok (.aload_n 0, 1) := by decide +kernel
theorem dX12_chanceOf_46 : decode cX12_chanceOf 46 = .ok (.getfield 267, 3) := by decide +kernel
theorem dX12_chanceOf_49 : decode cX12_chanceOf 49 = .ok (.iload 6, 2) := by decide +kernel
theorem dX12_chanceOf_51 : decode cX12_chanceOf 51 = .ok (.invokestatic 287, 3) := by decide +kernel
theorem dX12_chanceOf_54 : decode cX12_chanceOf 54 = .ok (.aload_n 0, 1) := by decide +kernel
theorem dX12_chanceOf_55 : decode cX12_chanceOf 55 = .ok (.getfield 181, 3) := by decide +kernel
theorem dX12_chanceOf_58 : decode cX12_chanceOf 58 = .ok (.aload_n 0, 1) := by decide +kernel
theorem dX12_chanceOf_59 : decode cX12_chanceOf 59 = .ok (.getfield 267, 3) := by decide +kernel
theorem dX12_chanceOf_62 : decode cX12_chanceOf 62 = .ok (.isub, 1) := by decide +kernel
theorem dX12_chanceOf_63 : decode cX12_chanceOf 63 = .ok (.iload_n 3, 1) := by decide +kernel
theorem dX12_chanceOf_64 : decode cX12_chanceOf 64 = .ok (.iload 6, 2) := by decide +kernel
theorem dX12_chanceOf_66 : decode cX12_chanceOf 66 = .ok (.isub, 1) := by decide +kernel
theorem dX12_chanceOf_67 : decode cX12_chanceOf 67 = .ok (.invokestatic 287, 3) := by decide +kernel
theorem dX12_chanceOf_70 : decode cX12_chanceOf 70 = .ok (.lmul, 1) := by decide +kernel
theorem dX12_chanceOf_71 : decode cX12_chanceOf 71 = .ok (.ladd, 1) := by decide +kernel
theorem dX12_chanceOf_72 : decode cX12_chanceOf 72 = .ok (.lstore 4, 2) := by decide +kernel
theorem dX12_chanceOf_74 : decode cX12_chanceOf 74 = .ok (.iinc 6 1, 3) := by decide +kernel
theorem dX12_chanceOf_77 : decode cX12_chanceOf 77 = .ok (.goto (-49), 3) := by decide +kernel
theorem dX12_chanceOf_80 : decode cX12_chanceOf 80 = .ok (.aload_n 0, 1) := by decide +kernel
theorem dX12_chanceOf_81 : decode cX12_chanceOf 81 = .ok (.getfield 181, 3) := by decide +kernel
theorem dX12_chanceOf_84 : decode cX12_chanceOf 84 = .ok (.iload_n 3, 1) := by decide +kernel
theorem dX12_chanceOf_85 : decode cX12_chanceOf 85 = .ok (.invokestatic 287, 3) := by decide +kernel
theorem dX12_chanceOf_88 : decode cX12_chanceOf 88 = .ok (.lstore 6, 2) := by decide +kernel
theorem dX12_chanceOf_90 : decode cX12_chanceOf 90 = .ok (.lload 4, 2) := by decide +kernel
theorem dX12_chanceOf_92 : decode cX12_chanceOf 92 = .ok (.ldc2_w 291, 3) := by decide +kernel
theorem dX12_chanceOf_95 : decode cX12_chanceOf 95 = .ok (.lmul, 1) := by decide +kernel
theorem dX12_chanceOf_96 : decode cX12_chanceOf 96 = .ok (.lload 6, 2) := by decide +kernel
theorem dX12_chanceOf_98 : decode cX12_chanceOf 98 = .ok (.ladd, 1) := by decide +kernel
theorem dX12_chanceOf_99 : decode cX12_chanceOf 99 = .ok (.lconst 1, 1) := by decide +kernel
theorem dX12_chanceOf_100 : decode cX12_chanceOf 100 = .ok (.lsub, 1) := by decide +kernel
theorem dX12_chanceOf_101 : decode cX12_chanceOf 101 = .ok (.lload 6, 2) := by decide +kernel
theorem dX12_chanceOf_103 : decode cX12_chanceOf 103 = .ok (.ldiv, 1) := by decide +kernel
theorem dX12_chanceOf_104 : decode cX12_chanceOf 104 = .ok (.l2i, 1) := by decide +kernel
theorem dX12_chanceOf_105 : decode cX12_chanceOf 105 = .ok (.ireturn, 1) := by decide +kernel
theorem dX12_chance_0 : decode cX12_chance 0 = .ok (.aload_n 0, 1) := by decide +kernel
theorem dX12_chance_1 : decode cX12_chance 1 = .ok (.iload_n 1, 1) := by decide +kernel
theorem dX12_chance_2 : decode cX12_chance 2 = .ok (.invokevirtual 223, 3) := by decide +kernel
theorem dX12_chance_5 : decode cX12_chance 5 = .ok (.ifCond .eq 17, 3) := by decide +kernel
theorem dX12_chance_8 : decode cX12_chance 8 = .ok (.iload_n 2, 1) := by decide +kernel
theorem dX12_chance_9 : decode cX12_chance 9 = .ok (.invokestatic 276, 3) := by decide +kernel
theorem dX12_chance_12 : decode cX12_chance 12 = .ok (.ifCond .eq 10, 3) := by decide +kernel
theorem dX12_chance_15 : decode cX12_chance 15 = .ok (.iload_n 3, 1) := by decide +kernel
theorem dX12_chance_16 : decode cX12_chance 16 = .ok (.invokestatic 249, 3) := by decide +kernel
theorem dX12_chance_19 : decode cX12_chance 19 = .ok (.ifCond .ne 5, 3) := by decide +kernel
theorem dX12_chance_22 : decode cX12_chance 22 = .ok (.iconst (-1), 1) := by decide +kernel
theorem dX12_chance_23 : decode cX12_chance 23 = .ok (.ireturn, 1) := by decide +kernel
theorem dX12_chance_24 : decode cX12_chance 24 = .ok (.aload_n 0, 1) := by decide +kernel
theorem dX12_chance_25 : decode cX12_chance 25 = .ok (.iload_n 1, 1) := by decide +kernel
theorem dX12_chance_26 : decode cX12_chance 26 = .ok (.iload_n 3, 1) := by decide +kernel
theorem dX12_chance_27 : decode cX12_chance 27 = .ok (.invokevirtual 279, 3) := by decide +kernel
theorem dX12_chance_30 : decode cX12_chance 30 = .ok (.aload_n 0, 1) := by decide +kernel
theorem dX12_chance_31 : decode cX12_chance 31 = .ok (.iload_n 2, 1) := by decide +kernel
theorem dX12_chance_32 : decode cX12_chance 32 = .ok (.iload_n 1, 1) := by decide +kernel
theorem dX12_chance_33 : decode cX12_chance 33 = .ok (.invokevirtual 293, 3) := by decide +kernel
theorem dX12_chance_36 : decode cX12_chance 36 = .ok (.ireturn, 1) := by decide +kernel
theorem dX12_causeOf_0 : decode cX12_causeOf 0 = .ok (.iconst (-1), 1) := by decide +kernel
theorem dX12_causeOf_1 : decode cX12_causeOf 1 = .ok (.istore_n 3, 1) := by decide +kernel
theorem dX12_causeOf_2 : decode cX12_causeOf 2 = .ok (.iload_n 2, 1) := by decide +kernel
theorem dX12_causeOf_3 : decode cX12_causeOf 3 = .ok (.istore 4, 2) := by decide +kernel
theorem dX12_causeOf_5 : decode cX12_causeOf 5 = .ok (.iconst 0, 1) := by decide +kernel
theorem dX12_causeOf_6 : decode cX12_causeOf 6 = .ok (.istore 5, 2) := by decide +kernel
theorem dX12_causeOf_8 : decode cX12_causeOf 8 = .ok (.iload 5, 2) := by decide +kernel
theorem dX12_causeOf_10 : decode cX12_causeOf 10 = .ok (.bipush 30, 2) := by decide +kernel
theorem dX12_causeOf_12 : decode cX12_causeOf 12 = .ok (.if_icmp .gt 41, 3) := by decide +kernel
theorem dX12_causeOf_15 : decode cX12_causeOf 15 = .ok (.iload 5, 2) := by decide +kernel
theorem dX12_causeOf_17 : decode cX12_causeOf 17 = .ok (.invokestatic 276, 3) := by decide +kernel
theorem dX12_causeOf_20 : decode cX12_causeOf 20 = .ok (.ifCond .eq 27, 3) := by decide +kernel
theorem dX12_causeOf_23 : decode cX12_causeOf 23 = .ok (.aload_n 0, 1) := by decide +kernel
theorem dX12_causeOf_24 : decode cX12_causeOf 24 = .ok (.iload 5, 2) := by decide +kernel
theorem dX12_causeOf_26 : decode cX12_causeOf 26 = .ok (.iload_n 1, 1) := by decide +kernel
theorem dX12_causeOf_27 : decode cX12_causeOf 27 = .ok (.invokevirtual 293, 3) := by decide +kernel
theorem dX12_causeOf_30 : decode cX12_causeOf 30 = .ok (.iload 4, 2) := by decide +kernel
theorem dX12_causeOf_32 : decode cX12_causeOf 32 = .ok (.if_icmp .ge 15, 3) := by decide +kernel
theorem dX12_causeOf_35 : decode cX12_causeOf 35 = .ok (.iload 5, 2) := by decide +kernel
theorem dX12_causeOf_37 : decode cX12_causeOf 37 = .ok (.istore_n 3, 1) := by decide +kernel
theorem dX12_causeOf_38 : decode cX12_causeOf 38 = .ok (.aload_n 0, 1) := by decide +kernel
theorem dX12_causeOf_39 : decode cX12_causeOf 39 = .ok (.iload 5, 2) := by decide +kernel
theorem dX12_causeOf_41 : decode cX12_causeOf 41 = .ok (.iload_n 1, 1) := by decide +kernel
theorem dX12_causeOf_42 : decode cX12_causeOf 42 = .ok (.invokevirtual 293, 3) := by decide +kernel
theorem dX12_causeOf_45 : decode cX12_causeOf 45 = .ok (.istore 4, 2) := by decide +kernel
theorem dX12_causeOf_47 : decode cX12_causeOf 47 = .ok (.iinc 5 1, 3) := by decide +kernel
theorem dX12_causeOf_50 : decode cX12_causeOf 50 = .ok (.goto (-42), 3) := by decide +kernel
theorem dX12_causeOf_53 : decode cX12_causeOf 53 = .ok (.iload_n 3, 1) := by decide +kernel
theorem dX12_causeOf_54 : decode cX12_causeOf 54 = .ok (.ireturn, 1) := by decide +kernel
theorem dX12_cause_0 : decode cX12_cause 0 = .ok (.aload_n 0, 1) := by decide +kernel
theorem dX12_cause_1 : decode cX12_cause 1 = .ok (.iload_n 1, 1) := by decide +kernel
theorem dX12_cause_2 : decode cX12_cause 2 = .ok (.invokevirtual 223, 3) := by decide +kernel
theorem dX12_cause_5 : decode cX12_cause 5 = .ok (.ifCond .eq 21, 3) := by decide +kernel
theorem dX12_cause_8 : decode cX12_cause 8 = .ok (.iload_n 2, 1) := by decide +kernel
theorem dX12_cause_9 : decode cX12_cause 9 = .ok (.invokestatic 249, 3) := by decide +kernel
theorem dX12_cause_12 : decode cX12_cause 12 = .ok (.ifCond .eq 14, 3) := by decide +kernel
theorem dX12_cause_15 : decode cX12_cause 15 = .ok (.iload_n 3, 1) := by decide +kernel
theorem dX12_cause_16 : decode cX12_cause 16 = .ok (.iconst 1, 1) := by decide +kernel
theorem dX12_cause_17 : decode cX12_cause 17 = .ok (.sipush 9999, 3) := by decide +kernel
theorem dX12_cause_20 : decode cX12_cause 20 = .ok (.invokestatic 177, 3) := by decide +kernel
theorem dX12_cause_23 : decode cX12_cause 23 = .ok (.ifCond .ne 5, 3) := by decide +kernel
theorem dX12_cause_26 : decode cX12_cause 26 = .ok (.iconst (-1), 1) := by decide +kernel
theorem dX12_cause_27 : decode cX12_cause 27 = .ok (.ireturn, 1) := by decide +kernel
theorem dX12_cause_28 : decode cX12_cause 28 = .ok (.aload_n 0, 1) := by decide +kernel
theorem dX12_cause_29 : decode cX12_cause 29 = .ok (.iload_n 1, 1) := by decide +kernel
theorem dX12_cause_30 : decode cX12_cause 30 = .ok (.iload_n 2, 1) := by decide +kernel
theorem dX12_cause_31 : decode cX12_cause 31 = .ok (.invokevirtual 279, 3) := by decide +kernel
theorem dX12_cause_34 : decode cX12_cause 34 = .ok (.aload_n 0, 1) := by decide +kernel
theorem dX12_cause_35 : decode cX12_cause 35 = .ok (.iload_n 1, 1) := by decide +kernel
theorem dX12_cause_36 : decode cX12_cause 36 = .ok (.iload_n 3, 1) := by decide +kernel
theorem dX12_cause_37 : decode cX12_cause 37 = .ok (.invokevirtual 296, 3) := by decide +kernel
theorem dX12_cause_40 : decode cX12_cause 40 = .ok (.istore 4, 2) := by decide +kernel
theorem dX12_cause_42 : decode cX12_cause 42 = .ok (.iload 4, 2) := by decide +kernel
theorem dX12_cause_44 : decode cX12_cause 44 = .ok (.ifCond .ge 8, 3) := by decide +kernel
theorem dX12_cause_47 : decode cX12_cause 47 = .ok (.bipush (-4), 2) := by decide +kernel
theorem dX12_cause_49 : decode cX12_cause 49 = .ok (.goto 5, 3) := by decide +kernel
theorem dX12_cause_52 : decode cX12_cause 52 = .ok (.iload 4, 2) := by decide +kernel
theorem dX12_cause_54 : decode cX12_cause 54 = .ok (.ireturn, 1) := by decide +kernel
theorem dX12_areSame_0 : decode cX12_areSame 0 = .ok (.iconst 1, 1) := by decide +kernel
theorem dX12_areSame_1 : decode cX12_areSame 1 = .ok (.istore 4, 2) := by decide +kernel
theorem dX12_areSame_3 : decode cX12_areSame 3 = .ok (.iconst 0, 1) := by decide +kernel
theorem dX12_areSame_4 : decode cX12_areSame 4 = .ok (.istore 5, 2) := by decide +kernel
theorem dX12_areSame_6 : decode cX12_areSame 6 = .ok (.iload 5, 2) := by decide +kernel
theorem dX12_areSame_8 : decode cX12_areSame 8 = .ok (.aload_n 0, 1) := by decide +kernel
theorem dX12_areSame_9 : decode cX12_areSame 9 = .ok (.getfield 181, 3) := by decide +kernel
theorem dX12_areSame_12 : decode cX12_areSame 12 = .ok (.if_icmp .ge 40, 3) := by decide +kernel
theorem dX12_areSame_15 : decode cX12_areSame 15 = .ok (.iload 4, 2) := by decide +kernel
theorem dX12_areSame_17 : decode cX12_areSame 17 = .ok (.ifCond .eq 26, 3) := by decide +kernel
theorem dX12_areSame_20 : decode cX12_areSame 20 = .ok (.aload_n 0, 1) := by decide +kernel
theorem dX12_areSame_21 : decode cX12_areSame 21 = .ok (.iload 5, 2) := by decide +kernel
theorem dX12_areSame_23 : decode cX12_areSame 23 = .ok (.iload_n 1, 1) := by decide +kernel
theorem dX12_areSame_24 : decode cX12_areSame 24 = .ok (.iload_n 3, 1) := by decide +kernel
theorem dX12_areSame_25 : decode cX12_areSame 25 = .ok (.invokevirtual 273, 3) := by decide +kernel
theorem dX12_areSame_28 : decode cX12_areSame 28 = .ok (.aload_n 0, 1) := by decide +kernel
theorem dX12_areSame_29 : decode cX12_areSame 29 = .ok (.iload 5, 2) := by decide +kernel
theorem dX12_areSame_31 : decode cX12_areSame 31 = .ok (.iload_n 2, 1) := by decide +kernel
theorem dX12_areSame_32 : decode cX12_areSame 32 = .ok (.iload_n 3, 1) := by decide +kernel
theorem dX12_areSame_33 : decode cX12_areSame 33 = .ok (.invokevirtual 273, 3) := by decide +kernel
theorem dX12_areSame_36 : decode cX12_areSame 36 = .ok (.if_icmp .ne 7, 3) := by decide +kernel
theorem dX12_areSame_39 : decode cX12_areSame 39 = .ok (.iconst 1, 1) := by decide +kernel
theorem dX12_areSame_40 : decode cX12_areSame 40 = .ok (.goto 4, 3) := by decide +kernel
theorem dX12_areSame_43 : decode cX12_areSame 43 = .ok (.iconst 0, 1) := by decide +kernel
theorem dX12_areSame_44 : decode cX12_areSame 44 = .ok (.istore 4, 2) := by decide +kernel
theorem dX12_areSame_46 : decode cX12_areSame 46 = .ok (.iinc 5 1, 3) := by decide +kernel
theorem dX12_areSame_49 : decode cX12_areSame 49 = .ok (.goto (-43), 3) := by decide +kernel
theorem dX12_areSame_52 : decode cX12_areSame 52 = .ok (.iload 4, 2) := by decide +kernel
theorem dX12_areSame_54 : decode cX12_areSame 54 = .ok (.ireturn, 1) := by decide +kernel
theorem dX12_rivals_0 : decode cX12_rivals 0 = .ok (.aload_n 0, 1) := by decide +kernel
theorem dX12_rivals_1 : decode cX12_rivals 1 = .ok (.iload_n 1, 1) := by decide +kernel
theorem dX12_rivals_2 : decode cX12_rivals 2 = .ok (.invokevirtual 223, 3) := by decide +kernel
theorem dX12_rivals_5 : decode cX12_rivals 5 = .ok (.ifCond .eq 21, 3) := by decide +kernel
theorem dX12_rivals_8 : decode cX12_rivals 8 = .ok (.iload_n 2, 1) := by decide +kernel
theorem dX12_rivals_9 : decode cX12_rivals 9 = .ok (.invokestatic 249, 3) := by decide +kernel
theorem dX12_rivals_12 : decode cX12_rivals 12 = .ok (.ifCond .eq 14, 3) := by decide +kernel
theorem dX12_rivals_15 : decode cX12_rivals 15 = .ok (.iload_n 3, 1) := by decide +kernel
theorem dX12_rivals_16 : decode cX12_rivals 16 = .ok (.iconst 1, 1) := by decide +kernel
theorem dX12_rivals_17 : decode cX12_rivals 17 = .ok (.sipush 9999, 3) := by decide +kernel
theorem dX12_rivals_20 : decode cX12_rivals 20 = .ok (.invokestatic 177, 3) := by decide +kernel
theorem dX12_rivals_23 : decode cX12_rivals 23 = .ok (.ifCond .ne 5, 3) := by decide +kernel
theorem dX12_rivals_26 : decode cX12_rivals 26 = .ok (.iconst (-1), 1) := by decide +kernel
theorem dX12_rivals_27 : decode cX12_rivals 27 = .ok (.ireturn, 1) := by decide +kernel
theorem dX12_rivals_28 : decode cX12_rivals 28 = .ok (.aload_n 0, 1) := by decide +kernel
theorem dX12_rivals_29 : decode cX12_rivals 29 = .ok (.iload_n 1, 1) := by decide +kernel
theorem dX12_rivals_30 : decode cX12_rivals 30 = .ok (.iload_n 2, 1) := by decide +kernel
theorem dX12_rivals_31 : decode cX12_rivals 31 = .ok (.invokevirtual 279, 3) := by decide +kernel
theorem dX12_rivals_34 : decode cX12_rivals 34 = .ok (.aload_n 0, 1) := by decide +kernel
theorem dX12_rivals_35 : decode cX12_rivals 35 = .ok (.iload_n 1, 1) := by decide +kernel
theorem dX12_rivals_36 : decode cX12_rivals 36 = .ok (.iload_n 3, 1) := by decide +kernel
theorem dX12_rivals_37 : decode cX12_rivals 37 = .ok (.invokevirtual 296, 3) := by decide +kernel
theorem dX12_rivals_40 : decode cX12_rivals 40 = .ok (.istore 4, 2) := by decide +kernel
theorem dX12_rivals_42 : decode cX12_rivals 42 = .ok (.iload 4, 2) := by decide +kernel
theorem dX12_rivals_44 : decode cX12_rivals 44 = .ok (.ifCond .ge 6, 3) := by decide +kernel
theorem dX12_rivals_47 : decode cX12_rivals 47 = .ok (.bipush (-4), 2) := by decide +kernel
theorem dX12_rivals_49 : decode cX12_rivals 49 = .ok (.ireturn, 1) := by decide +kernel
theorem dX12_rivals_50 : decode cX12_rivals 50 = .ok (.iconst 0, 1) := by decide +kernel
theorem dX12_rivals_51 : decode cX12_rivals 51 = .ok (.istore 5, 2) := by decide +kernel
theorem dX12_rivals_53 : decode cX12_rivals 53 = .ok (.iconst 0, 1) := by decide +kernel
theorem dX12_rivals_54 : decode cX12_rivals 54 = .ok (.istore 6, 2) := by decide +kernel
theorem dX12_rivals_56 : decode cX12_rivals 56 = .ok (.iload 6, 2) := by decide +kernel
theorem dX12_rivals_58 : decode cX12_rivals 58 = .ok (.bipush 30, 2) := by decide +kernel
theorem dX12_rivals_60 : decode cX12_rivals 60 = .ok (.if_icmp .gt 57, 3) := by decide +kernel
theorem dX12_rivals_63 : decode cX12_rivals 63 = .ok (.iload 5, 2) := by decide +kernel
theorem dX12_rivals_65 : decode cX12_rivals 65 = .ok (.iload 6, 2) := by decide +kernel
theorem dX12_rivals_67 : decode cX12_rivals 67 = .ok (.invokestatic 276, 3) := by decide +kernel
theorem dX12_rivals_70 : decode cX12_rivals 70 = .ok (.ifCond .eq 37, 3) := by decide +kernel
theorem dX12_rivals_73 : decode cX12_rivals 73 = .ok (.iload 6, 2) := by decide +kernel
theorem dX12_rivals_75 : decode cX12_rivals 75 = .ok (.iload 4, 2) := by decide +kernel
theorem dX12_rivals_77 : decode cX12_rivals 77 = .ok (.if_icmp .eq 30, 3) := by decide +kernel
theorem dX12_rivals_80 : decode cX12_rivals 80 = .ok (.aload_n 0, 1) := by decide +kernel
theorem dX12_rivals_81 : decode cX12_rivals 81 = .ok (.iload 6, 2) := by decide +kernel
theorem dX12_rivals_83 : decode cX12_rivals 83 = .ok (.iload_n 1, 1) := by decide +kernel
theorem dX12_rivals_84 : decode cX12_rivals 84 = .ok (.invokevirtual 293, 3) := by decide +kernel
theorem dX12_rivals_87 : decode cX12_rivals 87 = .ok (.iload_n 3, 1) := by decide +kernel
theorem dX12_rivals_88 : decode cX12_rivals 88 = .ok (.if_icmp .ge 19, 3) := by decide +kernel
theorem dX12_rivals_91 : decode cX12_rivals 91 = .ok (.aload_n 0, 1) := by decide +kernel
theorem dX12_rivals_92 : decode cX12_rivals 92 = .ok (.iload 6, 2) := by decide +kernel
theorem dX12_rivals_94 : decode cX12_rivals 94 = .ok (.iload 4, 2) := by decide +kernel
theorem dX12_rivals_96 : decode cX12_rivals 96 = .ok (.iload_n 1, 1) := by decide +kernel
theorem dX12_rivals_97 : decode cX12_rivals 97 = .ok (.invokevirtual 299, 3) := by decide +kernel
theorem dX12_rivals_100 : decode cX12_rivals 100 = .ok (.ifCond .ne 7, 3) := by decide +kernel
theorem dX12_rivals_103 : decode cX12_rivals 103 = .ok (.iconst 1, 1) := by decide +kernel
theorem dX12_rivals_104 : decode cX12_rivals 104 = .ok (.goto 4, 3) := by decide +kernel
theorem dX12_rivals_107 : decode cX12_rivals 107 = .ok (.iconst 0, 1) := by decide +kernel
theorem dX12_rivals_108 : decode cX12_rivals 108 = .ok (.iadd, 1) := by decide +kernel
theorem dX12_rivals_109 : decode cX12_rivals 109 = .ok (.istore 5, 2) := by decide +kernel
theorem dX12_rivals_111 : decode cX12_rivals 111 = .ok (.iinc 6 1, 3) := by decide +kernel
theorem dX12_rivals_114 : decode cX12_rivals 114 = .ok (.goto (-58), 3) := by decide +kernel
theorem dX12_rivals_117 : decode cX12_rivals 117 = .ok (.iload 5, 2) := by decide +kernel
theorem dX12_rivals_119 : decode cX12_rivals 119 = .ok (.ireturn, 1) := by decide +kernel
theorem dX12_read_0 : decode cX12_read 0 = .ok (.aload_n 0, 1) := by decide +kernel
theorem dX12_read_1 : decode cX12_read 1 = .ok (.iload_n 1, 1) := by decide +kernel
theorem dX12_read_2 : decode cX12_read 2 = .ok (.invokevirtual 233, 3) := by decide +kernel
theorem dX12_read_5 : decode cX12_read 5 = .ok (.ifCond .eq 23, 3) := by decide +kernel
theorem dX12_read_8 : decode cX12_read 8 = .ok (.aload_n 0, 1) := by decide +kernel
theorem dX12_read_9 : decode cX12_read 9 = .ok (.iload_n 1, 1) := by decide +kernel
theorem dX12_read_10 : decode cX12_read 10 = .ok (.iconst 2, 1) := by decide +kernel
theorem dX12_read_11 : decode cX12_read 11 = .ok (.invokevirtual 255, 3) := by decide +kernel
theorem dX12_read_14 : decode cX12_read 14 = .ok (.ifCond .eq 14, 3) := by decide +kernel
theorem dX12_read_17 : decode cX12_read 17 = .ok (.iload_n 2, 1) := by decide +kernel
theorem dX12_read_18 : decode cX12_read 18 = .ok (.iconst 0, 1) := by decide +kernel
theorem dX12_read_19 : decode cX12_read 19 = .ok (.sipush 9999, 3) := by decide +kernel
theorem dX12_read_22 : decode cX12_read 22 = .ok (.invokestatic 177, 3) := by decide +kernel
theorem dX12_read_25 : decode cX12_read 25 = .ok (.ifCond .ne 5, 3) := by decide +kernel
theorem dX12_read_28 : decode cX12_read 28 = .ok (.iconst (-1), 1) := by decide +kernel
theorem dX12_read_29 : decode cX12_read 29 = .ok (.ireturn, 1) := by decide +kernel
theorem dX12_read_30 : decode cX12_read 30 = .ok (.aload_n 0, 1) := by decide +kernel
theorem dX12_read_31 : decode cX12_read 31 = .ok (.getfield 132, 3) := by decide +kernel
theorem dX12_read_34 : decode cX12_read 34 = .ok (.iload_n 1, 1) := by decide +kernel
theorem dX12_read_35 : decode cX12_read 35 = .ok (.iaload, 1) := by decide +kernel
theorem dX12_read_36 : decode cX12_read 36 = .ok (.ifCond .le 31, 3) := by decide +kernel
theorem dX12_read_39 : decode cX12_read 39 = .ok (.aload_n 0, 1) := by decide +kernel
theorem dX12_read_40 : decode cX12_read 40 = .ok (.getfield 126, 3) := by decide +kernel
theorem dX12_read_43 : decode cX12_read 43 = .ok (.bipush 12, 2) := by decide +kernel
theorem dX12_read_45 : decode cX12_read 45 = .ok (.iload_n 1, 1) := by decide +kernel
theorem dX12_read_46 : decode cX12_read 46 = .ok (.imul, 1) := by decide +kernel
theorem dX12_read_47 : decode cX12_read 47 = .ok (.aload_n 0, 1) := by decide +kernel
theorem dX12_read_48 : decode cX12_read 48 = .ok (.getfield 132, 3) := by decide +kernel
theorem dX12_read_51 : decode cX12_read 51 = .ok (.iload_n 1, 1) := by decide +kernel
theorem dX12_read_52 : decode cX12_read 52 = .ok (.iaload, 1) := by decide +kernel
theorem dX12_read_53 : decode cX12_read 53 = .ok (.iadd, 1) := by decide +kernel
theorem dX12_read_54 : decode cX12_read 54 = .ok (.iconst 1, 1) := by decide +kernel
theorem dX12_read_55 : decode cX12_read 55 = .ok (.isub, 1) := by decide +kernel
theorem dX12_read_56 : decode cX12_read 56 = .ok (.iaload, 1) := by decide +kernel
theorem dX12_read_57 : decode cX12_read 57 = .ok (.aload_n 0, 1) := by decide +kernel
theorem dX12_read_58 : decode cX12_read 58 = .ok (.getfield 190, 3) := by decide +kernel
theorem dX12_read_61 : decode cX12_read 61 = .ok (.if_icmp .ne 6, 3) := by decide +kernel
theorem dX12_read_64 : decode cX12_read 64 = .ok (.bipush (-3), 2) := by decide +kernel
theorem dX12_read_66 : decode cX12_read 66 = .ok (.ireturn, 1) := by decide +kernel
theorem dX12_read_67 : decode cX12_read 67 = .ok (.aload_n 0, 1) := by decide +kernel
theorem dX12_read_68 : decode cX12_read 68 = .ok (.getfield 132, 3) := by decide +kernel
theorem dX12_read_71 : decode cX12_read 71 = .ok (.iload_n 1, 1) := by decide +kernel
theorem dX12_read_72 : decode cX12_read 72 = .ok (.iaload, 1) := by decide +kernel
theorem dX12_read_73 : decode cX12_read 73 = .ok (.bipush 12, 2) := by decide +kernel
theorem dX12_read_75 : decode cX12_read 75 = .ok (.if_icmp .ne 6, 3) := by decide +kernel
theorem dX12_read_78 : decode cX12_read 78 = .ok (.bipush (-2), 2) := by decide +kernel
theorem dX12_read_80 : decode cX12_read 80 = .ok (.ireturn, 1) := by decide +kernel
theorem dX12_read_81 : decode cX12_read 81 = .ok (.aload_n 0, 1) := by decide +kernel
theorem dX12_read_82 : decode cX12_read 82 = .ok (.getfield 126, 3) := by decide +kernel
theorem dX12_read_85 : decode cX12_read 85 = .ok (.bipush 12, 2) := by decide +kernel
theorem dX12_read_87 : decode cX12_read 87 = .ok (.iload_n 1, 1) := by decide +kernel
theorem dX12_read_88 : decode cX12_read 88 = .ok (.imul, 1) := by decide +kernel
theorem dX12_read_89 : decode cX12_read 89 = .ok (.aload_n 0, 1) := by decide +kernel
theorem dX12_read_90 : decode cX12_read 90 = .ok (.getfield 132, 3) := by decide +kernel
theorem dX12_read_93 : decode cX12_read 93 = .ok (.iload_n 1, 1) := by decide +kernel
theorem dX12_read_94 : decode cX12_read 94 = .ok (.iaload, 1) := by decide +kernel
theorem dX12_read_95 : decode cX12_read 95 = .ok (.iadd, 1) := by decide +kernel
theorem dX12_read_96 : decode cX12_read 96 = .ok (.aload_n 0, 1) := by decide +kernel
theorem dX12_read_97 : decode cX12_read 97 = .ok (.getfield 190, 3) := by decide +kernel
theorem dX12_read_100 : decode cX12_read 100 = .ok (.iastore, 1) := by decide +kernel
theorem dX12_read_101 : decode cX12_read 101 = .ok (.aload_n 0, 1) := by decide +kernel
theorem dX12_read_102 : decode cX12_read 102 = .ok (.getfield 129, 3) := by decide +kernel
theorem dX12_read_105 : decode cX12_read 105 = .ok (.bipush 12, 2) := by decide +kernel
theorem dX12_read_107 : decode cX12_read 107 = .ok (.iload_n 1, 1) := by decide +kernel
theorem dX12_read_108 : decode cX12_read 108 = .ok (.imul, 1) := by decide +kernel
theorem dX12_read_109 : decode cX12_read 109 = .ok (.aload_n 0, 1) := by decide +kernel
theorem dX12_read_110 : decode cX12_read 110 = .ok (.getfield 132, 3) := by decide +kernel
theorem dX12_read_113 : decode cX12_read 113 = .ok (.iload_n 1, 1) := by decide +kernel
theorem dX12_read_114 : decode cX12_read 114 = .ok (.iaload, 1) := by decide +kernel
theorem dX12_read_115 : decode cX12_read 115 = .ok (.iadd, 1) := by decide +kernel
theorem dX12_read_116 : decode cX12_read 116 = .ok (.iload_n 2, 1) := by decide +kernel
theorem dX12_read_117 : decode cX12_read 117 = .ok (.iastore, 1) := by decide +kernel
theorem dX12_read_118 : decode cX12_read 118 = .ok (.aload_n 0, 1) := by decide +kernel
theorem dX12_read_119 : decode cX12_read 119 = .ok (.getfield 132, 3) := by decide +kernel
theorem dX12_read_122 : decode cX12_read 122 = .ok (.iload_n 1, 1) := by decide +kernel
theorem dX12_read_123 : decode cX12_read 123 = .ok (.dup2, 1) := by decide +kernel
theorem dX12_read_124 : decode cX12_read 124 = .ok (.iaload, 1) := by decide +kernel
theorem dX12_read_125 : decode cX12_read 125 = .ok (.iconst 1, 1) := by decide +kernel
theorem dX12_read_126 : decode cX12_read 126 = .ok (.iadd, 1) := by decide +kernel
theorem dX12_read_127 : decode cX12_read 127 = .ok (.iastore, 1) := by decide +kernel
theorem dX12_read_128 : decode cX12_read 128 = .ok (.aload_n 0, 1) := by decide +kernel
theorem dX12_read_129 : decode cX12_read 129 = .ok (.getfield 132, 3) := by decide +kernel
theorem dX12_read_132 : decode cX12_read 132 = .ok (.iload_n 1, 1) := by decide +kernel
theorem dX12_read_133 : decode cX12_read 133 = .ok (.iaload, 1) := by decide +kernel
theorem dX12_read_134 : decode cX12_read 134 = .ok (.ireturn, 1) := by decide +kernel
theorem dX12_paceOf_0 : decode cX12_paceOf 0 = .ok (.bipush 12, 2) := by decide +kernel
theorem dX12_paceOf_2 : decode cX12_paceOf 2 = .ok (.iload_n 1, 1) := by decide +kernel
theorem dX12_paceOf_3 : decode cX12_paceOf 3 = .ok (.imul, 1) := by decide +kernel
theorem dX12_paceOf_4 : decode cX12_paceOf 4 = .ok (.iload_n 2, 1) := by decide +kernel
theorem dX12_paceOf_5 : decode cX12_paceOf 5 = .ok (.iadd, 1) := by decide +kernel
theorem dX12_paceOf_6 : decode cX12_paceOf 6 = .ok (.istore_n 3, 1) := by decide +kernel
theorem dX12_paceOf_7 : decode cX12_paceOf 7 = .ok (.aload_n 0, 1) := by decide +kernel
theorem dX12_paceOf_8 : decode cX12_paceOf 8 = .ok (.getfield 129, 3) := by decide +kernel
theorem dX12_paceOf_11 : decode cX12_paceOf 11 = .ok (.iload_n 3, 1) := by decide +kernel
theorem dX12_paceOf_12 : decode cX12_paceOf 12 = .ok (.iconst 1, 1) := by decide +kernel
theorem dX12_paceOf_13 : decode cX12_paceOf 13 = .ok (.iadd, 1) := by decide +kernel
theorem dX12_paceOf_14 : decode cX12_paceOf 14 = .ok (.iaload, 1) := by decide +kernel
theorem dX12_paceOf_15 : decode cX12_paceOf 15 = .ok (.aload_n 0, 1) := by decide +kernel
theorem dX12_paceOf_16 : decode cX12_paceOf 16 = .ok (.getfield 129, 3) := by decide +kernel
theorem dX12_paceOf_19 : decode cX12_paceOf 19 = .ok (.iload_n 3, 1) := by decide +kernel
theorem dX12_paceOf_20 : decode cX12_paceOf 20 = .ok (.iaload, 1) := by decide +kernel
theorem dX12_paceOf_21 : decode cX12_paceOf 21 = .ok (.isub, 1) := by decide +kernel
theorem dX12_paceOf_22 : decode cX12_paceOf 22 = .ok (.sipush 1000, 3) := by decide +kernel
theorem dX12_paceOf_25 : decode cX12_paceOf 25 = .ok (.imul, 1) := by decide +kernel
theorem dX12_paceOf_26 : decode cX12_paceOf 26 = .ok (.aload_n 0, 1) := by decide +kernel
theorem dX12_paceOf_27 : decode cX12_paceOf 27 = .ok (.getfield 126, 3) := by decide +kernel
theorem dX12_paceOf_30 : decode cX12_paceOf 30 = .ok (.iload_n 3, 1) := by decide +kernel
theorem dX12_paceOf_31 : decode cX12_paceOf 31 = .ok (.iconst 1, 1) := by decide +kernel
theorem dX12_paceOf_32 : decode cX12_paceOf 32 = .ok (.iadd, 1) := by decide +kernel
theorem dX12_paceOf_33 : decode cX12_paceOf 33 = .ok (.iaload, 1) := by decide +kernel
theorem dX12_paceOf_34 : decode cX12_paceOf 34 = .ok (.aload_n 0, 1) := by decide +kernel
theorem dX12_paceOf_35 : decode cX12_paceOf 35 = .ok (.getfield 126, 3) := by decide +kernel
theorem dX12_paceOf_38 : decode cX12_paceOf 38 = .ok (.iload_n 3, 1) := by decide +kernel
theorem dX12_paceOf_39 : decode cX12_paceOf 39 = .ok (.iaload, 1) := by decide +kernel
theorem dX12_paceOf_40 : decode cX12_paceOf 40 = .ok (.isub, 1) := by decide +kernel
theorem dX12_paceOf_41 : decode cX12_paceOf 41 = .ok (.idiv, 1) := by decide +kernel
theorem dX12_paceOf_42 : decode cX12_paceOf 42 = .ok (.ireturn, 1) := by decide +kernel
theorem dX12_gaugeOf_0 : decode cX12_gaugeOf 0 = .ok (.iconst 0, 1) := by decide +kernel
theorem dX12_gaugeOf_1 : decode cX12_gaugeOf 1 = .ok (.istore_n 3, 1) := by decide +kernel
theorem dX12_gaugeOf_2 : decode cX12_gaugeOf 2 = .ok (.iload_n 3, 1) := by decide +kernel
theorem dX12_gaugeOf_3 : decode cX12_gaugeOf 3 = .ok (.aload_n 0, 1) := by decide +kernel
theorem dX12_gaugeOf_4 : decode cX12_gaugeOf 4 = .ok (.getfield 132, 3) := by decide +kernel
theorem dX12_gaugeOf_7 : decode cX12_gaugeOf 7 = .ok (.iload_n 1, 1) := by decide +kernel
theorem dX12_gaugeOf_8 : decode cX12_gaugeOf 8 = .ok (.iaload, 1) := by decide +kernel
theorem dX12_gaugeOf_9 : decode cX12_gaugeOf 9 = .ok (.if_icmp .ge 24, 3) := by decide +kernel
theorem dX12_gaugeOf_12 : decode cX12_gaugeOf 12 = .ok (.aload_n 0, 1) := by decide +kernel
theorem dX12_gaugeOf_13 : decode cX12_gaugeOf 13 = .ok (.getfield 126, 3) := by decide +kernel
theorem dX12_gaugeOf_16 : decode cX12_gaugeOf 16 = .ok (.bipush 12, 2) := by decide +kernel
theorem dX12_gaugeOf_18 : decode cX12_gaugeOf 18 = .ok (.iload_n 1, 1) := by decide +kernel
theorem dX12_gaugeOf_19 : decode cX12_gaugeOf 19 = .ok (.imul, 1) := by decide +kernel
theorem dX12_gaugeOf_20 : decode cX12_gaugeOf 20 = .ok (.iload_n 3, 1) := by decide +kernel
theorem dX12_gaugeOf_21 : decode cX12_gaugeOf 21 = .ok (.iadd, 1) := by decide +kernel
theorem dX12_gaugeOf_22 : decode cX12_gaugeOf 22 = .ok (.iaload, 1) := by decide +kernel
theorem dX12_gaugeOf_23 : decode cX12_gaugeOf 23 = .ok (.iload_n 2, 1) := by decide +kernel
theorem dX12_gaugeOf_24 : decode cX12_gaugeOf 24 = .ok (.if_icmp .gt 9, 3) := by decide +kernel
theorem dX12_gaugeOf_27 : decode cX12_gaugeOf 27 = .ok (.iinc 3 1, 3) := by decide +kernel
theorem dX12_gaugeOf_30 : decode cX12_gaugeOf 30 = .ok (.goto (-28), 3) := by decide +kernel
theorem dX12_gaugeOf_33 : decode cX12_gaugeOf 33 = .ok (.aload_n 0, 1) := by decide +kernel
theorem dX12_gaugeOf_34 : decode cX12_gaugeOf 34 = .ok (.iload_n 1, 1) := by decide +kernel
theorem dX12_gaugeOf_35 : decode cX12_gaugeOf 35 = .ok (.iconst 2, 1) := by decide +kernel
theorem dX12_gaugeOf_36 : decode cX12_gaugeOf 36 = .ok (.invokevirtual 255, 3) := by decide +kernel
theorem dX12_gaugeOf_39 : decode cX12_gaugeOf 39 = .ok (.ifCond .eq 8, 3) := by decide +kernel
theorem dX12_gaugeOf_42 : decode cX12_gaugeOf 42 = .ok (.iload_n 3, 1) := by decide +kernel
theorem dX12_gaugeOf_43 : decode cX12_gaugeOf 43 = .ok (.iconst 3, 1) := by decide +kernel
theorem dX12_gaugeOf_44 : decode cX12_gaugeOf 44 = .ok (.if_icmp .ge 5, 3) := by decide +kernel
theorem dX12_gaugeOf_47 : decode cX12_gaugeOf 47 = .ok (.iconst 0, 1) := by decide +kernel
theorem dX12_gaugeOf_48 : decode cX12_gaugeOf 48 = .ok (.ireturn, 1) := by decide +kernel
theorem dX12_gaugeOf_49 : decode cX12_gaugeOf 49 = .ok (.aload_n 0, 1) := by decide +kernel
theorem dX12_gaugeOf_50 : decode cX12_gaugeOf 50 = .ok (.iload_n 1, 1) := by decide +kernel
theorem dX12_gaugeOf_51 : decode cX12_gaugeOf 51 = .ok (.iconst 0, 1) := by decide +kernel
theorem dX12_gaugeOf_52 : decode cX12_gaugeOf 52 = .ok (.invokevirtual 302, 3) := by decide +kernel
theorem dX12_gaugeOf_55 : decode cX12_gaugeOf 55 = .ok (.istore 4, 2) := by decide +kernel
theorem dX12_gaugeOf_57 : decode cX12_gaugeOf 57 = .ok (.aload_n 0, 1) := by decide +kernel
theorem dX12_gaugeOf_58 : decode cX12_gaugeOf 58 = .ok (.iload_n 1, 1) := by decide +kernel
theorem dX12_gaugeOf_59 : decode cX12_gaugeOf 59 = .ok (.iload_n 3, 1) := by decide +kernel
theorem dX12_gaugeOf_60 : decode cX12_gaugeOf 60 = .ok (.iconst 2, 1) := by decide +kernel
theorem dX12_gaugeOf_61 : decode cX12_gaugeOf 61 = .ok (.isub, 1) := by decide +kernel
theorem dX12_gaugeOf_62 : decode cX12_gaugeOf 62 = .ok (.invokevirtual 302, 3) := by decide +kernel
theorem dX12_gaugeOf_65 : decode cX12_gaugeOf 65 = .ok (.istore 5, 2) := by decide +kernel
theorem dX12_gaugeOf_67 : decode cX12_gaugeOf 67 = .ok (.iload 5, 2) := by decide +kernel
theorem dX12_gaugeOf_69 : decode cX12_gaugeOf 69 = .ok (.i2l, 1) := by decide +kernel
theorem dX12_gaugeOf_70 : decode cX12_gaugeOf 70 = .ok (.ldc2_w 305, 3) := by decide +kernel
theorem dX12_gaugeOf_73 : decode cX12_gaugeOf 73 = .ok (.lmul, 1) := by decide +kernel
theorem dX12_gaugeOf_74 : decode cX12_gaugeOf 74 = .ok (.iload 4, 2) := by decide +kernel
theorem dX12_gaugeOf_76 : decode cX12_gaugeOf 76 = .ok (.i2l, 1) := by decide +kernel
theorem dX12_gaugeOf_77 : decode cX12_gaugeOf 77 = .ok (.lcmp, 1) := by decide +kernel
theorem dX12_gaugeOf_78 : decode cX12_gaugeOf 78 = .ok (.ifCond .gt 7, 3) := by decide +kernel
theorem dX12_gaugeOf_81 : decode cX12_gaugeOf 81 = .ok (.iconst 1, 1) := by decide +kernel
theorem dX12_gaugeOf_82 : decode cX12_gaugeOf 82 = .ok (.goto 4, 3) := by decide +kernel
theorem dX12_gaugeOf_85 : decode cX12_gaugeOf 85 = .ok (.iconst 0, 1) := by decide +kernel
theorem dX12_gaugeOf_86 : decode cX12_gaugeOf 86 = .ok (.istore 6, 2) := by decide +kernel
theorem dX12_gaugeOf_88 : decode cX12_gaugeOf 88 = .ok (.iconst 0, 1) := by decide +kernel
theorem dX12_gaugeOf_89 : decode cX12_gaugeOf 89 = .ok (.istore 7, 2) := by decide +kernel
theorem dX12_gaugeOf_91 : decode cX12_gaugeOf 91 = .ok (.iconst 0, 1) := by decide +kernel
theorem dX12_gaugeOf_92 : decode cX12_gaugeOf 92 = .ok (.istore 8, 2) := by decide +kernel
theorem dX12_gaugeOf_94 : decode cX12_gaugeOf 94 = .ok (.iconst 0, 1) := by decide +kernel
theorem dX12_gaugeOf_95 : decode cX12_gaugeOf 95 = .ok (.istore 9, 2) := by decide +kernel
theorem dX12_gaugeOf_97 : decode cX12_gaugeOf 97 = .ok (.iconst 0, 1) := by decide +kernel
theorem dX12_gaugeOf_98 : decode cX12_gaugeOf 98 = .ok (.istore 10, 2) := by decide +kernel
theorem dX12_gaugeOf_100 : decode cX12_gaugeOf 100 = .ok (.iconst 0, 1) := by decide +kernel
theorem dX12_gaugeOf_101 : decode cX12_gaugeOf 101 = .ok (.istore 11, 2) := by decide +kernel
theorem dX12_gaugeOf_103 : decode cX12_gaugeOf 103 = .ok (.iload 11, 2) := by decide +kernel
theorem dX12_gaugeOf_105 : decode cX12_gaugeOf 105 = .ok (.iload_n 3, 1) := by decide +kernel
theorem dX12_gaugeOf_106 : decode cX12_gaugeOf 106 = .ok (.iconst 1, 1) := by decide +kernel
theorem dX12_gaugeOf_107 : decode cX12_gaugeOf 107 = .ok (.isub, 1) := by decide +kernel
theorem dX12_gaugeOf_108 : decode cX12_gaugeOf 108 = .ok (.if_icmp .ge 174, 3) := by decide +kernel
theorem dX12_gaugeOf_111 : decode cX12_gaugeOf 111 = .ok (.aload_n 0, 1) := by decide +kernel
theorem dX12_gaugeOf_112 : decode cX12_gaugeOf 112 = .ok (.iload_n 1, 1) := by decide +kernel
theorem dX12_gaugeOf_113 : decode cX12_gaugeOf 113 = .ok (.iload 11, 2) := by decide +kernel
theorem dX12_gaugeOf_115 : decode cX12_gaugeOf 115 = .ok (.invokevirtual 302, 3) := by decide +kernel
theorem dX12_gaugeOf_118 : decode cX12_gaugeOf 118 = .ok (.istore 12, 2) := by decide +kernel
theorem dX12_gaugeOf_120 : decode cX12_gaugeOf 120 = .ok (.iload 6, 2) := by decide +kernel
theorem dX12_gaugeOf_122 : decode cX12_gaugeOf 122 = .ok (.ifCond .eq 31, 3) := by decide +kernel
theorem dX12_gaugeOf_125 : decode cX12_gaugeOf 125 = .ok (.iload 12, 2) := by decide +kernel
theorem dX12_gaugeOf_127 : decode cX12_gaugeOf 127 = .ok (.ifCond .lt 26, 3) := by decide +kernel
theorem dX12_gaugeOf_130 : decode cX12_gaugeOf 130 = .ok (.iload 11, 2) := by decide +kernel
theorem dX12_gaugeOf_132 : decode cX12_gaugeOf 132 = .ok (.ifCond .eq 17, 3) := by decide +kernel
theorem dX12_gaugeOf_135 : decode cX12_gaugeOf 135 = .ok (.iload 12, 2) := by decide +kernel
theorem dX12_gaugeOf_137 : decode cX12_gaugeOf 137 = .ok (.aload_n 0, 1) := by decide +kernel
theorem dX12_gaugeOf_138 : decode cX12_gaugeOf 138 = .ok (.iload_n 1, 1) := by decide +kernel
theorem dX12_gaugeOf_139 : decode cX12_gaugeOf 139 = .ok (.iload 11, 2) := by decide +kernel
theorem dX12_gaugeOf_141 : decode cX12_gaugeOf 141 = .ok (.iconst 1, 1) := by decide +kernel
theorem dX12_gaugeOf_142 : decode cX12_gaugeOf 142 = .ok (.isub, 1) := by decide +kernel
theorem dX12_gaugeOf_143 : decode cX12_gaugeOf 143 = .ok (.invokevirtual 302, 3) := by decide +kernel
theorem dX12_gaugeOf_146 : decode cX12_gaugeOf 146 = .ok (.if_icmp .gt 7, 3) := by decide +kernel
theorem dX12_gaugeOf_149 : decode cX12_gaugeOf 149 = .ok (.iconst 1, 1) := by decide +kernel
theorem dX12_gaugeOf_150 : decode cX12_gaugeOf 150 = .ok (.goto 4, 3) := by decide +kernel
theorem dX12_gaugeOf_153 : decode cX12_gaugeOf 153 = .ok (.iconst 0, 1) := by decide +kernel
theorem dX12_gaugeOf_154 : decode cX12_gaugeOf 154 = .ok (.istore 6, 2) := by decide +kernel
theorem dX12_gaugeOf_156 : decode cX12_gaugeOf 156 = .ok (.aload_n 0, 1) := by decide +kernel
theorem dX12_gaugeOf_157 : decode cX12_gaugeOf 157 = .ok (.getfield 126, 3) := by decide +kernel
theorem dX12_gaugeOf_160 : decode cX12_gaugeOf 160 = .ok (.bipush 12, 2) := by decide +kernel
theorem dX12_gaugeOf_162 : decode cX12_gaugeOf 162 = .ok (.iload_n 1, 1) := by decide +kernel
theorem dX12_gaugeOf_163 : decode cX12_gaugeOf 163 = .ok (.imul, 1) := by decide +kernel
theorem dX12_gaugeOf_164 : decode cX12_gaugeOf 164 = .ok (.iload 11, 2) := by decide +kernel
theorem dX12_gaugeOf_166 : decode cX12_gaugeOf 166 = .ok (.iadd, 1) := by decide +kernel
theorem dX12_gaugeOf_167 : decode cX12_gaugeOf 167 = .ok (.iconst 1, 1) := by decide +kernel
theorem dX12_gaugeOf_168 : decode cX12_gaugeOf 168 = .ok (.iadd, 1) := by decide +kernel
theorem dX12_gaugeOf_169 : decode cX12_gaugeOf 169 = .ok (.iaload, 1) := by decide +kernel
theorem dX12_gaugeOf_170 : decode cX12_gaugeOf 170 = .ok (.bipush 30, 2) := by decide +kernel
theorem dX12_gaugeOf_172 : decode cX12_gaugeOf 172 = .ok (.idiv, 1) := by decide +kernel
theorem dX12_gaugeOf_173 : decode cX12_gaugeOf 173 = .ok (.bipush 12, 2) := by decide +kernel
theorem dX12_gaugeOf_175 : decode cX12_gaugeOf 175 = .ok (.irem, 1) := by decide +kernel
theorem dX12_gaugeOf_176 : decode cX12_gaugeOf 176 = .ok (.bipush 6, 2) := by decide +kernel
theorem dX12_gaugeOf_178 : decode cX12_gaugeOf 178 = .ok (.if_icmp .ge 7, 3) := by decide +kernel
theorem dX12_gaugeOf_181 : decode cX12_gaugeOf 181 = .ok (.iconst 1, 1) := by decide +kernel
theorem dX12_gaugeOf_182 : decode cX12_gaugeOf 182 = .ok (.goto 4, 3) := by decide +kernel
theorem dX12_gaugeOf_185 : decode cX12_gaugeOf 185 = .ok (.iconst 0, 1) := by decide +kernel
theorem dX12_gaugeOf_186 : decode cX12_gaugeOf 186 = .ok (.istore 13, 2) := by decide +kernel
theorem dX12_gaugeOf_188 : decode cX12_gaugeOf 188 = .ok (.iload 7, 2) := by decide +kernel
theorem dX12_gaugeOf_190 : decode cX12_gaugeOf 190 = .ok (.ifCond .ne 13, 3) := by decide +kernel
theorem dX12_gaugeOf_193 : decode cX12_gaugeOf 193 = .ok (.iload 13, 2) := by decide +kernel
theorem dX12_gaugeOf_195 : decode cX12_gaugeOf 195 = .ok (.ifCond .eq 12, 3) := by decide +kernel
theorem dX12_gaugeOf_198 : decode cX12_gaugeOf 198 = .ok (.iload 12, 2) := by decide +kernel
theorem dX12_gaugeOf_200 : decode cX12_gaugeOf 200 = .ok (.ifCond .le 7, 3) := by decide +kernel
theorem dX12_gaugeOf_203 : decode cX12_gaugeOf 203 = .ok (.iconst 1, 1) := by decide +kernel
theorem dX12_gaugeOf_204 : decode cX12_gaugeOf 204 = .ok (.goto 4, 3) := by decide +kernel
theorem dX12_gaugeOf_207 : decode cX12_gaugeOf 207 = .ok (.iconst 0, 1) := by decide +kernel
theorem dX12_gaugeOf_208 : decode cX12_gaugeOf 208 = .ok (.istore 7, 2) := by decide +kernel
theorem dX12_gaugeOf_210 : decode cX12_gaugeOf 210 = .ok (.iload 8, 2) := by decide +kernel
theorem dX12_gaugeOf_212 : decode cX12_gaugeOf 212 = .ok (.ifCond .ne 13, 3) := by decide +kernel
theorem dX12_gaugeOf_215 : decode cX12_gaugeOf 215 = .ok (.iload 13, 2) := by decide +kernel
theorem dX12_gaugeOf_217 : decode cX12_gaugeOf 217 = .ok (.ifCond .eq 12, 3) := by decide +kernel
theorem dX12_gaugeOf_220 : decode cX12_gaugeOf 220 = .ok (.iload 12, 2) := by decide +kernel
theorem dX12_gaugeOf_222 : decode cX12_gaugeOf 222 = .ok (.ifCond .ge 7, 3) := by decide +kernel
theorem dX12_gaugeOf_225 : decode cX12_gaugeOf 225 = .ok (.iconst 1, 1) := by decide +kernel
theorem dX12_gaugeOf_226 : decode cX12_gaugeOf 226 = .ok (.goto 4, 3) := by decide +kernel
theorem dX12_gaugeOf_229 : decode cX12_gaugeOf 229 = .ok (.iconst 0, 1) := by decide +kernel
theorem dX12_gaugeOf_230 : decode cX12_gaugeOf 230 = .ok (.istore 8, 2) := by decide +kernel
theorem dX12_gaugeOf_232 : decode cX12_gaugeOf 232 = .ok (.iload 9, 2) := by decide +kernel
theorem dX12_gaugeOf_234 : decode cX12_gaugeOf 234 = .ok (.ifCond .ne 13, 3) := by decide +kernel
theorem dX12_gaugeOf_237 : decode cX12_gaugeOf 237 = .ok (.iload 13, 2) := by decide +kernel
theorem dX12_gaugeOf_239 : decode cX12_gaugeOf 239 = .ok (.ifCond .ne 12, 3) := by decide +kernel
theorem dX12_gaugeOf_242 : decode cX12_gaugeOf 242 = .ok (.iload 12, 2) := by decide +kernel
theorem dX12_gaugeOf_244 : decode cX12_gaugeOf 244 = .ok (.ifCond .le 7, 3) := by decide +kernel
theorem dX12_gaugeOf_247 : decode cX12_gaugeOf 247 = .ok (.iconst 1, 1) := by decide +kernel
theorem dX12_gaugeOf_248 : decode cX12_gaugeOf 248 = .ok (.goto 4, 3) := by decide +kernel
theorem dX12_gaugeOf_251 : decode cX12_gaugeOf 251 = .ok (.iconst 0, 1) := by decide +kernel
theorem dX12_gaugeOf_252 : decode cX12_gaugeOf 252 = .ok (.istore 9, 2) := by decide +kernel
theorem dX12_gaugeOf_254 : decode cX12_gaugeOf 254 = .ok (.iload 10, 2) := by decide +kernel
theorem dX12_gaugeOf_256 : decode cX12_gaugeOf 256 = .ok (.ifCond .ne 13, 3) := by decide +kernel
theorem dX12_gaugeOf_259 : decode cX12_gaugeOf 259 = .ok (.iload 13, 2) := by decide +kernel
theorem dX12_gaugeOf_261 : decode cX12_gaugeOf 261 = .ok (.ifCond .ne 12, 3) := by decide +kernel
theorem dX12_gaugeOf_264 : decode cX12_gaugeOf 264 = .ok (.iload 12, 2) := by decide +kernel
theorem dX12_gaugeOf_266 : decode cX12_gaugeOf 266 = .ok (.ifCond .ge 7, 3) := by decide +kernel
theorem dX12_gaugeOf_269 : decode cX12_gaugeOf 269 = .ok (.iconst 1, 1) := by decide +kernel
theorem dX12_gaugeOf_270 : decode cX12_gaugeOf 270 = .ok (.goto 4, 3) := by decide +kernel
theorem dX12_gaugeOf_273 : decode cX12_gaugeOf 273 = .ok (.iconst 0, 1) := by decide +kernel
theorem dX12_gaugeOf_274 : decode cX12_gaugeOf 274 = .ok (.istore 10, 2) := by decide +kernel
theorem dX12_gaugeOf_276 : decode cX12_gaugeOf 276 = .ok (.iinc 11 1, 3) := by decide +kernel
theorem dX12_gaugeOf_279 : decode cX12_gaugeOf 279 = .ok (.goto (-176), 3) := by decide +kernel
theorem dX12_gaugeOf_282 : decode cX12_gaugeOf 282 = .ok (.iload 7, 2) := by decide +kernel
theorem dX12_gaugeOf_284 : decode cX12_gaugeOf 284 = .ok (.ifCond .eq 8, 3) := by decide +kernel
theorem dX12_gaugeOf_287 : decode cX12_gaugeOf 287 = .ok (.iload 10, 2) := by decide +kernel
theorem dX12_gaugeOf_289 : decode cX12_gaugeOf 289 = .ok (.ifCond .ne 13, 3) := by decide +kernel
theorem dX12_gaugeOf_292 : decode cX12_gaugeOf 292 = .ok (.iload 8, 2) := by decide +kernel
theorem dX12_gaugeOf_294 : decode cX12_gaugeOf 294 = .ok (.ifCond .eq 12, 3) := by decide +kernel
theorem dX12_gaugeOf_297 : decode cX12_gaugeOf 297 = .ok (.iload 9, 2) := by decide +kernel
theorem dX12_gaugeOf_299 : decode cX12_gaugeOf 299 = .ok (.ifCond .eq 7, 3) := by decide +kernel
theorem dX12_gaugeOf_302 : decode cX12_gaugeOf 302 = .ok (.iconst 1, 1) := by decide +kernel
theorem dX12_gaugeOf_303 : decode cX12_gaugeOf 303 = .ok (.goto 4, 3) := by decide +kernel
theorem dX12_gaugeOf_306 : decode cX12_gaugeOf 306 = .ok (.iconst 0, 1) := by decide +kernel
theorem dX12_gaugeOf_307 : decode cX12_gaugeOf 307 = .ok (.istore 11, 2) := by decide +kernel
theorem dX12_gaugeOf_309 : decode cX12_gaugeOf 309 = .ok (.iload 6, 2) := by decide +kernel
theorem dX12_gaugeOf_311 : decode cX12_gaugeOf 311 = .ok (.ifCond .eq 7, 3) := by decide +kernel
theorem dX12_gaugeOf_314 : decode cX12_gaugeOf 314 = .ok (.iconst 1, 1) := by decide +kernel
theorem dX12_gaugeOf_315 : decode cX12_gaugeOf 315 = .ok (.goto 25, 3) := by decide +kernel
theorem dX12_gaugeOf_318 : decode cX12_gaugeOf 318 = .ok (.iload 11, 2) := by decide +kernel
theorem dX12_gaugeOf_320 : decode cX12_gaugeOf 320 = .ok (.ifCond .ne 15, 3) := by decide +kernel
theorem dX12_gaugeOf_323 : decode cX12_gaugeOf 323 = .ok (.iload 5, 2) := by decide +kernel
theorem dX12_gaugeOf_325 : decode cX12_gaugeOf 325 = .ok (.iload 4, 2) := by decide +kernel
theorem dX12_gaugeOf_327 : decode cX12_gaugeOf 327 = .ok (.if_icmp .le 12, 3) := by decide +kernel
theorem dX12_gaugeOf_330 : decode cX12_gaugeOf 330 = .ok (.iload 5, 2) := by decide +kernel
theorem dX12_gaugeOf_332 : decode cX12_gaugeOf 332 = .ok (.ifCond .le 7, 3) := by decide +kernel
theorem dX12_gaugeOf_335 : decode cX12_gaugeOf 335 = .ok (.iconst 2, 1) := by decide +kernel
theorem dX12_gaugeOf_336 : decode cX12_gaugeOf 336 = .ok (.goto 4, 3) := by decide +kernel
theorem dX12_gaugeOf_339 : decode cX12_gaugeOf 339 = .ok (.iconst 0, 1) := by decide +kernel
theorem dX12_gaugeOf_340 : decode cX12_gaugeOf 340 = .ok (.ireturn, 1) := by decide +kernel
theorem dX12_gauge_0 : decode cX12_gauge 0 = .ok (.aload_n 0, 1) := by decide +kernel
theorem dX12_gauge_1 : decode cX12_gauge 1 = .ok (.iload_n 1, 1) := by decide +kernel
theorem dX12_gauge_2 : decode cX12_gauge 2 = .ok (.invokevirtual 233, 3) := by decide +kernel
theorem dX12_gauge_5 : decode cX12_gauge 5 = .ok (.ifCond .eq 28, 3) := by decide +kernel
theorem dX12_gauge_8 : decode cX12_gauge 8 = .ok (.aload_n 0, 1) := by decide +kernel
theorem dX12_gauge_9 : decode cX12_gauge 9 = .ok (.iload_n 1, 1) := by decide +kernel
theorem dX12_gauge_10 : decode cX12_gauge 10 = .ok (.iconst 2, 1) := by decide +kernel
theorem dX12_gauge_11 : decode cX12_gauge 11 = .ok (.invokevirtual 255, 3) := by decide +kernel
theorem dX12_gauge_14 : decode cX12_gauge 14 = .ok (.ifCond .eq 19, 3) := by decide +kernel
theorem dX12_gauge_17 : decode cX12_gauge 17 = .ok (.iload_n 2, 1) := by decide +kernel
theorem dX12_gauge_18 : decode cX12_gauge 18 = .ok (.invokestatic 249, 3) := by decide +kernel
theorem dX12_gauge_21 : decode cX12_gauge 21 = .ok (.ifCond .eq 12, 3) := by decide +kernel
theorem dX12_gauge_24 : decode cX12_gauge 24 = .ok (.aload_n 0, 1) := by decide +kernel
theorem dX12_gauge_25 : decode cX12_gauge 25 = .ok (.iload_n 1, 1) := by decide +kernel
theorem dX12_gauge_26 : decode cX12_gauge 26 = .ok (.iload_n 2, 1) := by decide +kernel
theorem dX12_gauge_27 : decode cX12_gauge 27 = .ok (.invokevirtual 307, 3) := by decide +kernel
theorem dX12_gauge_30 : decode cX12_gauge 30 = .ok (.goto 4, 3) := by decide +kernel
theorem dX12_gauge_33 : decode cX12_gauge 33 = .ok (.iconst (-1), 1) := by decide +kernel
theorem dX12_gauge_34 : decode cX12_gauge 34 = .ok (.ireturn, 1) := by decide +kernel
theorem dX12_pace_0 : decode cX12_pace 0 = .ok (.aload_n 0, 1) := by decide +kernel
theorem dX12_pace_1 : decode cX12_pace 1 = .ok (.iload_n 1, 1) := by decide +kernel
theorem dX12_pace_2 : decode cX12_pace 2 = .ok (.invokevirtual 233, 3) := by decide +kernel
theorem dX12_pace_5 : decode cX12_pace 5 = .ok (.ifCond .eq 37, 3) := by decide +kernel
theorem dX12_pace_8 : decode cX12_pace 8 = .ok (.aload_n 0, 1) := by decide +kernel
theorem dX12_pace_9 : decode cX12_pace 9 = .ok (.iload_n 1, 1) := by decide +kernel
theorem dX12_pace_10 : decode cX12_pace 10 = .ok (.iconst 2, 1) := by decide +kernel
theorem dX12_pace_11 : decode cX12_pace 11 = .ok (.invokevirtual 255, 3) := by decide +kernel
theorem dX12_pace_14 : decode cX12_pace 14 = .ok (.ifCond .eq 28, 3) := by decide +kernel
theorem dX12_pace_17 : decode cX12_pace 17 = .ok (.iload_n 2, 1) := by decide +kernel
theorem dX12_pace_18 : decode cX12_pace 18 = .ok (.ifCond .lt 24, 3) := by decide +kernel
theorem dX12_pace_21 : decode cX12_pace 21 = .ok (.iload_n 2, 1) := by decide +kernel
theorem dX12_pace_22 : decode cX12_pace 22 = .ok (.aload_n 0, 1) := by decide +kernel
theorem dX12_pace_23 : decode cX12_pace 23 = .ok (.getfield 132, 3) := by decide +kernel
theorem dX12_pace_26 : decode cX12_pace 26 = .ok (.iload_n 1, 1) := by decide +kernel
theorem dX12_pace_27 : decode cX12_pace 27 = .ok (.iaload, 1) := by decide +kernel
theorem dX12_pace_28 : decode cX12_pace 28 = .ok (.iconst 1, 1) := by decide +kernel
theorem dX12_pace_29 : decode cX12_pace 29 = .ok (.isub, 1) := by decide +kernel
theorem dX12_pace_30 : decode cX12_pace 30 = .ok (.if_icmp .ge 12, 3) := by decide +kernel
theorem dX12_pace_33 : decode cX12_pace 33 = .ok (.aload_n 0, 1) := by decide +kernel
theorem dX12_pace_34 : decode cX12_pace 34 = .ok (.iload_n 1, 1) := by decide +kernel
theorem dX12_pace_35 : decode cX12_pace 35 = .ok (.iload_n 2, 1) := by decide +kernel
theorem dX12_pace_36 : decode cX12_pace 36 = .ok (.invokevirtual 302, 3) := by decide +kernel
theorem dX12_pace_39 : decode cX12_pace 39 = .ok (.goto 5, 3) := by decide +kernel
theorem dX12_pace_42 : decode cX12_pace 42 = .ok (.ldc 201, 2) := by decide +kernel
theorem dX12_pace_44 : decode cX12_pace 44 = .ok (.ireturn, 1) := by decide +kernel
theorem dX12_sinks_0 : decode cX12_sinks 0 = .ok (.iconst 0, 1) := by decide +kernel
theorem dX12_sinks_1 : decode cX12_sinks 1 = .ok (.istore_n 2, 1) := by decide +kernel
theorem dX12_sinks_2 : decode cX12_sinks 2 = .ok (.iconst 0, 1) := by decide +kernel
theorem dX12_sinks_3 : decode cX12_sinks 3 = .ok (.istore_n 3, 1) := by decide +kernel
theorem dX12_sinks_4 : decode cX12_sinks 4 = .ok (.iload_n 3, 1) := by decide +kernel
theorem dX12_sinks_5 : decode cX12_sinks 5 = .ok (.aload_n 0, 1) := by decide +kernel
theorem dX12_sinks_6 : decode cX12_sinks 6 = .ok (.getfield 187, 3) := by decide +kernel
theorem dX12_sinks_9 : decode cX12_sinks 9 = .ok (.if_icmp .ge 63, 3) := by decide +kernel
theorem dX12_sinks_12 : decode cX12_sinks 12 = .ok (.iload_n 2, 1) := by decide +kernel
theorem dX12_sinks_13 : decode cX12_sinks 13 = .ok (.ifCond .ne 47, 3) := by decide +kernel
theorem dX12_sinks_16 : decode cX12_sinks 16 = .ok (.aload_n 0, 1) := by decide +kernel
theorem dX12_sinks_17 : decode cX12_sinks 17 = .ok (.getfield 55, 3) := by decide +kernel
theorem dX12_sinks_20 : decode cX12_sinks 20 = .ok (.iload_n 3, 1) := by decide +kernel
theorem dX12_sinks_21 : decode cX12_sinks 21 = .ok (.iaload, 1) := by decide +kernel
theorem dX12_sinks_22 : decode cX12_sinks 22 = .ok (.iload_n 1, 1) := by decide +kernel
theorem dX12_sinks_23 : decode cX12_sinks 23 = .ok (.if_icmp .ne 41, 3) := by decide +kernel
theorem dX12_sinks_26 : decode cX12_sinks 26 = .ok (.aload_n 0, 1) := by decide +kernel
theorem dX12_sinks_27 : decode cX12_sinks 27 = .ok (.iload_n 3, 1) := by decide +kernel
theorem dX12_sinks_28 : decode cX12_sinks 28 = .ok (.iconst 2, 1) := by decide +kernel
theorem dX12_sinks_29 : decode cX12_sinks 29 = .ok (.invokevirtual 255, 3) := by decide +kernel
theorem dX12_sinks_32 : decode cX12_sinks 32 = .ok (.ifCond .eq 32, 3) := by decide +kernel
theorem dX12_sinks_35 : decode cX12_sinks 35 = .ok (.aload_n 0, 1) := by decide +kernel
theorem dX12_sinks_36 : decode cX12_sinks 36 = .ok (.iload_n 3, 1) := by decide +kernel
theorem dX12_sinks_37 : decode cX12_sinks 37 = .ok (.aload_n 0, 1) := by decide +kernel
theorem dX12_sinks_38 : decode cX12_sinks 38 = .ok (.getfield 190, 3) := by decide +kernel
theorem dX12_sinks_41 : decode cX12_sinks 41 = .ok (.invokevirtual 206, 3) := by decide +kernel
theorem dX12_sinks_44 : decode cX12_sinks 44 = .ok (.ifCond .eq 20, 3) := by decide +kernel
theorem dX12_sinks_47 : decode cX12_sinks 47 = .ok (.aload_n 0, 1) := by decide +kernel
theorem dX12_sinks_48 : decode cX12_sinks 48 = .ok (.iload_n 3, 1) := by decide +kernel
theorem dX12_sinks_49 : decode cX12_sinks 49 = .ok (.aload_n 0, 1) := by decide +kernel
theorem dX12_sinks_50 : decode cX12_sinks 50 = .ok (.getfield 190, 3) := by decide +kernel
theorem dX12_sinks_53 : decode cX12_sinks 53 = .ok (.invokevirtual 307, 3) := by decide +kernel
theorem dX12_sinks_56 : decode cX12_sinks 56 = .ok (.iconst 2, 1) := by decide +kernel
theorem dX12_sinks_57 : decode cX12_sinks 57 = .ok (.if_icmp .ne 7, 3) := by decide +kernel
theorem dX12_sinks_60 : decode cX12_sinks 60 = .ok (.iconst 1, 1) := by decide +kernel
theorem dX12_sinks_61 : decode cX12_sinks 61 = .ok (.goto 4, 3) := by decide +kernel
theorem dX12_sinks_64 : decode cX12_sinks 64 = .ok (.iconst 0, 1) := by decide +kernel
theorem dX12_sinks_65 : decode cX12_sinks 65 = .ok (.istore_n 2, 1) := by decide +kernel
theorem dX12_sinks_66 : decode cX12_sinks 66 = .ok (.iinc 3 1, 3) := by decide +kernel
theorem dX12_sinks_69 : decode cX12_sinks 69 = .ok (.goto (-65), 3) := by decide +kernel
theorem dX12_sinks_72 : decode cX12_sinks 72 = .ok (.iload_n 2, 1) := by decide +kernel
theorem dX12_sinks_73 : decode cX12_sinks 73 = .ok (.ireturn, 1) := by decide +kernel
theorem dX12_sinking_0 : decode cX12_sinking 0 = .ok (.iload_n 1, 1) := by decide +kernel
theorem dX12_sinking_1 : decode cX12_sinking 1 = .ok (.iconst 0, 1) := by decide +kernel
theorem dX12_sinking_2 : decode cX12_sinking 2 = .ok (.bipush 7, 2) := by decide +kernel
theorem dX12_sinking_4 : decode cX12_sinking 4 = .ok (.invokestatic 177, 3) := by decide +kernel
theorem dX12_sinking_7 : decode cX12_sinking 7 = .ok (.ifCond .eq 12, 3) := by decide +kernel
theorem dX12_sinking_10 : decode cX12_sinking 10 = .ok (.iload_n 2, 1) := by decide +kernel
theorem dX12_sinking_11 : decode cX12_sinking 11 = .ok (.iconst 0, 1) := by decide +kernel
theorem dX12_sinking_12 : decode cX12_sinking 12 = .ok (.iconst 2, 1) := by decide +kernel
theorem dX12_sinking_13 : decode cX12_sinking 13 = .ok (.invokestatic 177, 3) := by decide +kernel
theorem dX12_sinking_16 : decode cX12_sinking 16 = .ok (.ifCond .ne 5, 3) := by decide +kernel
theorem dX12_sinking_19 : decode cX12_sinking 19 = .ok (.iconst (-1), 1) := by decide +kernel
theorem dX12_sinking_20 : decode cX12_sinking 20 = .ok (.ireturn, 1) := by decide +kernel
theorem dX12_sinking_21 : decode cX12_sinking 21 = .ok (.iconst 0, 1) := by decide +kernel
theorem dX12_sinking_22 : decode cX12_sinking 22 = .ok (.istore_n 3, 1) := by decide +kernel
theorem dX12_sinking_23 : decode cX12_sinking 23 = .ok (.iconst (-1), 1) := by decide +kernel
theorem dX12_sinking_24 : decode cX12_sinking 24 = .ok (.istore 4, 2) := by decide +kernel
theorem dX12_sinking_26 : decode cX12_sinking 26 = .ok (.iconst (-1), 1) := by decide +kernel
theorem dX12_sinking_27 : decode cX12_sinking 27 = .ok (.istore 5, 2) := by decide +kernel
theorem dX12_sinking_29 : decode cX12_sinking 29 = .ok (.iconst 0, 1) := by decide +kernel
theorem dX12_sinking_30 : decode cX12_sinking 30 = .ok (.istore 6, 2) := by decide +kernel
theorem dX12_sinking_32 : decode cX12_sinking 32 = .ok (.iload 6, 2) := by decide +kernel
theorem dX12_sinking_34 : decode cX12_sinking 34 = .ok (.aload_n 0, 1) := by decide +kernel
theorem dX12_sinking_35 : decode cX12_sinking 35 = .ok (.getfield 181, 3) := by decide +kernel
theorem dX12_sinking_38 : decode cX12_sinking 38 = .ok (.if_icmp .ge 89, 3) := by decide +kernel
theorem dX12_sinking_41 : decode cX12_sinking 41 = .ok (.aload_n 0, 1) := by decide +kernel
theorem dX12_sinking_42 : decode cX12_sinking 42 = .ok (.getfield 9, 3) := by decide +kernel
theorem dX12_sinking_45 : decode cX12_sinking 45 = .ok (.iload 6, 2) := by decide +kernel
theorem dX12_sinking_47 : decode cX12_sinking 47 = .ok (.iaload, 1) := by decide +kernel
theorem dX12_sinking_48 : decode cX12_sinking 48 = .ok (.iload_n 1, 1) := by decide +kernel
theorem dX12_sinking_49 : decode cX12_sinking 49 = .ok (.if_icmp .ne 72, 3) := by decide +kernel
theorem dX12_sinking_52 : decode cX12_sinking 52 = .ok (.aload_n 0, 1) := by decide +kernel
theorem dX12_sinking_53 : decode cX12_sinking 53 = .ok (.iload 6, 2) := by decide +kernel
theorem dX12_sinking_55 : decode cX12_sinking 55 = .ok (.invokevirtual 310, 3) := by decide +kernel
theorem dX12_sinking_58 : decode cX12_sinking 58 = .ok (.ifCond .eq 63, 3) := by decide +kernel
theorem dX12_sinking_61 : decode cX12_sinking 61 = .ok (.iinc 3 1, 3) := by decide +kernel
theorem dX12_sinking_64 : decode cX12_sinking 64 = .ok (.iload 4, 2) := by decide +kernel
theorem dX12_sinking_66 : decode cX12_sinking 66 = .ok (.ifCond .lt 15, 3) := by decide +kernel
theorem dX12_sinking_69 : decode cX12_sinking 69 = .ok (.aload_n 0, 1) := by decide +kernel
theorem dX12_sinking_70 : decode cX12_sinking 70 = .ok (.getfield 13, 3) := by decide +kernel
theorem dX12_sinking_73 : decode cX12_sinking 73 = .ok (.iload 6, 2) := by decide +kernel
theorem dX12_sinking_75 : decode cX12_sinking 75 = .ok (.iaload, 1) := by decide +kernel
theorem dX12_sinking_76 : decode cX12_sinking 76 = .ok (.iload 4, 2) := by decide +kernel
theorem dX12_sinking_78 : decode cX12_sinking 78 = .ok (.if_icmp .ge 13, 3) := by decide +kernel
theorem dX12_sinking_81 : decode cX12_sinking 81 = .ok (.aload_n 0, 1) := by decide +kernel
theorem dX12_sinking_82 : decode cX12_sinking 82 = .ok (.getfield 13, 3) := by decide +kernel
theorem dX12_sinking_85 : decode cX12_sinking 85 = .ok (.iload 6, 2) := by decide +kernel
theorem dX12_sinking_87 : decode cX12_sinking 87 = .ok (.iaload, 1) := by decide +kernel
theorem dX12_sinking_88 : decode cX12_sinking 88 = .ok (.goto 5, 3) := by decide +kernel
theorem dX12_sinking_91 : decode cX12_sinking 91 = .ok (.iload 4, 2) := by decide +kernel
theorem dX12_sinking_93 : decode cX12_sinking 93 = .ok (.istore 4, 2) := by decide +kernel
theorem dX12_sinking_95 : decode cX12_sinking 95 = .ok (.aload_n 0, 1) := by decide +kernel
theorem dX12_sinking_96 : decode cX12_sinking 96 = .ok (.getfield 13, 3) := by decide +kernel
theorem dX12_sinking_99 : decode cX12_sinking 99 = .ok (.iload 6, 2) := by decide +kernel
theorem dX12_sinking_101 : decode cX12_sinking 101 = .ok (.iaload, 1) := by decide +kernel
theorem dX12_sinking_102 : decode cX12_sinking 102 = .ok (.iload 5, 2) := by decide +kernel
theorem dX12_sinking_104 : decode cX12_sinking 104 = .ok (.if_icmp .le 13, 3) := by decide +kernel
theorem dX12_sinking_107 : decode cX12_sinking 107 = .ok (.aload_n 0, 1) := by decide +kernel
theorem dX12_sinking_108 : decode cX12_sinking 108 = .ok (.getfield 13, 3) := by decide +kernel
theorem dX12_sinking_111 : decode cX12_sinking 111 = .ok (.iload 6, 2) := by decide +kernel
theorem dX12_sinking_113 : decode cX12_sinking 113 = .ok (.iaload, 1) := by decide +kernel
theorem dX12_sinking_114 : decode cX12_sinking 114 = .ok (.goto 5, 3) := by decide +kernel
theorem dX12_sinking_117 : decode cX12_sinking 117 = .ok (.iload 5, 2) := by decide +kernel
theorem dX12_sinking_119 : decode cX12_sinking 119 = .ok (.istore 5, 2) := by decide +kernel
theorem dX12_sinking_121 : decode cX12_sinking 121 = .ok (.iinc 6 1, 3) := by decide +kernel
theorem dX12_sinking_124 : decode cX12_sinking 124 = .ok (.goto (-92), 3) := by decide +kernel
theorem dX12_sinking_127 : decode cX12_sinking 127 = .ok (.iload_n 2, 1) := by decide +kernel
theorem dX12_sinking_128 : decode cX12_sinking 128 = .ok (.ifCond .ne 7, 3) := by decide +kernel
theorem dX12_sinking_131 : decode cX12_sinking 131 = .ok (.iload_n 3, 1) := by decide +kernel
theorem dX12_sinking_132 : decode cX12_sinking 132 = .ok (.goto 15, 3) := by decide +kernel
theorem dX12_sinking_135 : decode cX12_sinking 135 = .ok (.iload_n 2, 1) := by decide +kernel
theorem dX12_sinking_136 : decode cX12_sinking 136 = .ok (.iconst 1, 1) := by decide +kernel
theorem dX12_sinking_137 : decode cX12_sinking 137 = .ok (.if_icmp .ne 8, 3) := by decide +kernel
theorem dX12_sinking_140 : decode cX12_sinking 140 = .ok (.iload 4, 2) := by decide +kernel
theorem dX12_sinking_142 : decode cX12_sinking 142 = .ok (.goto 5, 3) := by decide +kernel
theorem dX12_sinking_145 : decode cX12_sinking 145 = .ok (.iload 5, 2) := by decide +kernel
theorem dX12_sinking_147 : decode cX12_sinking 147 = .ok (.ireturn, 1) := by decide +kernel
theorem dX12_men_0 : decode cX12_men 0 = .ok (.iload_n 1, 1) := by decide +kernel
theorem dX12_men_1 : decode cX12_men 1 = .ok (.invokestatic 198, 3) := by decide +kernel
theorem dX12_men_4 : decode cX12_men 4 = .ok (.ifCond .eq 13, 3) := by decide +kernel
theorem dX12_men_7 : decode cX12_men 7 = .ok (.iload_n 2, 1) := by decide +kernel
theorem dX12_men_8 : decode cX12_men 8 = .ok (.iconst 0, 1) := by decide +kernel
theorem dX12_men_9 : decode cX12_men 9 = .ok (.bipush 9, 2) := by decide +kernel
theorem dX12_men_11 : decode cX12_men 11 = .ok (.invokestatic 177, 3) := by decide +kernel
theorem dX12_men_14 : decode cX12_men 14 = .ok (.ifCond .ne 5, 3) := by decide +kernel
theorem dX12_men_17 : decode cX12_men 17 = .ok (.iconst (-1), 1) := by decide +kernel
theorem dX12_men_18 : decode cX12_men 18 = .ok (.ireturn, 1) := by decide +kernel
theorem dX12_men_19 : decode cX12_men 19 = .ok (.aload_n 0, 1) := by decide +kernel
theorem dX12_men_20 : decode cX12_men 20 = .ok (.getfield 135, 3) := by decide +kernel
theorem dX12_men_23 : decode cX12_men 23 = .ok (.iload_n 1, 1) := by decide +kernel
theorem dX12_men_24 : decode cX12_men 24 = .ok (.iaload, 1) := by decide +kernel
theorem dX12_men_25 : decode cX12_men 25 = .ok (.istore_n 3, 1) := by decide +kernel
theorem dX12_men_26 : decode cX12_men 26 = .ok (.aload_n 0, 1) := by decide +kernel
theorem dX12_men_27 : decode cX12_men 27 = .ok (.getfield 135, 3) := by decide +kernel
theorem dX12_men_30 : decode cX12_men 30 = .ok (.iload_n 1, 1) := by decide +kernel
theorem dX12_men_31 : decode cX12_men 31 = .ok (.iload_n 2, 1) := by decide +kernel
theorem dX12_men_32 : decode cX12_men 32 = .ok (.iastore, 1) := by decide +kernel
theorem dX12_men_33 : decode cX12_men 33 = .ok (.iload_n 3, 1) := by decide +kernel
theorem dX12_men_34 : decode cX12_men 34 = .ok (.ireturn, 1) := by decide +kernel
theorem dX12_job_0 : decode cX12_job 0 = .ok (.aload_n 0, 1) := by decide +kernel
theorem dX12_job_1 : decode cX12_job 1 = .ok (.iload_n 1, 1) := by decide +kernel
theorem dX12_job_2 : decode cX12_job 2 = .ok (.invokevirtual 233, 3) := by decide +kernel
theorem dX12_job_5 : decode cX12_job 5 = .ok (.ifCond .ne 5, 3) := by decide +kernel
theorem dX12_job_8 : decode cX12_job 8 = .ok (.iconst (-1), 1) := by decide +kernel
theorem dX12_job_9 : decode cX12_job 9 = .ok (.ireturn, 1) := by decide +kernel
theorem dX12_job_10 : decode cX12_job 10 = .ok (.aload_n 0, 1) := by decide +kernel
theorem dX12_job_11 : decode cX12_job 11 = .ok (.iload_n 1, 1) := by decide +kernel
theorem dX12_job_12 : decode cX12_job 12 = .ok (.invokevirtual 226, 3) := by decide +kernel
theorem dX12_job_15 : decode cX12_job 15 = .ok (.iconst 1, 1) := by decide +kernel
theorem dX12_job_16 : decode cX12_job 16 = .ok (.if_icmp .eq 7, 3) := by decide +kernel
theorem dX12_job_19 : decode cX12_job 19 = .ok (.iconst 1, 1) := by decide +kernel
theorem dX12_job_20 : decode cX12_job 20 = .ok (.goto 4, 3) := by decide +kernel
theorem dX12_job_23 : decode cX12_job 23 = .ok (.iconst 0, 1) := by decide +kernel
theorem dX12_job_24 : decode cX12_job 24 = .ok (.istore_n 2, 1) := by decide +kernel
theorem dX12_job_25 : decode cX12_job 25 = .ok (.iconst 0, 1) := by decide +kernel
theorem dX12_job_26 : decode cX12_job 26 = .ok (.istore_n 3, 1) := by decide +kernel
theorem dX12_job_27 : decode cX12_job 27 = .ok (.iload_n 3, 1) := by decide +kernel
theorem dX12_job_28 : decode cX12_job 28 = .ok (.aload_n 0, 1) := by decide +kernel
theorem dX12_job_29 : decode cX12_job 29 = .ok (.getfield 313, 3) := by decide +kernel
theorem dX12_job_32 : decode cX12_job 32 = .ok (.if_icmp .ge 29, 3) := by decide +kernel
theorem dX12_job_35 : decode cX12_job 35 = .ok (.iload_n 2, 1) := by decide +kernel
theorem dX12_job_36 : decode cX12_job 36 = .ok (.ifCond .ne 13, 3) := by decide +kernel
theorem dX12_job_39 : decode cX12_job 39 = .ok (.aload_n 0, 1) := by decide +kernel
theorem dX12_job_40 : decode cX12_job 40 = .ok (.getfield 138, 3) := by decide +kernel
theorem dX12_job_43 : decode cX12_job 43 = .ok (.iload_n 3, 1) := by decide +kernel
theorem dX12_job_44 : decode cX12_job 44 = .ok (.iaload, 1) := by decide +kernel
theorem dX12_job_45 : decode cX12_job 45 = .ok (.iload_n 1, 1) := by decide +kernel
theorem dX12_job_46 : decode cX12_job 46 = .ok (.if_icmp .ne 7, 3) := by decide +kernel
theorem dX12_job_49 : decode cX12_job 49 = .ok (.iconst 1, 1) := by decide +kernel
theorem dX12_job_50 : decode cX12_job 50 = .ok (.goto 4, 3) := by decide +kernel
theorem dX12_job_53 : decode cX12_job 53 = .ok (.iconst 0, 1) := by decide +kernel
theorem dX12_job_54 : decode cX12_job 54 = .ok (.istore_n 2, 1) := by decide +kernel
theorem dX12_job_55 : decode cX12_job 55 = .ok (.iinc 3 1, 3) := by decide +kernel
theorem dX12_job_58 : decode cX12_job 58 = .ok (.goto (-31), 3) := by decide +kernel
theorem dX12_job_61 : decode cX12_job 61 = .ok (.iload_n 2, 1) := by decide +kernel
theorem dX12_job_62 : decode cX12_job 62 = .ok (.ifCond .eq 6, 3) := by decide +kernel
theorem dX12_job_65 : decode cX12_job 65 = .ok (.bipush (-3), 2) := by decide +kernel
theorem dX12_job_67 : decode cX12_job 67 = .ok (.ireturn, 1) := by decide +kernel
theorem dX12_job_68 : decode cX12_job 68 = .ok (.aload_n 0, 1) := by decide +kernel
theorem dX12_job_69 : decode cX12_job 69 = .ok (.getfield 313, 3) := by decide +kernel
theorem dX12_job_72 : decode cX12_job 72 = .ok (.bipush 7, 2) := by decide +kernel
theorem dX12_job_74 : decode cX12_job 74 = .ok (.if_icmp .ne 6, 3) := by decide +kernel
theorem dX12_job_77 : decode cX12_job 77 = .ok (.bipush (-2), 2) := by decide +kernel
