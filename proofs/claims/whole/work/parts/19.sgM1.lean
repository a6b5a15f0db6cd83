-- the law, its loop (1)
theorem dd_121_282 : decode (am_b 121) 282 = .ok (.iconst 0, 1) := by decide +kernel
theorem dd_121_283 : decode (am_b 121) 283 = .ok (.ireturn, 1) := by decide +kernel
theorem dd_121_284 : decode (am_b 121) 284 = .ok (.iload 5, 2) := by decide +kernel
theorem dd_121_286 : decode (am_b 121) 286 = .ok (.ifCond .ne 15, 3) := by decide +kernel
theorem dd_121_289 : decode (am_b 121) 289 = .ok (.aload_n 3, 1) := by decide +kernel
theorem dd_121_290 : decode (am_b 121) 290 = .ok (.iconst 0, 1) := by decide +kernel
theorem dd_121_291 : decode (am_b 121) 291 = .ok (.laload, 1) := by decide +kernel
theorem dd_121_292 : decode (am_b 121) 292 = .ok (.iload 6, 2) := by decide +kernel
theorem dd_121_294 : decode (am_b 121) 294 = .ok (.i2l, 1) := by decide +kernel
theorem dd_121_295 : decode (am_b 121) 295 = .ok (.lcmp, 1) := by decide +kernel
theorem dd_121_296 : decode (am_b 121) 296 = .ok (.ifCond .eq 5, 3) := by decide +kernel
theorem dd_121_299 : decode (am_b 121) 299 = .ok (.iconst 0, 1) := by decide +kernel
theorem dd_121_300 : decode (am_b 121) 300 = .ok (.ireturn, 1) := by decide +kernel
theorem dd_121_301 : decode (am_b 121) 301 = .ok (.goto 859, 3) := by decide +kernel
theorem dd_121_304 : decode (am_b 121) 304 = .ok (.aload_n 1, 1) := by decide +kernel
theorem dd_121_305 : decode (am_b 121) 305 = .ok (.aload_n 0, 1) := by decide +kernel
theorem dd_121_306 : decode (am_b 121) 306 = .ok (.iload 4, 2) := by decide +kernel
theorem dd_121_308 : decode (am_b 121) 308 = .ok (.iconst 1, 1) := by decide +kernel
theorem dd_121_309 : decode (am_b 121) 309 = .ok (.iadd, 1) := by decide +kernel
theorem dd_121_310 : decode (am_b 121) 310 = .ok (.iaload, 1) := by decide +kernel
theorem dd_121_311 : decode (am_b 121) 311 = .ok (.aload_n 0, 1) := by decide +kernel
theorem dd_121_312 : decode (am_b 121) 312 = .ok (.iload 4, 2) := by decide +kernel
theorem dd_121_314 : decode (am_b 121) 314 = .ok (.iconst 2, 1) := by decide +kernel
theorem dd_121_315 : decode (am_b 121) 315 = .ok (.iadd, 1) := by decide +kernel
theorem dd_121_316 : decode (am_b 121) 316 = .ok (.iaload, 1) := by decide +kernel
theorem dd_121_317 : decode (am_b 121) 317 = .ok (.invokestatic 83, 3) := by decide +kernel
theorem dd_121_320 : decode (am_b 121) 320 = .ok (.istore 5, 2) := by decide +kernel
theorem dd_121_322 : decode (am_b 121) 322 = .ok (.aload_n 2, 1) := by decide +kernel
theorem dd_121_323 : decode (am_b 121) 323 = .ok (.aload_n 0, 1) := by decide +kernel
theorem dd_121_324 : decode (am_b 121) 324 = .ok (.iload 4, 2) := by decide +kernel
theorem dd_121_326 : decode (am_b 121) 326 = .ok (.iconst 1, 1) := by decide +kernel
theorem dd_121_327 : decode (am_b 121) 327 = .ok (.iadd, 1) := by decide +kernel
theorem dd_121_328 : decode (am_b 121) 328 = .ok (.iaload, 1) := by decide +kernel
theorem dd_121_329 : decode (am_b 121) 329 = .ok (.aload_n 0, 1) := by decide +kernel
theorem dd_121_330 : decode (am_b 121) 330 = .ok (.iload 4, 2) := by decide +kernel
theorem dd_121_332 : decode (am_b 121) 332 = .ok (.iconst 2, 1) := by decide +kernel
theorem dd_121_333 : decode (am_b 121) 333 = .ok (.iadd, 1) := by decide +kernel
theorem dd_121_334 : decode (am_b 121) 334 = .ok (.iaload, 1) := by decide +kernel
theorem dd_121_335 : decode (am_b 121) 335 = .ok (.invokevirtual 86, 3) := by decide +kernel
theorem dd_121_338 : decode (am_b 121) 338 = .ok (.aload_n 2, 1) := by decide +kernel
theorem dd_121_339 : decode (am_b 121) 339 = .ok (.invokevirtual 75, 3) := by decide +kernel
theorem dd_121_342 : decode (am_b 121) 342 = .ok (.iload 5, 2) := by decide +kernel
theorem dd_121_344 : decode (am_b 121) 344 = .ok (.if_icmp .eq 5, 3) := by decide +kernel
theorem dd_121_347 : decode (am_b 121) 347 = .ok (.iconst 0, 1) := by decide +kernel
theorem dd_121_348 : decode (am_b 121) 348 = .ok (.ireturn, 1) := by decide +kernel
theorem dd_121_349 : decode (am_b 121) 349 = .ok (.goto 811, 3) := by decide +kernel
theorem dd_121_352 : decode (am_b 121) 352 = .ok (.aload_n 1, 1) := by decide +kernel
theorem dd_121_353 : decode (am_b 121) 353 = .ok (.aload_n 0, 1) := by decide +kernel
theorem dd_121_354 : decode (am_b 121) 354 = .ok (.iload 4, 2) := by decide +kernel
theorem dd_121_356 : decode (am_b 121) 356 = .ok (.iconst 1, 1) := by decide +kernel
theorem dd_121_357 : decode (am_b 121) 357 = .ok (.iadd, 1) := by decide +kernel
theorem dd_121_358 : decode (am_b 121) 358 = .ok (.iaload, 1) := by decide +kernel
theorem dd_121_359 : decode (am_b 121) 359 = .ok (.aload_n 0, 1) := by decide +kernel
theorem dd_121_360 : decode (am_b 121) 360 = .ok (.iload 4, 2) := by decide +kernel
theorem dd_121_362 : decode (am_b 121) 362 = .ok (.iconst 2, 1) := by decide +kernel
theorem dd_121_363 : decode (am_b 121) 363 = .ok (.iadd, 1) := by decide +kernel
theorem dd_121_364 : decode (am_b 121) 364 = .ok (.iaload, 1) := by decide +kernel
theorem dd_121_365 : decode (am_b 121) 365 = .ok (.aload_n 0, 1) := by decide +kernel
theorem dd_121_366 : decode (am_b 121) 366 = .ok (.iload 4, 2) := by decide +kernel
theorem dd_121_368 : decode (am_b 121) 368 = .ok (.iconst 3, 1) := by decide +kernel
theorem dd_121_369 : decode (am_b 121) 369 = .ok (.iadd, 1) := by decide +kernel
theorem dd_121_370 : decode (am_b 121) 370 = .ok (.iaload, 1) := by decide +kernel
theorem dd_121_371 : decode (am_b 121) 371 = .ok (.aload_n 0, 1) := by decide +kernel
theorem dd_121_372 : decode (am_b 121) 372 = .ok (.iload 4, 2) := by decide +kernel
theorem dd_121_374 : decode (am_b 121) 374 = .ok (.iconst 4, 1) := by decide +kernel
theorem dd_121_375 : decode (am_b 121) 375 = .ok (.iadd, 1) := by decide +kernel
theorem dd_121_376 : decode (am_b 121) 376 = .ok (.iaload, 1) := by decide +kernel
theorem dd_121_377 : decode (am_b 121) 377 = .ok (.invokestatic 87, 3) := by decide +kernel
theorem dd_121_380 : decode (am_b 121) 380 = .ok (.istore 5, 2) := by decide +kernel
theorem dd_121_382 : decode (am_b 121) 382 = .ok (.aload_n 2, 1) := by decide +kernel
theorem dd_121_383 : decode (am_b 121) 383 = .ok (.aload_n 0, 1) := by decide +kernel
theorem dd_121_384 : decode (am_b 121) 384 = .ok (.iload 4, 2) := by decide +kernel
theorem dd_121_386 : decode (am_b 121) 386 = .ok (.iconst 1, 1) := by decide +kernel
theorem dd_121_387 : decode (am_b 121) 387 = .ok (.iadd, 1) := by decide +kernel
theorem dd_121_388 : decode (am_b 121) 388 = .ok (.iaload, 1) := by decide +kernel
theorem dd_121_389 : decode (am_b 121) 389 = .ok (.aload_n 0, 1) := by decide +kernel
theorem dd_121_390 : decode (am_b 121) 390 = .ok (.iload 4, 2) := by decide +kernel
theorem dd_121_392 : decode (am_b 121) 392 = .ok (.iconst 2, 1) := by decide +kernel
theorem dd_121_393 : decode (am_b 121) 393 = .ok (.iadd, 1) := by decide +kernel
theorem dd_121_394 : decode (am_b 121) 394 = .ok (.iaload, 1) := by decide +kernel
theorem dd_121_395 : decode (am_b 121) 395 = .ok (.aload_n 0, 1) := by decide +kernel
theorem dd_121_396 : decode (am_b 121) 396 = .ok (.iload 4, 2) := by decide +kernel
theorem dd_121_398 : decode (am_b 121) 398 = .ok (.iconst 3, 1) := by decide +kernel
theorem dd_121_399 : decode (am_b 121) 399 = .ok (.iadd, 1) := by decide +kernel
theorem dd_121_400 : decode (am_b 121) 400 = .ok (.iaload, 1) := by decide +kernel
theorem dd_121_401 : decode (am_b 121) 401 = .ok (.aload_n 0, 1) := by decide +kernel
theorem dd_121_402 : decode (am_b 121) 402 = .ok (.iload 4, 2) := by decide +kernel
theorem dd_121_404 : decode (am_b 121) 404 = .ok (.iconst 4, 1) := by decide +kernel
theorem dd_121_405 : decode (am_b 121) 405 = .ok (.iadd, 1) := by decide +kernel
theorem dd_121_406 : decode (am_b 121) 406 = .ok (.iaload, 1) := by decide +kernel
theorem dd_121_407 : decode (am_b 121) 407 = .ok (.invokevirtual 90, 3) := by decide +kernel
theorem dd_121_410 : decode (am_b 121) 410 = .ok (.aload_n 2, 1) := by decide +kernel
theorem dd_121_411 : decode (am_b 121) 411 = .ok (.invokevirtual 75, 3) := by decide +kernel
theorem dd_121_414 : decode (am_b 121) 414 = .ok (.iload 5, 2) := by decide +kernel
theorem dd_121_416 : decode (am_b 121) 416 = .ok (.if_icmp .eq 5, 3) := by decide +kernel
theorem dd_121_419 : decode (am_b 121) 419 = .ok (.iconst 0, 1) := by decide +kernel
theorem dd_121_420 : decode (am_b 121) 420 = .ok (.ireturn, 1) := by decide +kernel
theorem dd_121_421 : decode (am_b 121) 421 = .ok (.goto 739, 3) := by decide +kernel
theorem dd_121_424 : decode (am_b 121) 424 = .ok (.aload_n 1, 1) := by decide +kernel
theorem dd_121_425 : decode (am_b 121) 425 = .ok (.aload_n 0, 1) := by decide +kernel
theorem dd_121_426 : decode (am_b 121) 426 = .ok (.iload 4, 2) := by decide +kernel
theorem dd_121_428 : decode (am_b 121) 428 = .ok (.iconst 1, 1) := by decide +kernel
theorem dd_121_429 : decode (am_b 121) 429 = .ok (.iadd, 1) := by decide +kernel
theorem dd_121_430 : decode (am_b 121) 430 = .ok (.iaload, 1) := by decide +kernel
theorem dd_121_431 : decode (am_b 121) 431 = .ok (.aload_n 0, 1) := by decide +kernel
theorem dd_121_432 : decode (am_b 121) 432 = .ok (.iload 4, 2) := by decide +kernel
theorem dd_121_434 : decode (am_b 121) 434 = .ok (.iconst 2, 1) := by decide +kernel
theorem dd_121_435 : decode (am_b 121) 435 = .ok (.iadd, 1) := by decide +kernel
theorem dd_121_436 : decode (am_b 121) 436 = .ok (.iaload, 1) := by decide +kernel
theorem dd_121_437 : decode (am_b 121) 437 = .ok (.aload_n 0, 1) := by decide +kernel
theorem dd_121_438 : decode (am_b 121) 438 = .ok (.iload 4, 2) := by decide +kernel
theorem dd_121_440 : decode (am_b 121) 440 = .ok (.iconst 3, 1) := by decide +kernel
theorem dd_121_441 : decode (am_b 121) 441 = .ok (.iadd, 1) := by decide +kernel
theorem dd_121_442 : decode (am_b 121) 442 = .ok (.iaload, 1) := by decide +kernel
theorem dd_121_443 : decode (am_b 121) 443 = .ok (.aload_n 3, 1) := by decide +kernel
theorem dd_121_444 : decode (am_b 121) 444 = .ok (.invokestatic 91, 3) := by decide +kernel
theorem dd_121_447 : decode (am_b 121) 447 = .ok (.istore 5, 2) := by decide +kernel
theorem dd_121_449 : decode (am_b 121) 449 = .ok (.aload_n 2, 1) := by decide +kernel
theorem dd_121_450 : decode (am_b 121) 450 = .ok (.aload_n 0, 1) := by decide +kernel
theorem dd_121_451 : decode (am_b 121) 451 = .ok (.iload 4, 2) := by decide +kernel
theorem dd_121_453 : decode (am_b 121) 453 = .ok (.iconst 1, 1) := by decide +kernel
theorem dd_121_454 : decode (am_b 121) 454 = .ok (.iadd, 1) := by decide +kernel
theorem dd_121_455 : decode (am_b 121) 455 = .ok (.iaload, 1) := by decide +kernel
theorem dd_121_456 : decode (am_b 121) 456 = .ok (.aload_n 0, 1) := by decide +kernel
theorem dd_121_457 : decode (am_b 121) 457 = .ok (.iload 4, 2) := by decide +kernel
theorem dd_121_459 : decode (am_b 121) 459 = .ok (.iconst 2, 1) := by decide +kernel
theorem dd_121_460 : decode (am_b 121) 460 = .ok (.iadd, 1) := by decide +kernel
theorem dd_121_461 : decode (am_b 121) 461 = .ok (.iaload, 1) := by decide +kernel
theorem dd_121_462 : decode (am_b 121) 462 = .ok (.aload_n 0, 1) := by decide +kernel
theorem dd_121_463 : decode (am_b 121) 463 = .ok (.iload 4, 2) := by decide +kernel
theorem dd_121_465 : decode (am_b 121) 465 = .ok (.iconst 3, 1) := by decide +kernel
theorem dd_121_466 : decode (am_b 121) 466 = .ok (.iadd, 1) := by decide +kernel
theorem dd_121_467 : decode (am_b 121) 467 = .ok (.iaload, 1) := by decide +kernel
theorem dd_121_468 : decode (am_b 121) 468 = .ok (.invokevirtual 94, 3) := by decide +kernel
theorem dd_121_471 : decode (am_b 121) 471 = .ok (.istore 6, 2) := by decide +kernel
theorem dd_121_473 : decode (am_b 121) 473 = .ok (.aload_n 2, 1) := by decide +kernel
theorem dd_121_474 : decode (am_b 121) 474 = .ok (.invokevirtual 75, 3) := by decide +kernel
theorem dd_121_477 : decode (am_b 121) 477 = .ok (.iload 5, 2) := by decide +kernel
theorem dd_121_479 : decode (am_b 121) 479 = .ok (.if_icmp .eq 5, 3) := by decide +kernel
theorem sg_121_282 {sh : am_Sh} {C : Nat → am_M → List am_V → am_O → Prop} {P : am_S ⊕ am_O → Prop} {M : am_M} {x4 : Int32} {x5 : Int32} {x6 : Int32}  (k : P (Sum.inr (M, Sum.inl (some (am_I 0))))) : am_ev sh C 121 (282, [some (am_R (some (31, 0, 0))), some (am_R (some (0, 0, 0))), some (am_R (some (20, 0, 0))), some (am_R (some (30, 0, 0))), some (am_I x4), some (am_I x5), some (am_I x6)], [], M, 1) P := by
  refine am_e_iconst (v := 0) dd_121_282 rfl rfl ?_
  exact am_e_iret dd_121_283 (by decide +kernel) (Or.inr ⟨rfl, Or.inl rfl⟩) k

theorem sg_121_284 {sh : am_Sh} {C : Nat → am_M → List am_V → am_O → Prop} {P : am_S ⊕ am_O → Prop} {M : am_M} {x4 : Int32} {x5 : Int32} {x6 : Int32}  (k1 : ¬ x5 = 0 → am_ev sh C 121 (301, [some (am_R (some (31, 0, 0))), some (am_R (some (0, 0, 0))), some (am_R (some (20, 0, 0))), some (am_R (some (30, 0, 0))), some (am_I x4), some (am_I x5), some (am_I x6)], [], M, 1) P) (k2 : x5 = 0 → am_ev sh C 121 (289, [some (am_R (some (31, 0, 0))), some (am_R (some (0, 0, 0))), some (am_R (some (20, 0, 0))), some (am_R (some (30, 0, 0))), some (am_I x4), some (am_I x5), some (am_I x6)], [], M, 1) P) : am_ev sh C 121 (284, [some (am_R (some (31, 0, 0))), some (am_R (some (0, 0, 0))), some (am_R (some (20, 0, 0))), some (am_R (some (30, 0, 0))), some (am_I x4), some (am_I x5), some (am_I x6)], [], M, 1) P := by
  refine am_e_iload dd_121_284 rfl rfl ?_
  exact am_a_if_ne (tgt := 301) (pc' := 289) dd_121_286 rfl rfl k1 k2

theorem sg_121_289 {sh : am_Sh} {C : Nat → am_M → List am_V → am_O → Prop} {P : am_S ⊕ am_O → Prop} {M : am_M} {x4 : Int32} {x5 : Int32} {x6 : Int32}  (k1 : (lg_cmp (M (30, 0, 0) 0).toInt64 (x6).toInt64) = 0 → am_ev sh C 121 (301, [some (am_R (some (31, 0, 0))), some (am_R (some (0, 0, 0))), some (am_R (some (20, 0, 0))), some (am_R (some (30, 0, 0))), some (am_I x4), some (am_I x5), some (am_I x6)], [], M, 1) P) (k2 : ¬ (lg_cmp (M (30, 0, 0) 0).toInt64 (x6).toInt64) = 0 → am_ev sh C 121 (299, [some (am_R (some (31, 0, 0))), some (am_R (some (0, 0, 0))), some (am_R (some (20, 0, 0))), some (am_R (some (30, 0, 0))), some (am_I x4), some (am_I x5), some (am_I x6)], [], M, 1) P) : am_ev sh C 121 (289, [some (am_R (some (31, 0, 0))), some (am_R (some (0, 0, 0))), some (am_R (some (20, 0, 0))), some (am_R (some (30, 0, 0))), some (am_I x4), some (am_I x5), some (am_I x6)], [], M, 1) P := by
  refine am_e_aload_n dd_121_289 rfl rfl ?_
  refine am_e_iconst (v := 0) dd_121_290 rfl rfl ?_
  refine am_a_lald dd_121_291 rfl rfl (by decide) (by decide) rfl ?_
  refine am_e_iload dd_121_292 rfl rfl ?_
  refine am_e_i2l dd_121_294 rfl ?_
  refine am_e_lcmp dd_121_295 rfl ?_
  exact am_a_if_eq (tgt := 301) (pc' := 299) dd_121_296 rfl rfl k1 k2

theorem sg_121_299 {sh : am_Sh} {C : Nat → am_M → List am_V → am_O → Prop} {P : am_S ⊕ am_O → Prop} {M : am_M} {x4 : Int32} {x5 : Int32} {x6 : Int32}  (k : P (Sum.inr (M, Sum.inl (some (am_I 0))))) : am_ev sh C 121 (299, [some (am_R (some (31, 0, 0))), some (am_R (some (0, 0, 0))), some (am_R (some (20, 0, 0))), some (am_R (some (30, 0, 0))), some (am_I x4), some (am_I x5), some (am_I x6)], [], M, 1) P := by
  refine am_e_iconst (v := 0) dd_121_299 rfl rfl ?_
  exact am_e_iret dd_121_300 (by decide +kernel) (Or.inr ⟨rfl, Or.inl rfl⟩) k

theorem sg_121_301 {sh : am_Sh} {C : Nat → am_M → List am_V → am_O → Prop} {P : am_S ⊕ am_O → Prop} {M : am_M} {x4 : Int32} {x5 : Int32} {x6 : Int32}  (k : am_ev sh C 121 (1160, [some (am_R (some (31, 0, 0))), some (am_R (some (0, 0, 0))), some (am_R (some (20, 0, 0))), some (am_R (some (30, 0, 0))), some (am_I x4), some (am_I x5), some (am_I x6)], [], M, 1) P) : am_ev sh C 121 (301, [some (am_R (some (31, 0, 0))), some (am_R (some (0, 0, 0))), some (am_R (some (20, 0, 0))), some (am_R (some (30, 0, 0))), some (am_I x4), some (am_I x5), some (am_I x6)], [], M, 1) P := by
  refine am_e_goto (pc' := 1160) dd_121_301 rfl ?_
  exact k

theorem sg_121_304 {sh : am_Sh} {C : Nat → am_M → List am_V → am_O → Prop} {P : am_S ⊕ am_O → Prop} {M : am_M} {x4 : Int32} {u5 : Option am_V} {u6 : Option am_V} {j1 : Nat} {j2 : Nat} {M1 : am_M} {r1 : Int32} {M2 : am_M} {M3 : am_M} {r2 : Int32} (hL : sh.2.2.2 < 2147483648) (hx_j1 : x4 + 1 = nI j1) (hl_j1 : j1 < sh.2.2.2) (hx_j2 : x4 + 2 = nI j2) (hl_j2 : j2 < sh.2.2.2) (hc1 : C 109 M [am_R (some (0, 0, 0)), am_I (M (31, 0, 0) j1), am_I (M (31, 0, 0) j2)] (M1, Sum.inl (some (am_I r1)))) (hc2 : C 87 M1 [am_R (some (20, 0, 0)), am_I (M1 (31, 0, 0) j1), am_I (M1 (31, 0, 0) j2)] (M2, Sum.inl none)) (hc3 : C 60 M2 [am_R (some (20, 0, 0))] (M3, Sum.inl (some (am_I r2)))) (k1 : r2 = r1 → am_ev sh C 121 (349, [some (am_R (some (31, 0, 0))), some (am_R (some (0, 0, 0))), some (am_R (some (20, 0, 0))), some (am_R (some (30, 0, 0))), some (am_I x4), some (am_I r1), u6], [], M3, 1) P) (k2 : ¬ r2 = r1 → am_ev sh C 121 (347, [some (am_R (some (31, 0, 0))), some (am_R (some (0, 0, 0))), some (am_R (some (20, 0, 0))), some (am_R (some (30, 0, 0))), some (am_I x4), some (am_I r1), u6], [], M3, 1) P) : am_ev sh C 121 (304, [some (am_R (some (31, 0, 0))), some (am_R (some (0, 0, 0))), some (am_R (some (20, 0, 0))), some (am_R (some (30, 0, 0))), some (am_I x4), u5, u6], [], M, 0) P := by
  refine am_e_aload_n dd_121_304 rfl rfl ?_
  refine am_e_aload_n dd_121_305 rfl rfl ?_
  refine am_e_iload dd_121_306 rfl rfl ?_
  refine am_e_iconst (v := 1) dd_121_308 rfl rfl ?_
  refine am_e_iadd dd_121_309 rfl ?_
  refine am_a_sald dd_121_310 rfl hx_j1 hl_j1 hL rfl ?_
  refine am_e_aload_n dd_121_311 rfl rfl ?_
  refine am_e_iload dd_121_312 rfl rfl ?_
  refine am_e_iconst (v := 2) dd_121_314 rfl rfl ?_
  refine am_e_iadd dd_121_315 rfl ?_
  refine am_a_sald dd_121_316 rfl hx_j2 hl_j2 hL rfl ?_
  refine am_e_callS (c := 109) (k := 3) (as := [am_R (some (0, 0, 0)), am_I (M (31, 0, 0) j1), am_I (M (31, 0, 0) j2)]) (S' := [am_I r1]) (v := some (am_I r1)) (M' := M1) (n' := 1) dd_121_317 (by decide +kernel) (by decide +kernel) ⟨Nat.le_of_ble_eq_true rfl, Nat.le_of_ble_eq_true rfl, by decide +kernel, (Or.inl rfl)⟩ rfl rfl (by decide +kernel) hc1 rfl ?_
  refine am_e_istore dd_121_320 (Nat.le_of_ble_eq_true rfl) rfl rfl ?_
  refine am_e_aload_n dd_121_322 rfl rfl ?_
  refine am_e_aload_n dd_121_323 rfl rfl ?_
  refine am_e_iload dd_121_324 rfl rfl ?_
  refine am_e_iconst (v := 1) dd_121_326 rfl rfl ?_
  refine am_e_iadd dd_121_327 rfl ?_
  refine am_a_sald dd_121_328 rfl hx_j1 hl_j1 hL rfl ?_
  refine am_e_aload_n dd_121_329 rfl rfl ?_
  refine am_e_iload dd_121_330 rfl rfl ?_
  refine am_e_iconst (v := 2) dd_121_332 rfl rfl ?_
  refine am_e_iadd dd_121_333 rfl ?_
  refine am_a_sald dd_121_334 rfl hx_j2 hl_j2 hL rfl ?_
  refine am_e_callV (c := 87) (k := 3) (as := [am_R (some (20, 0, 0)), am_I (M1 (31, 0, 0) j1), am_I (M1 (31, 0, 0) j2)]) (S' := []) (v := none) (M' := M2) (n' := 1) dd_121_335 (by decide +kernel) ⟨Nat.le_of_ble_eq_true rfl, Nat.le_of_ble_eq_true rfl, by decide +kernel, (Or.inr (am_rcv_of rfl))⟩ rfl rfl (by decide +kernel) hc2 rfl ?_
  refine am_e_aload_n dd_121_338 rfl rfl ?_
  refine am_e_callV (c := 60) (k := 1) (as := [am_R (some (20, 0, 0))]) (S' := [am_I r2]) (v := some (am_I r2)) (M' := M3) (n' := 1) dd_121_339 (by decide +kernel) ⟨Nat.le_of_ble_eq_true rfl, Nat.le_of_ble_eq_true rfl, by decide +kernel, (Or.inr (am_rcv_of rfl))⟩ rfl rfl (by decide +kernel) hc3 rfl ?_
  refine am_e_iload dd_121_342 rfl rfl ?_
  exact am_a_icmp_eq (tgt := 349) (pc' := 347) dd_121_344 rfl rfl k1 k2

theorem sg_121_347 {sh : am_Sh} {C : Nat → am_M → List am_V → am_O → Prop} {P : am_S ⊕ am_O → Prop} {M : am_M} {x4 : Int32} {x5 : Int32} {u6 : Option am_V}  (k : P (Sum.inr (M, Sum.inl (some (am_I 0))))) : am_ev sh C 121 (347, [some (am_R (some (31, 0, 0))), some (am_R (some (0, 0, 0))), some (am_R (some (20, 0, 0))), some (am_R (some (30, 0, 0))), some (am_I x4), some (am_I x5), u6], [], M, 1) P := by
  refine am_e_iconst (v := 0) dd_121_347 rfl rfl ?_
  exact am_e_iret dd_121_348 (by decide +kernel) (Or.inr ⟨rfl, Or.inl rfl⟩) k

theorem sg_121_349 {sh : am_Sh} {C : Nat → am_M → List am_V → am_O → Prop} {P : am_S ⊕ am_O → Prop} {M : am_M} {x4 : Int32} {x5 : Int32} {u6 : Option am_V}  (k : am_ev sh C 121 (1160, [some (am_R (some (31, 0, 0))), some (am_R (some (0, 0, 0))), some (am_R (some (20, 0, 0))), some (am_R (some (30, 0, 0))), some (am_I x4), some (am_I x5), u6], [], M, 1) P) : am_ev sh C 121 (349, [some (am_R (some (31, 0, 0))), some (am_R (some (0, 0, 0))), some (am_R (some (20, 0, 0))), some (am_R (some (30, 0, 0))), some (am_I x4), some (am_I x5), u6], [], M, 1) P := by
  refine am_e_goto (pc' := 1160) dd_121_349 rfl ?_
  exact k

theorem sg_121_352 {sh : am_Sh} {C : Nat → am_M → List am_V → am_O → Prop} {P : am_S ⊕ am_O → Prop} {M : am_M} {x4 : Int32} {u5 : Option am_V} {u6 : Option am_V} {j1 : Nat} {j2 : Nat} {j3 : Nat} {j4 : Nat} {M1 : am_M} {r1 : Int32} {M2 : am_M} {M3 : am_M} {r2 : Int32} (hL : sh.2.2.2 < 2147483648) (hx_j1 : x4 + 1 = nI j1) (hl_j1 : j1 < sh.2.2.2) (hx_j2 : x4 + 2 = nI j2) (hl_j2 : j2 < sh.2.2.2) (hx_j3 : x4 + 3 = nI j3) (hl_j3 : j3 < sh.2.2.2) (hx_j4 : x4 + 4 = nI j4) (hl_j4 : j4 < sh.2.2.2) (hc1 : C 110 M [am_R (some (0, 0, 0)), am_I (M (31, 0, 0) j1), am_I (M (31, 0, 0) j2), am_I (M (31, 0, 0) j3), am_I (M (31, 0, 0) j4)] (M1, Sum.inl (some (am_I r1)))) (hc2 : C 89 M1 [am_R (some (20, 0, 0)), am_I (M1 (31, 0, 0) j1), am_I (M1 (31, 0, 0) j2), am_I (M1 (31, 0, 0) j3), am_I (M1 (31, 0, 0) j4)] (M2, Sum.inl none)) (hc3 : C 60 M2 [am_R (some (20, 0, 0))] (M3, Sum.inl (some (am_I r2)))) (k1 : r2 = r1 → am_ev sh C 121 (421, [some (am_R (some (31, 0, 0))), some (am_R (some (0, 0, 0))), some (am_R (some (20, 0, 0))), some (am_R (some (30, 0, 0))), some (am_I x4), some (am_I r1), u6], [], M3, 2) P) (k2 : ¬ r2 = r1 → am_ev sh C 121 (419, [some (am_R (some (31, 0, 0))), some (am_R (some (0, 0, 0))), some (am_R (some (20, 0, 0))), some (am_R (some (30, 0, 0))), some (am_I x4), some (am_I r1), u6], [], M3, 2) P) : am_ev sh C 121 (352, [some (am_R (some (31, 0, 0))), some (am_R (some (0, 0, 0))), some (am_R (some (20, 0, 0))), some (am_R (some (30, 0, 0))), some (am_I x4), u5, u6], [], M, 0) P := by
  refine am_e_aload_n dd_121_352 rfl rfl ?_
  refine am_e_aload_n dd_121_353 rfl rfl ?_
  refine am_e_iload dd_121_354 rfl rfl ?_
  refine am_e_iconst (v := 1) dd_121_356 rfl rfl ?_
  refine am_e_iadd dd_121_357 rfl ?_
  refine am_a_sald dd_121_358 rfl hx_j1 hl_j1 hL rfl ?_
  refine am_e_aload_n dd_121_359 rfl rfl ?_
  refine am_e_iload dd_121_360 rfl rfl ?_
  refine am_e_iconst (v := 2) dd_121_362 rfl rfl ?_
  refine am_e_iadd dd_121_363 rfl ?_
  refine am_a_sald dd_121_364 rfl hx_j2 hl_j2 hL rfl ?_
  refine am_e_aload_n dd_121_365 rfl rfl ?_
  refine am_e_iload dd_121_366 rfl rfl ?_
  refine am_e_iconst (v := 3) dd_121_368 rfl rfl ?_
  refine am_e_iadd dd_121_369 rfl ?_
  refine am_a_sald dd_121_370 rfl hx_j3 hl_j3 hL rfl ?_
  refine am_e_aload_n dd_121_371 rfl rfl ?_
  refine am_e_iload dd_121_372 rfl rfl ?_
  refine am_e_iconst (v := 4) dd_121_374 rfl rfl ?_
  refine am_e_iadd dd_121_375 rfl ?_
  refine am_a_sald dd_121_376 rfl hx_j4 hl_j4 hL rfl ?_
  refine am_e_callS (c := 110) (k := 5) (as := [am_R (some (0, 0, 0)), am_I (M (31, 0, 0) j1), am_I (M (31, 0, 0) j2), am_I (M (31, 0, 0) j3), am_I (M (31, 0, 0) j4)]) (S' := [am_I r1]) (v := some (am_I r1)) (M' := M1) (n' := 2) dd_121_377 (by decide +kernel) (by decide +kernel) ⟨Nat.le_of_ble_eq_true rfl, Nat.le_of_ble_eq_true rfl, by decide +kernel, (Or.inl rfl)⟩ rfl rfl (by decide +kernel) hc1 rfl ?_
  refine am_e_istore dd_121_380 (Nat.le_of_ble_eq_true rfl) rfl rfl ?_
  refine am_e_aload_n dd_121_382 rfl rfl ?_
  refine am_e_aload_n dd_121_383 rfl rfl ?_
  refine am_e_iload dd_121_384 rfl rfl ?_
  refine am_e_iconst (v := 1) dd_121_386 rfl rfl ?_
  refine am_e_iadd dd_121_387 rfl ?_
  refine am_a_sald dd_121_388 rfl hx_j1 hl_j1 hL rfl ?_
  refine am_e_aload_n dd_121_389 rfl rfl ?_
  refine am_e_iload dd_121_390 rfl rfl ?_
  refine am_e_iconst (v := 2) dd_121_392 rfl rfl ?_
  refine am_e_iadd dd_121_393 rfl ?_
  refine am_a_sald dd_121_394 rfl hx_j2 hl_j2 hL rfl ?_
  refine am_e_aload_n dd_121_395 rfl rfl ?_
  refine am_e_iload dd_121_396 rfl rfl ?_
  refine am_e_iconst (v := 3) dd_121_398 rfl rfl ?_
  refine am_e_iadd dd_121_399 rfl ?_
  refine am_a_sald dd_121_400 rfl hx_j3 hl_j3 hL rfl ?_
  refine am_e_aload_n dd_121_401 rfl rfl ?_
  refine am_e_iload dd_121_402 rfl rfl ?_
  refine am_e_iconst (v := 4) dd_121_404 rfl rfl ?_
  refine am_e_iadd dd_121_405 rfl ?_
  refine am_a_sald dd_121_406 rfl hx_j4 hl_j4 hL rfl ?_
  refine am_e_callV (c := 89) (k := 5) (as := [am_R (some (20, 0, 0)), am_I (M1 (31, 0, 0) j1), am_I (M1 (31, 0, 0) j2), am_I (M1 (31, 0, 0) j3), am_I (M1 (31, 0, 0) j4)]) (S' := []) (v := none) (M' := M2) (n' := 2) dd_121_407 (by decide +kernel) ⟨Nat.le_of_ble_eq_true rfl, Nat.le_of_ble_eq_true rfl, by decide +kernel, (Or.inr (am_rcv_of rfl))⟩ rfl rfl (by decide +kernel) hc2 rfl ?_
  refine am_e_aload_n dd_121_410 rfl rfl ?_
  refine am_e_callV (c := 60) (k := 1) (as := [am_R (some (20, 0, 0))]) (S' := [am_I r2]) (v := some (am_I r2)) (M' := M3) (n' := 2) dd_121_411 (by decide +kernel) ⟨Nat.le_of_ble_eq_true rfl, Nat.le_of_ble_eq_true rfl, by decide +kernel, (Or.inr (am_rcv_of rfl))⟩ rfl rfl (by decide +kernel) hc3 rfl ?_
  refine am_e_iload dd_121_414 rfl rfl ?_
  exact am_a_icmp_eq (tgt := 421) (pc' := 419) dd_121_416 rfl rfl k1 k2

theorem sg_121_419 {sh : am_Sh} {C : Nat → am_M → List am_V → am_O → Prop} {P : am_S ⊕ am_O → Prop} {M : am_M} {x4 : Int32} {x5 : Int32} {u6 : Option am_V}  (k : P (Sum.inr (M, Sum.inl (some (am_I 0))))) : am_ev sh C 121 (419, [some (am_R (some (31, 0, 0))), some (am_R (some (0, 0, 0))), some (am_R (some (20, 0, 0))), some (am_R (some (30, 0, 0))), some (am_I x4), some (am_I x5), u6], [], M, 2) P := by
  refine am_e_iconst (v := 0) dd_121_419 rfl rfl ?_
  exact am_e_iret dd_121_420 (by decide +kernel) (Or.inr ⟨rfl, Or.inl rfl⟩) k

theorem sg_121_421 {sh : am_Sh} {C : Nat → am_M → List am_V → am_O → Prop} {P : am_S ⊕ am_O → Prop} {M : am_M} {x4 : Int32} {x5 : Int32} {u6 : Option am_V}  (k : am_ev sh C 121 (1160, [some (am_R (some (31, 0, 0))), some (am_R (some (0, 0, 0))), some (am_R (some (20, 0, 0))), some (am_R (some (30, 0, 0))), some (am_I x4), some (am_I x5), u6], [], M, 2) P) : am_ev sh C 121 (421, [some (am_R (some (31, 0, 0))), some (am_R (some (0, 0, 0))), some (am_R (some (20, 0, 0))), some (am_R (some (30, 0, 0))), some (am_I x4), some (am_I x5), u6], [], M, 2) P := by
  refine am_e_goto (pc' := 1160) dd_121_421 rfl ?_
  exact k

theorem sg_121_424 {sh : am_Sh} {C : Nat → am_M → List am_V → am_O → Prop} {P : am_S ⊕ am_O → Prop} {M : am_M} {x4 : Int32} {u5 : Option am_V} {u6 : Option am_V} {j1 : Nat} {j2 : Nat} {j3 : Nat} {M1 : am_M} {r1 : Int32} {M2 : am_M} {r2 : Int32} {M3 : am_M} {r3 : Int32} (hL : sh.2.2.2 < 2147483648) (hx_j1 : x4 + 1 = nI j1) (hl_j1 : j1 < sh.2.2.2) (hx_j2 : x4 + 2 = nI j2) (hl_j2 : j2 < sh.2.2.2) (hx_j3 : x4 + 3 = nI j3) (hl_j3 : j3 < sh.2.2.2) (hc1 : C 111 M [am_R (some (0, 0, 0)), am_I (M (31, 0, 0) j1), am_I (M (31, 0, 0) j2), am_I (M (31, 0, 0) j3), am_R (some (30, 0, 0))] (M1, Sum.inl (some (am_I r1)))) (hc2 : C 90 M1 [am_R (some (20, 0, 0)), am_I (M1 (31, 0, 0) j1), am_I (M1 (31, 0, 0) j2), am_I (M1 (31, 0, 0) j3)] (M2, Sum.inl (some (am_I r2)))) (hc3 : C 60 M2 [am_R (some (20, 0, 0))] (M3, Sum.inl (some (am_I r3)))) (k1 : r3 = r1 → am_ev sh C 121 (484, [some (am_R (some (31, 0, 0))), some (am_R (some (0, 0, 0))), some (am_R (some (20, 0, 0))), some (am_R (some (30, 0, 0))), some (am_I x4), some (am_I r1), some (am_I r2)], [], M3, 1) P) (k2 : ¬ r3 = r1 → am_ev sh C 121 (482, [some (am_R (some (31, 0, 0))), some (am_R (some (0, 0, 0))), some (am_R (some (20, 0, 0))), some (am_R (some (30, 0, 0))), some (am_I x4), some (am_I r1), some (am_I r2)], [], M3, 1) P) : am_ev sh C 121 (424, [some (am_R (some (31, 0, 0))), some (am_R (some (0, 0, 0))), some (am_R (some (20, 0, 0))), some (am_R (some (30, 0, 0))), some (am_I x4), u5, u6], [], M, 0) P := by
  refine am_e_aload_n dd_121_424 rfl rfl ?_
  refine am_e_aload_n dd_121_425 rfl rfl ?_
  refine am_e_iload dd_121_426 rfl rfl ?_
  refine am_e_iconst (v := 1) dd_121_428 rfl rfl ?_
  refine am_e_iadd dd_121_429 rfl ?_
  refine am_a_sald dd_121_430 rfl hx_j1 hl_j1 hL rfl ?_
  refine am_e_aload_n dd_121_431 rfl rfl ?_
  refine am_e_iload dd_121_432 rfl rfl ?_
  refine am_e_iconst (v := 2) dd_121_434 rfl rfl ?_
  refine am_e_iadd dd_121_435 rfl ?_
  refine am_a_sald dd_121_436 rfl hx_j2 hl_j2 hL rfl ?_
  refine am_e_aload_n dd_121_437 rfl rfl ?_
  refine am_e_iload dd_121_438 rfl rfl ?_
  refine am_e_iconst (v := 3) dd_121_440 rfl rfl ?_
  refine am_e_iadd dd_121_441 rfl ?_
  refine am_a_sald dd_121_442 rfl hx_j3 hl_j3 hL rfl ?_
  refine am_e_aload_n dd_121_443 rfl rfl ?_
  refine am_e_callS (c := 111) (k := 5) (as := [am_R (some (0, 0, 0)), am_I (M (31, 0, 0) j1), am_I (M (31, 0, 0) j2), am_I (M (31, 0, 0) j3), am_R (some (30, 0, 0))]) (S' := [am_I r1]) (v := some (am_I r1)) (M' := M1) (n' := 1) dd_121_444 (by decide +kernel) (by decide +kernel) ⟨Nat.le_of_ble_eq_true rfl, Nat.le_of_ble_eq_true rfl, by decide +kernel, (Or.inl rfl)⟩ rfl rfl (by decide +kernel) hc1 rfl ?_
  refine am_e_istore dd_121_447 (Nat.le_of_ble_eq_true rfl) rfl rfl ?_
  refine am_e_aload_n dd_121_449 rfl rfl ?_
  refine am_e_aload_n dd_121_450 rfl rfl ?_
  refine am_e_iload dd_121_451 rfl rfl ?_
  refine am_e_iconst (v := 1) dd_121_453 rfl rfl ?_
  refine am_e_iadd dd_121_454 rfl ?_
  refine am_a_sald dd_121_455 rfl hx_j1 hl_j1 hL rfl ?_
  refine am_e_aload_n dd_121_456 rfl rfl ?_
  refine am_e_iload dd_121_457 rfl rfl ?_
  refine am_e_iconst (v := 2) dd_121_459 rfl rfl ?_
  refine am_e_iadd dd_121_460 rfl ?_
  refine am_a_sald dd_121_461 rfl hx_j2 hl_j2 hL rfl ?_
  refine am_e_aload_n dd_121_462 rfl rfl ?_
  refine am_e_iload dd_121_463 rfl rfl ?_
  refine am_e_iconst (v := 3) dd_121_465 rfl rfl ?_
  refine am_e_iadd dd_121_466 rfl ?_
  refine am_a_sald dd_121_467 rfl hx_j3 hl_j3 hL rfl ?_
  refine am_e_callV (c := 90) (k := 4) (as := [am_R (some (20, 0, 0)), am_I (M1 (31, 0, 0) j1), am_I (M1 (31, 0, 0) j2), am_I (M1 (31, 0, 0) j3)]) (S' := [am_I r2]) (v := some (am_I r2)) (M' := M2) (n' := 1) dd_121_468 (by decide +kernel) ⟨Nat.le_of_ble_eq_true rfl, Nat.le_of_ble_eq_true rfl, by decide +kernel, (Or.inr (am_rcv_of rfl))⟩ rfl rfl (by decide +kernel) hc2 rfl ?_
  refine am_e_istore dd_121_471 (Nat.le_of_ble_eq_true rfl) rfl rfl ?_
  refine am_e_aload_n dd_121_473 rfl rfl ?_
  refine am_e_callV (c := 60) (k := 1) (as := [am_R (some (20, 0, 0))]) (S' := [am_I r3]) (v := some (am_I r3)) (M' := M3) (n' := 1) dd_121_474 (by decide +kernel) ⟨Nat.le_of_ble_eq_true rfl, Nat.le_of_ble_eq_true rfl, by decide +kernel, (Or.inr (am_rcv_of rfl))⟩ rfl rfl (by decide +kernel) hc3 rfl ?_
  refine am_e_iload dd_121_477 rfl rfl ?_
  exact am_a_icmp_eq (tgt := 484) (pc' := 482) dd_121_479 rfl rfl k1 k2

