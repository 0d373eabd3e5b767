/-- the script stands below the base -/
def hXs (G : GG) (X : CX) (b L : Nat) (xs : Nat → Int32) : Prop := ∀ (p : Program) (l : Launch) (e : Env) (R : Room) (s : State) (m : MethodId) (args : Array Value) (below : List Frame) (meth : Method) (c : Code) (Q : State → Prop), X = (p, l, e, R, s, m, args, below, meth, c, Q) → va_X b L xs s s.heap ∧ b < s.heap.size ∧ b < G.1
def slI {ρ : Type} (L : Nat) (xs : Nat → Int32) (i : Int32) (c : Int32 → Option ρ) : Option ρ := if i < 0 ∨ L ≤ i.toNatClampNeg then none else c (xs i.toNatClampNeg)
theorem wt_slI {G : GG} {X : CX} {J : JD} {B : BD} {pc : Nat} {ls : LV} {st : List Value} {M : Mm} {u w : Nat} {ρ : Type} {ans : ρ} {b L : Nat} {xs : Nat → Int32} (hX : hXs G X b L xs) {i : Int32} {cont : Int32 → Option ρ} (hc : decode J.2.1 pc = .ok (.iaload, 1)) (h : slI L xs i cont = some ans) (kk : ∀ v, cont v = some ans → Wt G X J B (pc + 1) ls (.int v :: st) M u w) : Wt G X J B pc ls (.int i :: .ref b :: st) M u w := by
  unfold slI at h
  by_cases hi : i < 0 ∨ L ≤ i.toNatClampNeg
  · rw [if_pos hi] at h
    cases h
  · rw [if_neg hi] at h
    exact wt_sload hX hc hi (kk _ h)
theorem dL_law_0 : decode cL_law 0 = .ok (.new 7, 3) := by decide +kernel
theorem dL_law_3 : decode cL_law 3 = .ok (.dup, 1) := by decide +kernel
theorem dL_law_4 : decode cL_law 4 = .ok (.invokespecial 9, 3) := by decide +kernel
theorem dL_law_7 : decode cL_law 7 = .ok (.astore_n 1, 1) := by decide +kernel
theorem dL_law_8 : decode cL_law 8 = .ok (.new 10, 3) := by decide +kernel
theorem dL_law_11 : decode cL_law 11 = .ok (.dup, 1) := by decide +kernel
theorem dL_law_12 : decode cL_law 12 = .ok (.invokespecial 12, 3) := by decide +kernel
theorem dL_law_15 : decode cL_law 15 = .ok (.astore_n 2, 1) := by decide +kernel
theorem dL_law_16 : decode cL_law 16 = .ok (.iconst 0, 1) := by decide +kernel
theorem dL_law_17 : decode cL_law 17 = .ok (.istore_n 3, 1) := by decide +kernel
theorem dL_law_18 : decode cL_law 18 = .ok (.iload_n 3, 1) := by decide +kernel
theorem dL_law_19 : decode cL_law 19 = .ok (.aload_n 0, 1) := by decide +kernel
theorem dL_law_20 : decode cL_law 20 = .ok (.arraylength, 1) := by decide +kernel
theorem dL_law_21 : decode cL_law 21 = .ok (.bipush 6, 2) := by decide +kernel
theorem dL_law_23 : decode cL_law 23 = .ok (.isub, 1) := by decide +kernel
theorem dL_law_24 : decode cL_law 24 = .ok (.if_icmp .gt 1684, 3) := by decide +kernel
theorem dL_law_27 : decode cL_law 27 = .ok (.aload_n 0, 1) := by decide +kernel
theorem dL_law_28 : decode cL_law 28 = .ok (.iload_n 3, 1) := by decide +kernel
theorem dL_law_29 : decode cL_law 29 = .ok (.iaload, 1) := by decide +kernel
theorem dL_law_30 : decode cL_law 30 = .ok (.bipush 63, 2) := by decide +kernel
theorem dL_law_32 : decode cL_law 32 = .ok (.iand, 1) := by decide +kernel
theorem dL_law_33 : decode cL_law 33 = .ok (.tableswitch 1669 0 52 #[227, 240, 254, 268, 311, 384, 418, 481, 544, 567, 590, 613, 636, 669, 702, 735, 768, 801, 834, 857, 890, 913, 936, 959, 972, 1015, 1038, 1061, 1074, 1107, 1120, 1133, 1166, 1179, 1212, 1235, 1258, 1271, 1314, 1357, 1370, 1383, 1406, 1439, 1462, 1495, 1518, 1541, 1564, 1587, 1610, 1643, 1656], 227) := by decide +kernel
theorem dL_law_260 : decode cL_law 260 = .ok (.aload_n 1, 1) := by decide +kernel
theorem dL_law_261 : decode cL_law 261 = .ok (.invokevirtual 13, 3) := by decide +kernel
theorem dL_law_264 : decode cL_law 264 = .ok (.aload_n 2, 1) := by decide +kernel
theorem dL_law_265 : decode cL_law 265 = .ok (.invokevirtual 17, 3) := by decide +kernel
theorem dL_law_268 : decode cL_law 268 = .ok (.if_icmp .eq 1434, 3) := by decide +kernel
theorem dL_law_271 : decode cL_law 271 = .ok (.iconst 0, 1) := by decide +kernel
theorem dL_law_272 : decode cL_law 272 = .ok (.ireturn, 1) := by decide +kernel
theorem dL_law_273 : decode cL_law 273 = .ok (.aload_n 1, 1) := by decide +kernel
theorem dL_law_274 : decode cL_law 274 = .ok (.invokevirtual 18, 3) := by decide +kernel
theorem dL_law_277 : decode cL_law 277 = .ok (.aload_n 2, 1) := by decide +kernel
theorem dL_law_278 : decode cL_law 278 = .ok (.invokevirtual 22, 3) := by decide +kernel
theorem dL_law_281 : decode cL_law 281 = .ok (.lcmp, 1) := by decide +kernel
theorem dL_law_282 : decode cL_law 282 = .ok (.ifCond .eq 1420, 3) := by decide +kernel
theorem dL_law_285 : decode cL_law 285 = .ok (.iconst 0, 1) := by decide +kernel
theorem dL_law_286 : decode cL_law 286 = .ok (.ireturn, 1) := by decide +kernel
theorem dL_law_287 : decode cL_law 287 = .ok (.aload_n 1, 1) := by decide +kernel
theorem dL_law_288 : decode cL_law 288 = .ok (.invokevirtual 23, 3) := by decide +kernel
theorem dL_law_291 : decode cL_law 291 = .ok (.aload_n 2, 1) := by decide +kernel
theorem dL_law_292 : decode cL_law 292 = .ok (.invokevirtual 26, 3) := by decide +kernel
theorem dL_law_295 : decode cL_law 295 = .ok (.lcmp, 1) := by decide +kernel
theorem dL_law_296 : decode cL_law 296 = .ok (.ifCond .eq 1406, 3) := by decide +kernel
theorem dL_law_299 : decode cL_law 299 = .ok (.iconst 0, 1) := by decide +kernel
theorem dL_law_300 : decode cL_law 300 = .ok (.ireturn, 1) := by decide +kernel
theorem dL_law_301 : decode cL_law 301 = .ok (.aload_n 1, 1) := by decide +kernel
theorem dL_law_302 : decode cL_law 302 = .ok (.aload_n 0, 1) := by decide +kernel
theorem dL_law_303 : decode cL_law 303 = .ok (.iload_n 3, 1) := by decide +kernel
theorem dL_law_304 : decode cL_law 304 = .ok (.iconst 1, 1) := by decide +kernel
theorem dL_law_305 : decode cL_law 305 = .ok (.iadd, 1) := by decide +kernel
theorem dL_law_306 : decode cL_law 306 = .ok (.iaload, 1) := by decide +kernel
theorem dL_law_307 : decode cL_law 307 = .ok (.aload_n 0, 1) := by decide +kernel
theorem dL_law_308 : decode cL_law 308 = .ok (.iload_n 3, 1) := by decide +kernel
theorem dL_law_309 : decode cL_law 309 = .ok (.iconst 2, 1) := by decide +kernel
theorem dL_law_310 : decode cL_law 310 = .ok (.iadd, 1) := by decide +kernel
theorem dL_law_311 : decode cL_law 311 = .ok (.iaload, 1) := by decide +kernel
theorem dL_law_312 : decode cL_law 312 = .ok (.aload_n 0, 1) := by decide +kernel
theorem dL_law_313 : decode cL_law 313 = .ok (.iload_n 3, 1) := by decide +kernel
theorem dL_law_314 : decode cL_law 314 = .ok (.iconst 3, 1) := by decide +kernel
theorem dL_law_315 : decode cL_law 315 = .ok (.iadd, 1) := by decide +kernel
theorem dL_law_316 : decode cL_law 316 = .ok (.iaload, 1) := by decide +kernel
theorem dL_law_317 : decode cL_law 317 = .ok (.invokevirtual 27, 3) := by decide +kernel
theorem dL_law_320 : decode cL_law 320 = .ok (.aload_n 2, 1) := by decide +kernel
theorem dL_law_321 : decode cL_law 321 = .ok (.aload_n 0, 1) := by decide +kernel
theorem dL_law_322 : decode cL_law 322 = .ok (.iload_n 3, 1) := by decide +kernel
theorem dL_law_323 : decode cL_law 323 = .ok (.iconst 1, 1) := by decide +kernel
theorem dL_law_324 : decode cL_law 324 = .ok (.iadd, 1) := by decide +kernel
theorem dL_law_325 : decode cL_law 325 = .ok (.iaload, 1) := by decide +kernel
theorem dL_law_326 : decode cL_law 326 = .ok (.aload_n 0, 1) := by decide +kernel
theorem dL_law_327 : decode cL_law 327 = .ok (.iload_n 3, 1) := by decide +kernel
theorem dL_law_328 : decode cL_law 328 = .ok (.iconst 2, 1) := by decide +kernel
theorem dL_law_329 : decode cL_law 329 = .ok (.iadd, 1) := by decide +kernel
theorem dL_law_330 : decode cL_law 330 = .ok (.iaload, 1) := by decide +kernel
theorem dL_law_331 : decode cL_law 331 = .ok (.aload_n 0, 1) := by decide +kernel
theorem dL_law_332 : decode cL_law 332 = .ok (.iload_n 3, 1) := by decide +kernel
theorem dL_law_333 : decode cL_law 333 = .ok (.iconst 3, 1) := by decide +kernel
theorem dL_law_334 : decode cL_law 334 = .ok (.iadd, 1) := by decide +kernel
theorem dL_law_335 : decode cL_law 335 = .ok (.iaload, 1) := by decide +kernel
theorem dL_law_336 : decode cL_law 336 = .ok (.invokevirtual 31, 3) := by decide +kernel
theorem dL_law_339 : decode cL_law 339 = .ok (.if_icmp .eq 1363, 3) := by decide +kernel
theorem dL_law_342 : decode cL_law 342 = .ok (.iconst 0, 1) := by decide +kernel
theorem dL_law_343 : decode cL_law 343 = .ok (.ireturn, 1) := by decide +kernel
theorem dL_law_344 : decode cL_law 344 = .ok (.aload_n 1, 1) := by decide +kernel
theorem dL_law_345 : decode cL_law 345 = .ok (.aload_n 0, 1) := by decide +kernel
theorem dL_law_346 : decode cL_law 346 = .ok (.iload_n 3, 1) := by decide +kernel
theorem dL_law_347 : decode cL_law 347 = .ok (.iconst 1, 1) := by decide +kernel
theorem dL_law_348 : decode cL_law 348 = .ok (.iadd, 1) := by decide +kernel
theorem dL_law_349 : decode cL_law 349 = .ok (.iaload, 1) := by decide +kernel
theorem dL_law_350 : decode cL_law 350 = .ok (.aload_n 0, 1) := by decide +kernel
theorem dL_law_351 : decode cL_law 351 = .ok (.iload_n 3, 1) := by decide +kernel
theorem dL_law_352 : decode cL_law 352 = .ok (.iconst 2, 1) := by decide +kernel
theorem dL_law_353 : decode cL_law 353 = .ok (.iadd, 1) := by decide +kernel
theorem dL_law_354 : decode cL_law 354 = .ok (.iaload, 1) := by decide +kernel
theorem dL_law_355 : decode cL_law 355 = .ok (.aload_n 0, 1) := by decide +kernel
theorem dL_law_356 : decode cL_law 356 = .ok (.iload_n 3, 1) := by decide +kernel
theorem dL_law_357 : decode cL_law 357 = .ok (.iconst 3, 1) := by decide +kernel
theorem dL_law_358 : decode cL_law 358 = .ok (.iadd, 1) := by decide +kernel
theorem dL_law_359 : decode cL_law 359 = .ok (.iaload, 1) := by decide +kernel
theorem dL_law_360 : decode cL_law 360 = .ok (.i2l, 1) := by decide +kernel
theorem dL_law_361 : decode cL_law 361 = .ok (.bipush 32, 2) := by decide +kernel
theorem dL_law_363 : decode cL_law 363 = .ok (.lshl, 1) := by decide +kernel
theorem dL_law_364 : decode cL_law 364 = .ok (.aload_n 0, 1) := by decide +kernel
theorem dL_law_365 : decode cL_law 365 = .ok (.iload_n 3, 1) := by decide +kernel
theorem dL_law_366 : decode cL_law 366 = .ok (.iconst 4, 1) := by decide +kernel
theorem dL_law_367 : decode cL_law 367 = .ok (.iadd, 1) := by decide +kernel
theorem dL_law_368 : decode cL_law 368 = .ok (.iaload, 1) := by decide +kernel
theorem dL_law_369 : decode cL_law 369 = .ok (.i2l, 1) := by decide +kernel
theorem dL_law_370 : decode cL_law 370 = .ok (.ldc2_w 32, 3) := by decide +kernel
theorem dL_law_373 : decode cL_law 373 = .ok (.land, 1) := by decide +kernel
theorem dL_law_374 : decode cL_law 374 = .ok (.lor, 1) := by decide +kernel
theorem dL_law_375 : decode cL_law 375 = .ok (.invokevirtual 34, 3) := by decide +kernel
theorem dL_law_378 : decode cL_law 378 = .ok (.aload_n 2, 1) := by decide +kernel
theorem dL_law_379 : decode cL_law 379 = .ok (.aload_n 0, 1) := by decide +kernel
theorem dL_law_380 : decode cL_law 380 = .ok (.iload_n 3, 1) := by decide +kernel
theorem dL_law_381 : decode cL_law 381 = .ok (.iconst 1, 1) := by decide +kernel
theorem dL_law_382 : decode cL_law 382 = .ok (.iadd, 1) := by decide +kernel
theorem dL_law_383 : decode cL_law 383 = .ok (.iaload, 1) := by decide +kernel
theorem dL_law_384 : decode cL_law 384 = .ok (.aload_n 0, 1) := by decide +kernel
theorem dL_law_385 : decode cL_law 385 = .ok (.iload_n 3, 1) := by decide +kernel
theorem dL_law_386 : decode cL_law 386 = .ok (.iconst 2, 1) := by decide +kernel
theorem dL_law_387 : decode cL_law 387 = .ok (.iadd, 1) := by decide +kernel
theorem dL_law_388 : decode cL_law 388 = .ok (.iaload, 1) := by decide +kernel
theorem dL_law_389 : decode cL_law 389 = .ok (.aload_n 0, 1) := by decide +kernel
theorem dL_law_390 : decode cL_law 390 = .ok (.iload_n 3, 1) := by decide +kernel
theorem dL_law_391 : decode cL_law 391 = .ok (.iconst 3, 1) := by decide +kernel
theorem dL_law_392 : decode cL_law 392 = .ok (.iadd, 1) := by decide +kernel
theorem dL_law_393 : decode cL_law 393 = .ok (.iaload, 1) := by decide +kernel
theorem dL_law_394 : decode cL_law 394 = .ok (.i2l, 1) := by decide +kernel
theorem dL_law_395 : decode cL_law 395 = .ok (.bipush 32, 2) := by decide +kernel
theorem dL_law_397 : decode cL_law 397 = .ok (.lshl, 1) := by decide +kernel
theorem dL_law_398 : decode cL_law 398 = .ok (.aload_n 0, 1) := by decide +kernel
theorem dL_law_399 : decode cL_law 399 = .ok (.iload_n 3, 1) := by decide +kernel
theorem dL_law_400 : decode cL_law 400 = .ok (.iconst 4, 1) := by decide +kernel
theorem dL_law_401 : decode cL_law 401 = .ok (.iadd, 1) := by decide +kernel
theorem dL_law_402 : decode cL_law 402 = .ok (.iaload, 1) := by decide +kernel
theorem dL_law_403 : decode cL_law 403 = .ok (.i2l, 1) := by decide +kernel
theorem dL_law_404 : decode cL_law 404 = .ok (.ldc2_w 32, 3) := by decide +kernel
theorem dL_law_407 : decode cL_law 407 = .ok (.land, 1) := by decide +kernel
theorem dL_law_408 : decode cL_law 408 = .ok (.lor, 1) := by decide +kernel
theorem dL_law_409 : decode cL_law 409 = .ok (.invokevirtual 38, 3) := by decide +kernel
theorem dL_law_412 : decode cL_law 412 = .ok (.if_icmp .eq 1290, 3) := by decide +kernel
theorem dL_law_415 : decode cL_law 415 = .ok (.iconst 0, 1) := by decide +kernel
theorem dL_law_416 : decode cL_law 416 = .ok (.ireturn, 1) := by decide +kernel
theorem dL_law_417 : decode cL_law 417 = .ok (.aload_n 1, 1) := by decide +kernel
theorem dL_law_418 : decode cL_law 418 = .ok (.aload_n 0, 1) := by decide +kernel
theorem dL_law_419 : decode cL_law 419 = .ok (.iload_n 3, 1) := by decide +kernel
theorem dL_law_420 : decode cL_law 420 = .ok (.iconst 1, 1) := by decide +kernel
theorem dL_law_421 : decode cL_law 421 = .ok (.iadd, 1) := by decide +kernel
theorem dL_law_422 : decode cL_law 422 = .ok (.iaload, 1) := by decide +kernel
theorem dL_law_423 : decode cL_law 423 = .ok (.aload_n 0, 1) := by decide +kernel
theorem dL_law_424 : decode cL_law 424 = .ok (.iload_n 3, 1) := by decide +kernel
theorem dL_law_425 : decode cL_law 425 = .ok (.iconst 2, 1) := by decide +kernel
theorem dL_law_426 : decode cL_law 426 = .ok (.iadd, 1) := by decide +kernel
theorem dL_law_427 : decode cL_law 427 = .ok (.iaload, 1) := by decide +kernel
theorem dL_law_428 : decode cL_law 428 = .ok (.invokevirtual 39, 3) := by decide +kernel
theorem dL_law_431 : decode cL_law 431 = .ok (.aload_n 2, 1) := by decide +kernel
theorem dL_law_432 : decode cL_law 432 = .ok (.aload_n 0, 1) := by decide +kernel
theorem dL_law_433 : decode cL_law 433 = .ok (.iload_n 3, 1) := by decide +kernel
theorem dL_law_434 : decode cL_law 434 = .ok (.iconst 1, 1) := by decide +kernel
theorem dL_law_435 : decode cL_law 435 = .ok (.iadd, 1) := by decide +kernel
theorem dL_law_436 : decode cL_law 436 = .ok (.iaload, 1) := by decide +kernel
theorem dL_law_437 : decode cL_law 437 = .ok (.aload_n 0, 1) := by decide +kernel
theorem dL_law_438 : decode cL_law 438 = .ok (.iload_n 3, 1) := by decide +kernel
theorem dL_law_439 : decode cL_law 439 = .ok (.iconst 2, 1) := by decide +kernel
theorem dL_law_440 : decode cL_law 440 = .ok (.iadd, 1) := by decide +kernel
theorem dL_law_441 : decode cL_law 441 = .ok (.iaload, 1) := by decide +kernel
theorem dL_law_442 : decode cL_law 442 = .ok (.invokevirtual 43, 3) := by decide +kernel
theorem dL_law_445 : decode cL_law 445 = .ok (.lcmp, 1) := by decide +kernel
theorem dL_law_446 : decode cL_law 446 = .ok (.ifCond .eq 1256, 3) := by decide +kernel
theorem dL_law_449 : decode cL_law 449 = .ok (.iconst 0, 1) := by decide +kernel
theorem dL_law_450 : decode cL_law 450 = .ok (.ireturn, 1) := by decide +kernel
theorem dL_law_451 : decode cL_law 451 = .ok (.aload_n 1, 1) := by decide +kernel
theorem dL_law_452 : decode cL_law 452 = .ok (.aload_n 0, 1) := by decide +kernel
theorem dL_law_453 : decode cL_law 453 = .ok (.iload_n 3, 1) := by decide +kernel
theorem dL_law_454 : decode cL_law 454 = .ok (.iconst 1, 1) := by decide +kernel
theorem dL_law_455 : decode cL_law 455 = .ok (.iadd, 1) := by decide +kernel
theorem dL_law_456 : decode cL_law 456 = .ok (.iaload, 1) := by decide +kernel
theorem dL_law_457 : decode cL_law 457 = .ok (.aload_n 0, 1) := by decide +kernel
theorem dL_law_458 : decode cL_law 458 = .ok (.iload_n 3, 1) := by decide +kernel
theorem dL_law_459 : decode cL_law 459 = .ok (.iconst 2, 1) := by decide +kernel
theorem dL_law_460 : decode cL_law 460 = .ok (.iadd, 1) := by decide +kernel
theorem dL_law_461 : decode cL_law 461 = .ok (.iaload, 1) := by decide +kernel
theorem dL_law_462 : decode cL_law 462 = .ok (.aload_n 0, 1) := by decide +kernel
theorem dL_law_463 : decode cL_law 463 = .ok (.iload_n 3, 1) := by decide +kernel
theorem dL_law_464 : decode cL_law 464 = .ok (.iconst 3, 1) := by decide +kernel
theorem dL_law_465 : decode cL_law 465 = .ok (.iadd, 1) := by decide +kernel
theorem dL_law_466 : decode cL_law 466 = .ok (.iaload, 1) := by decide +kernel
theorem dL_law_467 : decode cL_law 467 = .ok (.aload_n 0, 1) := by decide +kernel
theorem dL_law_468 : decode cL_law 468 = .ok (.iload_n 3, 1) := by decide +kernel
theorem dL_law_469 : decode cL_law 469 = .ok (.iconst 4, 1) := by decide +kernel
theorem dL_law_470 : decode cL_law 470 = .ok (.iadd, 1) := by decide +kernel
theorem dL_law_471 : decode cL_law 471 = .ok (.iaload, 1) := by decide +kernel
theorem dL_law_472 : decode cL_law 472 = .ok (.aload_n 0, 1) := by decide +kernel
theorem dL_law_473 : decode cL_law 473 = .ok (.iload_n 3, 1) := by decide +kernel
theorem dL_law_474 : decode cL_law 474 = .ok (.iconst 5, 1) := by decide +kernel
theorem dL_law_475 : decode cL_law 475 = .ok (.iadd, 1) := by decide +kernel
theorem dL_law_476 : decode cL_law 476 = .ok (.iaload, 1) := by decide +kernel
theorem dL_law_477 : decode cL_law 477 = .ok (.invokevirtual 44, 3) := by decide +kernel
theorem dL_law_480 : decode cL_law 480 = .ok (.aload_n 2, 1) := by decide +kernel
theorem dL_law_481 : decode cL_law 481 = .ok (.aload_n 0, 1) := by decide +kernel
theorem dL_law_482 : decode cL_law 482 = .ok (.iload_n 3, 1) := by decide +kernel
theorem dL_law_483 : decode cL_law 483 = .ok (.iconst 1, 1) := by decide +kernel
theorem dL_law_484 : decode cL_law 484 = .ok (.iadd, 1) := by decide +kernel
theorem dL_law_485 : decode cL_law 485 = .ok (.iaload, 1) := by decide +kernel
theorem dL_law_486 : decode cL_law 486 = .ok (.aload_n 0, 1) := by decide +kernel
theorem dL_law_487 : decode cL_law 487 = .ok (.iload_n 3, 1) := by decide +kernel
theorem dL_law_488 : decode cL_law 488 = .ok (.iconst 2, 1) := by decide +kernel
theorem dL_law_489 : decode cL_law 489 = .ok (.iadd, 1) := by decide +kernel
theorem dL_law_490 : decode cL_law 490 = .ok (.iaload, 1) := by decide +kernel
theorem dL_law_491 : decode cL_law 491 = .ok (.aload_n 0, 1) := by decide +kernel
theorem dL_law_492 : decode cL_law 492 = .ok (.iload_n 3, 1) := by decide +kernel
theorem dL_law_493 : decode cL_law 493 = .ok (.iconst 3, 1) := by decide +kernel
theorem dL_law_494 : decode cL_law 494 = .ok (.iadd, 1) := by decide +kernel
theorem dL_law_495 : decode cL_law 495 = .ok (.iaload, 1) := by decide +kernel
theorem dL_law_496 : decode cL_law 496 = .ok (.aload_n 0, 1) := by decide +kernel
theorem dL_law_497 : decode cL_law 497 = .ok (.iload_n 3, 1) := by decide +kernel
theorem dL_law_498 : decode cL_law 498 = .ok (.iconst 4, 1) := by decide +kernel
theorem dL_law_499 : decode cL_law 499 = .ok (.iadd, 1) := by decide +kernel
theorem dL_law_500 : decode cL_law 500 = .ok (.iaload, 1) := by decide +kernel
theorem dL_law_501 : decode cL_law 501 = .ok (.aload_n 0, 1) := by decide +kernel
theorem dL_law_502 : decode cL_law 502 = .ok (.iload_n 3, 1) := by decide +kernel
theorem dL_law_503 : decode cL_law 503 = .ok (.iconst 5, 1) := by decide +kernel
theorem dL_law_504 : decode cL_law 504 = .ok (.iadd, 1) := by decide +kernel
theorem dL_law_505 : decode cL_law 505 = .ok (.iaload, 1) := by decide +kernel
theorem dL_law_506 : decode cL_law 506 = .ok (.invokevirtual 48, 3) := by decide +kernel
theorem dL_law_509 : decode cL_law 509 = .ok (.if_icmp .eq 1193, 3) := by decide +kernel
theorem dL_law_512 : decode cL_law 512 = .ok (.iconst 0, 1) := by decide +kernel
theorem dL_law_513 : decode cL_law 513 = .ok (.ireturn, 1) := by decide +kernel
theorem dL_law_514 : decode cL_law 514 = .ok (.aload_n 1, 1) := by decide +kernel
theorem dL_law_515 : decode cL_law 515 = .ok (.aload_n 0, 1) := by decide +kernel
theorem dL_law_516 : decode cL_law 516 = .ok (.iload_n 3, 1) := by decide +kernel
theorem dL_law_517 : decode cL_law 517 = .ok (.iconst 1, 1) := by decide +kernel
theorem dL_law_518 : decode cL_law 518 = .ok (.iadd, 1) := by decide +kernel
theorem dL_law_519 : decode cL_law 519 = .ok (.iaload, 1) := by decide +kernel
theorem dL_law_520 : decode cL_law 520 = .ok (.aload_n 0, 1) := by decide +kernel
theorem dL_law_521 : decode cL_law 521 = .ok (.iload_n 3, 1) := by decide +kernel
theorem dL_law_522 : decode cL_law 522 = .ok (.iconst 2, 1) := by decide +kernel
theorem dL_law_523 : decode cL_law 523 = .ok (.iadd, 1) := by decide +kernel
theorem dL_law_524 : decode cL_law 524 = .ok (.iaload, 1) := by decide +kernel
theorem dL_law_525 : decode cL_law 525 = .ok (.aload_n 0, 1) := by decide +kernel
theorem dL_law_526 : decode cL_law 526 = .ok (.iload_n 3, 1) := by decide +kernel
theorem dL_law_527 : decode cL_law 527 = .ok (.iconst 3, 1) := by decide +kernel
theorem dL_law_528 : decode cL_law 528 = .ok (.iadd, 1) := by decide +kernel
theorem dL_law_529 : decode cL_law 529 = .ok (.iaload, 1) := by decide +kernel
theorem dL_law_530 : decode cL_law 530 = .ok (.aload_n 0, 1) := by decide +kernel
theorem dL_law_531 : decode cL_law 531 = .ok (.iload_n 3, 1) := by decide +kernel
theorem dL_law_532 : decode cL_law 532 = .ok (.iconst 4, 1) := by decide +kernel
theorem dL_law_533 : decode cL_law 533 = .ok (.iadd, 1) := by decide +kernel
theorem dL_law_534 : decode cL_law 534 = .ok (.iaload, 1) := by decide +kernel
theorem dL_law_535 : decode cL_law 535 = .ok (.aload_n 0, 1) := by decide +kernel
theorem dL_law_536 : decode cL_law 536 = .ok (.iload_n 3, 1) := by decide +kernel
theorem dL_law_537 : decode cL_law 537 = .ok (.iconst 5, 1) := by decide +kernel
theorem dL_law_538 : decode cL_law 538 = .ok (.iadd, 1) := by decide +kernel
theorem dL_law_539 : decode cL_law 539 = .ok (.iaload, 1) := by decide +kernel
theorem dL_law_540 : decode cL_law 540 = .ok (.invokevirtual 49, 3) := by decide +kernel
theorem dL_law_543 : decode cL_law 543 = .ok (.aload_n 2, 1) := by decide +kernel
theorem dL_law_544 : decode cL_law 544 = .ok (.aload_n 0, 1) := by decide +kernel
theorem dL_law_545 : decode cL_law 545 = .ok (.iload_n 3, 1) := by decide +kernel
theorem dL_law_546 : decode cL_law 546 = .ok (.iconst 1, 1) := by decide +kernel
theorem dL_law_547 : decode cL_law 547 = .ok (.iadd, 1) := by decide +kernel
theorem dL_law_548 : decode cL_law 548 = .ok (.iaload, 1) := by decide +kernel
theorem dL_law_549 : decode cL_law 549 = .ok (.aload_n 0, 1) := by decide +kernel
theorem dL_law_550 : decode cL_law 550 = .ok (.iload_n 3, 1) := by decide +kernel
theorem dL_law_551 : decode cL_law 551 = .ok (.iconst 2, 1) := by decide +kernel
theorem dL_law_552 : decode cL_law 552 = .ok (.iadd, 1) := by decide +kernel
theorem dL_law_553 : decode cL_law 553 = .ok (.iaload, 1) := by decide +kernel
theorem dL_law_554 : decode cL_law 554 = .ok (.aload_n 0, 1) := by decide +kernel
theorem dL_law_555 : decode cL_law 555 = .ok (.iload_n 3, 1) := by decide +kernel
theorem dL_law_556 : decode cL_law 556 = .ok (.iconst 3, 1) := by decide +kernel
theorem dL_law_557 : decode cL_law 557 = .ok (.iadd, 1) := by decide +kernel
theorem dL_law_558 : decode cL_law 558 = .ok (.iaload, 1) := by decide +kernel
theorem dL_law_559 : decode cL_law 559 = .ok (.aload_n 0, 1) := by decide +kernel
theorem dL_law_560 : decode cL_law 560 = .ok (.iload_n 3, 1) := by decide +kernel
theorem dL_law_561 : decode cL_law 561 = .ok (.iconst 4, 1) := by decide +kernel
theorem dL_law_562 : decode cL_law 562 = .ok (.iadd, 1) := by decide +kernel
theorem dL_law_563 : decode cL_law 563 = .ok (.iaload, 1) := by decide +kernel
theorem dL_law_564 : decode cL_law 564 = .ok (.aload_n 0, 1) := by decide +kernel
theorem dL_law_565 : decode cL_law 565 = .ok (.iload_n 3, 1) := by decide +kernel
theorem dL_law_566 : decode cL_law 566 = .ok (.iconst 5, 1) := by decide +kernel
theorem dL_law_567 : decode cL_law 567 = .ok (.iadd, 1) := by decide +kernel
theorem dL_law_568 : decode cL_law 568 = .ok (.iaload, 1) := by decide +kernel
theorem dL_law_569 : decode cL_law 569 = .ok (.invokevirtual 53, 3) := by decide +kernel
theorem dL_law_572 : decode cL_law 572 = .ok (.if_icmp .eq 1130, 3) := by decide +kernel
theorem dL_law_575 : decode cL_law 575 = .ok (.iconst 0, 1) := by decide +kernel
theorem dL_law_576 : decode cL_law 576 = .ok (.ireturn, 1) := by decide +kernel
theorem dL_law_577 : decode cL_law 577 = .ok (.aload_n 1, 1) := by decide +kernel
theorem dL_law_578 : decode cL_law 578 = .ok (.aload_n 0, 1) := by decide +kernel
theorem dL_law_579 : decode cL_law 579 = .ok (.iload_n 3, 1) := by decide +kernel
theorem dL_law_580 : decode cL_law 580 = .ok (.iconst 1, 1) := by decide +kernel
theorem dL_law_581 : decode cL_law 581 = .ok (.iadd, 1) := by decide +kernel
theorem dL_law_582 : decode cL_law 582 = .ok (.iaload, 1) := by decide +kernel
theorem dL_law_583 : decode cL_law 583 = .ok (.invokevirtual 54, 3) := by decide +kernel
theorem dL_law_586 : decode cL_law 586 = .ok (.aload_n 2, 1) := by decide +kernel
theorem dL_law_587 : decode cL_law 587 = .ok (.aload_n 0, 1) := by decide +kernel
theorem dL_law_588 : decode cL_law 588 = .ok (.iload_n 3, 1) := by decide +kernel
theorem dL_law_589 : decode cL_law 589 = .ok (.iconst 1, 1) := by decide +kernel
theorem dL_law_590 : decode cL_law 590 = .ok (.iadd, 1) := by decide +kernel
theorem dL_law_591 : decode cL_law 591 = .ok (.iaload, 1) := by decide +kernel
theorem dL_law_592 : decode cL_law 592 = .ok (.invokevirtual 58, 3) := by decide +kernel
theorem dL_law_595 : decode cL_law 595 = .ok (.if_icmp .eq 1107, 3) := by decide +kernel
theorem dL_law_598 : decode cL_law 598 = .ok (.iconst 0, 1) := by decide +kernel
theorem dL_law_599 : decode cL_law 599 = .ok (.ireturn, 1) := by decide +kernel
theorem dL_law_600 : decode cL_law 600 = .ok (.aload_n 1, 1) := by decide +kernel
theorem dL_law_601 : decode cL_law 601 = .ok (.aload_n 0, 1) := by decide +kernel
theorem dL_law_602 : decode cL_law 602 = .ok (.iload_n 3, 1) := by decide +kernel
theorem dL_law_603 : decode cL_law 603 = .ok (.iconst 1, 1) := by decide +kernel
theorem dL_law_604 : decode cL_law 604 = .ok (.iadd, 1) := by decide +kernel
theorem dL_law_605 : decode cL_law 605 = .ok (.iaload, 1) := by decide +kernel
theorem dL_law_606 : decode cL_law 606 = .ok (.invokevirtual 59, 3) := by decide +kernel
theorem dL_law_609 : decode cL_law 609 = .ok (.aload_n 2, 1) := by decide +kernel
theorem dL_law_610 : decode cL_law 610 = .ok (.aload_n 0, 1) := by decide +kernel
theorem dL_law_611 : decode cL_law 611 = .ok (.iload_n 3, 1) := by decide +kernel
theorem dL_law_612 : decode cL_law 612 = .ok (.iconst 1, 1) := by decide +kernel
theorem dL_law_613 : decode cL_law 613 = .ok (.iadd, 1) := by decide +kernel
theorem dL_law_614 : decode cL_law 614 = .ok (.iaload, 1) := by decide +kernel
theorem dL_law_615 : decode cL_law 615 = .ok (.invokevirtual 62, 3) := by decide +kernel
theorem dL_law_618 : decode cL_law 618 = .ok (.if_icmp .eq 1084, 3) := by decide +kernel
theorem dL_law_621 : decode cL_law 621 = .ok (.iconst 0, 1) := by decide +kernel
theorem dL_law_622 : decode cL_law 622 = .ok (.ireturn, 1) := by decide +kernel
theorem dL_law_623 : decode cL_law 623 = .ok (.aload_n 1, 1) := by decide +kernel
theorem dL_law_624 : decode cL_law 624 = .ok (.aload_n 0, 1) := by decide +kernel
theorem dL_law_625 : decode cL_law 625 = .ok (.iload_n 3, 1) := by decide +kernel
theorem dL_law_626 : decode cL_law 626 = .ok (.iconst 1, 1) := by decide +kernel
theorem dL_law_627 : decode cL_law 627 = .ok (.iadd, 1) := by decide +kernel
theorem dL_law_628 : decode cL_law 628 = .ok (.iaload, 1) := by decide +kernel
theorem dL_law_629 : decode cL_law 629 = .ok (.invokevirtual 63, 3) := by decide +kernel
theorem dL_law_632 : decode cL_law 632 = .ok (.aload_n 2, 1) := by decide +kernel
theorem dL_law_633 : decode cL_law 633 = .ok (.aload_n 0, 1) := by decide +kernel
theorem dL_law_634 : decode cL_law 634 = .ok (.iload_n 3, 1) := by decide +kernel
theorem dL_law_635 : decode cL_law 635 = .ok (.iconst 1, 1) := by decide +kernel
theorem dL_law_636 : decode cL_law 636 = .ok (.iadd, 1) := by decide +kernel
theorem dL_law_637 : decode cL_law 637 = .ok (.iaload, 1) := by decide +kernel
theorem dL_law_638 : decode cL_law 638 = .ok (.invokevirtual 66, 3) := by decide +kernel
theorem dL_law_641 : decode cL_law 641 = .ok (.if_icmp .eq 1061, 3) := by decide +kernel
theorem dL_law_644 : decode cL_law 644 = .ok (.iconst 0, 1) := by decide +kernel
theorem dL_law_645 : decode cL_law 645 = .ok (.ireturn, 1) := by decide +kernel
theorem dL_law_646 : decode cL_law 646 = .ok (.aload_n 1, 1) := by decide +kernel
theorem dL_law_647 : decode cL_law 647 = .ok (.aload_n 0, 1) := by decide +kernel
theorem dL_law_648 : decode cL_law 648 = .ok (.iload_n 3, 1) := by decide +kernel
theorem dL_law_649 : decode cL_law 649 = .ok (.iconst 1, 1) := by decide +kernel
theorem dL_law_650 : decode cL_law 650 = .ok (.iadd, 1) := by decide +kernel
theorem dL_law_651 : decode cL_law 651 = .ok (.iaload, 1) := by decide +kernel
theorem dL_law_652 : decode cL_law 652 = .ok (.invokevirtual 67, 3) := by decide +kernel
theorem dL_law_655 : decode cL_law 655 = .ok (.aload_n 2, 1) := by decide +kernel
theorem dL_law_656 : decode cL_law 656 = .ok (.aload_n 0, 1) := by decide +kernel
theorem dL_law_657 : decode cL_law 657 = .ok (.iload_n 3, 1) := by decide +kernel
theorem dL_law_658 : decode cL_law 658 = .ok (.iconst 1, 1) := by decide +kernel
theorem dL_law_659 : decode cL_law 659 = .ok (.iadd, 1) := by decide +kernel
theorem dL_law_660 : decode cL_law 660 = .ok (.iaload, 1) := by decide +kernel
theorem dL_law_661 : decode cL_law 661 = .ok (.invokevirtual 70, 3) := by decide +kernel
theorem dL_law_664 : decode cL_law 664 = .ok (.if_icmp .eq 1038, 3) := by decide +kernel
theorem dL_law_667 : decode cL_law 667 = .ok (.iconst 0, 1) := by decide +kernel
theorem dL_law_668 : decode cL_law 668 = .ok (.ireturn, 1) := by decide +kernel
theorem dL_law_669 : decode cL_law 669 = .ok (.aload_n 1, 1) := by decide +kernel
theorem dL_law_670 : decode cL_law 670 = .ok (.aload_n 0, 1) := by decide +kernel
theorem dL_law_671 : decode cL_law 671 = .ok (.iload_n 3, 1) := by decide +kernel
theorem dL_law_672 : decode cL_law 672 = .ok (.iconst 1, 1) := by decide +kernel
theorem dL_law_673 : decode cL_law 673 = .ok (.iadd, 1) := by decide +kernel
theorem dL_law_674 : decode cL_law 674 = .ok (.iaload, 1) := by decide +kernel
theorem dL_law_675 : decode cL_law 675 = .ok (.aload_n 0, 1) := by decide +kernel
theorem dL_law_676 : decode cL_law 676 = .ok (.iload_n 3, 1) := by decide +kernel
theorem dL_law_677 : decode cL_law 677 = .ok (.iconst 2, 1) := by decide +kernel
theorem dL_law_678 : decode cL_law 678 = .ok (.iadd, 1) := by decide +kernel
theorem dL_law_679 : decode cL_law 679 = .ok (.iaload, 1) := by decide +kernel
theorem dL_law_680 : decode cL_law 680 = .ok (.invokevirtual 71, 3) := by decide +kernel
theorem dL_law_683 : decode cL_law 683 = .ok (.aload_n 2, 1) := by decide +kernel
theorem dL_law_684 : decode cL_law 684 = .ok (.aload_n 0, 1) := by decide +kernel
theorem dL_law_685 : decode cL_law 685 = .ok (.iload_n 3, 1) := by decide +kernel
theorem dL_law_686 : decode cL_law 686 = .ok (.iconst 1, 1) := by decide +kernel
theorem dL_law_687 : decode cL_law 687 = .ok (.iadd, 1) := by decide +kernel
theorem dL_law_688 : decode cL_law 688 = .ok (.iaload, 1) := by decide +kernel
theorem dL_law_689 : decode cL_law 689 = .ok (.aload_n 0, 1) := by decide +kernel
theorem dL_law_690 : decode cL_law 690 = .ok (.iload_n 3, 1) := by decide +kernel
theorem dL_law_691 : decode cL_law 691 = .ok (.iconst 2, 1) := by decide +kernel
theorem dL_law_692 : decode cL_law 692 = .ok (.iadd, 1) := by decide +kernel
theorem dL_law_693 : decode cL_law 693 = .ok (.iaload, 1) := by decide +kernel
theorem dL_law_694 : decode cL_law 694 = .ok (.invokevirtual 75, 3) := by decide +kernel
theorem dL_law_697 : decode cL_law 697 = .ok (.if_icmp .eq 1005, 3) := by decide +kernel
theorem dL_law_700 : decode cL_law 700 = .ok (.iconst 0, 1) := by decide +kernel
theorem dL_law_701 : decode cL_law 701 = .ok (.ireturn, 1) := by decide +kernel
theorem dL_law_702 : decode cL_law 702 = .ok (.aload_n 1, 1) := by decide +kernel
theorem dL_law_703 : decode cL_law 703 = .ok (.aload_n 0, 1) := by decide +kernel
theorem dL_law_704 : decode cL_law 704 = .ok (.iload_n 3, 1) := by decide +kernel
theorem dL_law_705 : decode cL_law 705 = .ok (.iconst 1, 1) := by decide +kernel
theorem dL_law_706 : decode cL_law 706 = .ok (.iadd, 1) := by decide +kernel
theorem dL_law_707 : decode cL_law 707 = .ok (.iaload, 1) := by decide +kernel
theorem dL_law_708 : decode cL_law 708 = .ok (.aload_n 0, 1) := by decide +kernel
theorem dL_law_709 : decode cL_law 709 = .ok (.iload_n 3, 1) := by decide +kernel
theorem dL_law_710 : decode cL_law 710 = .ok (.iconst 2, 1) := by decide +kernel
theorem dL_law_711 : decode cL_law 711 = .ok (.iadd, 1) := by decide +kernel
theorem dL_law_712 : decode cL_law 712 = .ok (.iaload, 1) := by decide +kernel
theorem dL_law_713 : decode cL_law 713 = .ok (.invokevirtual 76, 3) := by decide +kernel
theorem dL_law_716 : decode cL_law 716 = .ok (.aload_n 2, 1) := by decide +kernel
theorem dL_law_717 : decode cL_law 717 = .ok (.aload_n 0, 1) := by decide +kernel
theorem dL_law_718 : decode cL_law 718 = .ok (.iload_n 3, 1) := by decide +kernel
theorem dL_law_719 : decode cL_law 719 = .ok (.iconst 1, 1) := by decide +kernel
theorem dL_law_720 : decode cL_law 720 = .ok (.iadd, 1) := by decide +kernel
theorem dL_law_721 : decode cL_law 721 = .ok (.iaload, 1) := by decide +kernel
theorem dL_law_722 : decode cL_law 722 = .ok (.aload_n 0, 1) := by decide +kernel
theorem dL_law_723 : decode cL_law 723 = .ok (.iload_n 3, 1) := by decide +kernel
theorem dL_law_724 : decode cL_law 724 = .ok (.iconst 2, 1) := by decide +kernel
theorem dL_law_725 : decode cL_law 725 = .ok (.iadd, 1) := by decide +kernel
theorem dL_law_726 : decode cL_law 726 = .ok (.iaload, 1) := by decide +kernel
theorem dL_law_727 : decode cL_law 727 = .ok (.invokevirtual 79, 3) := by decide +kernel
theorem dL_law_730 : decode cL_law 730 = .ok (.if_icmp .eq 972, 3) := by decide +kernel
theorem dL_law_733 : decode cL_law 733 = .ok (.iconst 0, 1) := by decide +kernel
theorem dL_law_734 : decode cL_law 734 = .ok (.ireturn, 1) := by decide +kernel
theorem dL_law_735 : decode cL_law 735 = .ok (.aload_n 1, 1) := by decide +kernel
theorem dL_law_736 : decode cL_law 736 = .ok (.aload_n 0, 1) := by decide +kernel
theorem dL_law_737 : decode cL_law 737 = .ok (.iload_n 3, 1) := by decide +kernel
theorem dL_law_738 : decode cL_law 738 = .ok (.iconst 1, 1) := by decide +kernel
theorem dL_law_739 : decode cL_law 739 = .ok (.iadd, 1) := by decide +kernel
theorem dL_law_740 : decode cL_law 740 = .ok (.iaload, 1) := by decide +kernel
theorem dL_law_741 : decode cL_law 741 = .ok (.aload_n 0, 1) := by decide +kernel
theorem dL_law_742 : decode cL_law 742 = .ok (.iload_n 3, 1) := by decide +kernel
theorem dL_law_743 : decode cL_law 743 = .ok (.iconst 2, 1) := by decide +kernel
theorem dL_law_744 : decode cL_law 744 = .ok (.iadd, 1) := by decide +kernel
theorem dL_law_745 : decode cL_law 745 = .ok (.iaload, 1) := by decide +kernel
theorem dL_law_746 : decode cL_law 746 = .ok (.invokevirtual 80, 3) := by decide +kernel
theorem dL_law_749 : decode cL_law 749 = .ok (.aload_n 2, 1) := by decide +kernel
theorem dL_law_750 : decode cL_law 750 = .ok (.aload_n 0, 1) := by decide +kernel
theorem dL_law_751 : decode cL_law 751 = .ok (.iload_n 3, 1) := by decide +kernel
theorem dL_law_752 : decode cL_law 752 = .ok (.iconst 1, 1) := by decide +kernel
theorem dL_law_753 : decode cL_law 753 = .ok (.iadd, 1) := by decide +kernel
theorem dL_law_754 : decode cL_law 754 = .ok (.iaload, 1) := by decide +kernel
theorem dL_law_755 : decode cL_law 755 = .ok (.aload_n 0, 1) := by decide +kernel
theorem dL_law_756 : decode cL_law 756 = .ok (.iload_n 3, 1) := by decide +kernel
theorem dL_law_757 : decode cL_law 757 = .ok (.iconst 2, 1) := by decide +kernel
theorem dL_law_758 : decode cL_law 758 = .ok (.iadd, 1) := by decide +kernel
theorem dL_law_759 : decode cL_law 759 = .ok (.iaload, 1) := by decide +kernel
theorem dL_law_760 : decode cL_law 760 = .ok (.invokevirtual 83, 3) := by decide +kernel
theorem dL_law_763 : decode cL_law 763 = .ok (.if_icmp .eq 939, 3) := by decide +kernel
theorem dL_law_766 : decode cL_law 766 = .ok (.iconst 0, 1) := by decide +kernel
theorem dL_law_767 : decode cL_law 767 = .ok (.ireturn, 1) := by decide +kernel
theorem dL_law_768 : decode cL_law 768 = .ok (.aload_n 1, 1) := by decide +kernel
theorem dL_law_769 : decode cL_law 769 = .ok (.aload_n 0, 1) := by decide +kernel
theorem dL_law_770 : decode cL_law 770 = .ok (.iload_n 3, 1) := by decide +kernel
theorem dL_law_771 : decode cL_law 771 = .ok (.iconst 1, 1) := by decide +kernel
theorem dL_law_772 : decode cL_law 772 = .ok (.iadd, 1) := by decide +kernel
theorem dL_law_773 : decode cL_law 773 = .ok (.iaload, 1) := by decide +kernel
theorem dL_law_774 : decode cL_law 774 = .ok (.aload_n 0, 1) := by decide +kernel
theorem dL_law_775 : decode cL_law 775 = .ok (.iload_n 3, 1) := by decide +kernel
theorem dL_law_776 : decode cL_law 776 = .ok (.iconst 2, 1) := by decide +kernel
theorem dL_law_777 : decode cL_law 777 = .ok (.iadd, 1) := by decide +kernel
theorem dL_law_778 : decode cL_law 778 = .ok (.iaload, 1) := by decide +kernel
theorem dL_law_779 : decode cL_law 779 = .ok (.invokevirtual 84, 3) := by decide +kernel
theorem dL_law_782 : decode cL_law 782 = .ok (.aload_n 2, 1) := by decide +kernel
theorem dL_law_783 : decode cL_law 783 = .ok (.aload_n 0, 1) := by decide +kernel
theorem dL_law_784 : decode cL_law 784 = .ok (.iload_n 3, 1) := by decide +kernel
theorem dL_law_785 : decode cL_law 785 = .ok (.iconst 1, 1) := by decide +kernel
theorem dL_law_786 : decode cL_law 786 = .ok (.iadd, 1) := by decide +kernel
theorem dL_law_787 : decode cL_law 787 = .ok (.iaload, 1) := by decide +kernel
theorem dL_law_788 : decode cL_law 788 = .ok (.aload_n 0, 1) := by decide +kernel
theorem dL_law_789 : decode cL_law 789 = .ok (.iload_n 3, 1) := by decide +kernel
theorem dL_law_790 : decode cL_law 790 = .ok (.iconst 2, 1) := by decide +kernel
theorem dL_law_791 : decode cL_law 791 = .ok (.iadd, 1) := by decide +kernel
theorem dL_law_792 : decode cL_law 792 = .ok (.iaload, 1) := by decide +kernel
theorem dL_law_793 : decode cL_law 793 = .ok (.invokevirtual 87, 3) := by decide +kernel
theorem dL_law_796 : decode cL_law 796 = .ok (.if_icmp .eq 906, 3) := by decide +kernel
theorem dL_law_799 : decode cL_law 799 = .ok (.iconst 0, 1) := by decide +kernel
theorem dL_law_800 : decode cL_law 800 = .ok (.ireturn, 1) := by decide +kernel
theorem dL_law_801 : decode cL_law 801 = .ok (.aload_n 1, 1) := by decide +kernel
theorem dL_law_802 : decode cL_law 802 = .ok (.aload_n 0, 1) := by decide +kernel
theorem dL_law_803 : decode cL_law 803 = .ok (.iload_n 3, 1) := by decide +kernel
theorem dL_law_804 : decode cL_law 804 = .ok (.iconst 1, 1) := by decide +kernel
theorem dL_law_805 : decode cL_law 805 = .ok (.iadd, 1) := by decide +kernel
theorem dL_law_806 : decode cL_law 806 = .ok (.iaload, 1) := by decide +kernel
theorem dL_law_807 : decode cL_law 807 = .ok (.aload_n 0, 1) := by decide +kernel
theorem dL_law_808 : decode cL_law 808 = .ok (.iload_n 3, 1) := by decide +kernel
theorem dL_law_809 : decode cL_law 809 = .ok (.iconst 2, 1) := by decide +kernel
theorem dL_law_810 : decode cL_law 810 = .ok (.iadd, 1) := by decide +kernel
theorem dL_law_811 : decode cL_law 811 = .ok (.iaload, 1) := by decide +kernel
theorem dL_law_812 : decode cL_law 812 = .ok (.invokevirtual 88, 3) := by decide +kernel
theorem dL_law_815 : decode cL_law 815 = .ok (.aload_n 2, 1) := by decide +kernel
theorem dL_law_816 : decode cL_law 816 = .ok (.aload_n 0, 1) := by decide +kernel
theorem dL_law_817 : decode cL_law 817 = .ok (.iload_n 3, 1) := by decide +kernel
theorem dL_law_818 : decode cL_law 818 = .ok (.iconst 1, 1) := by decide +kernel
theorem dL_law_819 : decode cL_law 819 = .ok (.iadd, 1) := by decide +kernel
theorem dL_law_820 : decode cL_law 820 = .ok (.iaload, 1) := by decide +kernel
theorem dL_law_821 : decode cL_law 821 = .ok (.aload_n 0, 1) := by decide +kernel
theorem dL_law_822 : decode cL_law 822 = .ok (.iload_n 3, 1) := by decide +kernel
theorem dL_law_823 : decode cL_law 823 = .ok (.iconst 2, 1) := by decide +kernel
theorem dL_law_824 : decode cL_law 824 = .ok (.iadd, 1) := by decide +kernel
theorem dL_law_825 : decode cL_law 825 = .ok (.iaload, 1) := by decide +kernel
theorem dL_law_826 : decode cL_law 826 = .ok (.invokevirtual 91, 3) := by decide +kernel
theorem dL_law_829 : decode cL_law 829 = .ok (.if_icmp .eq 873, 3) := by decide +kernel
theorem dL_law_832 : decode cL_law 832 = .ok (.iconst 0, 1) := by decide +kernel
theorem dL_law_833 : decode cL_law 833 = .ok (.ireturn, 1) := by decide +kernel
theorem dL_law_834 : decode cL_law 834 = .ok (.aload_n 1, 1) := by decide +kernel
theorem dL_law_835 : decode cL_law 835 = .ok (.aload_n 0, 1) := by decide +kernel
theorem dL_law_836 : decode cL_law 836 = .ok (.iload_n 3, 1) := by decide +kernel
theorem dL_law_837 : decode cL_law 837 = .ok (.iconst 1, 1) := by decide +kernel
theorem dL_law_838 : decode cL_law 838 = .ok (.iadd, 1) := by decide +kernel
theorem dL_law_839 : decode cL_law 839 = .ok (.iaload, 1) := by decide +kernel
theorem dL_law_840 : decode cL_law 840 = .ok (.aload_n 0, 1) := by decide +kernel
theorem dL_law_841 : decode cL_law 841 = .ok (.iload_n 3, 1) := by decide +kernel
theorem dL_law_842 : decode cL_law 842 = .ok (.iconst 2, 1) := by decide +kernel
theorem dL_law_843 : decode cL_law 843 = .ok (.iadd, 1) := by decide +kernel
theorem dL_law_844 : decode cL_law 844 = .ok (.iaload, 1) := by decide +kernel
theorem dL_law_845 : decode cL_law 845 = .ok (.invokevirtual 92, 3) := by decide +kernel
theorem dL_law_848 : decode cL_law 848 = .ok (.aload_n 2, 1) := by decide +kernel
theorem dL_law_849 : decode cL_law 849 = .ok (.aload_n 0, 1) := by decide +kernel
theorem dL_law_850 : decode cL_law 850 = .ok (.iload_n 3, 1) := by decide +kernel
theorem dL_law_851 : decode cL_law 851 = .ok (.iconst 1, 1) := by decide +kernel
theorem dL_law_852 : decode cL_law 852 = .ok (.iadd, 1) := by decide +kernel
theorem dL_law_853 : decode cL_law 853 = .ok (.iaload, 1) := by decide +kernel
theorem dL_law_854 : decode cL_law 854 = .ok (.aload_n 0, 1) := by decide +kernel
theorem dL_law_855 : decode cL_law 855 = .ok (.iload_n 3, 1) := by decide +kernel
theorem dL_law_856 : decode cL_law 856 = .ok (.iconst 2, 1) := by decide +kernel
theorem dL_law_857 : decode cL_law 857 = .ok (.iadd, 1) := by decide +kernel
theorem dL_law_858 : decode cL_law 858 = .ok (.iaload, 1) := by decide +kernel
theorem dL_law_859 : decode cL_law 859 = .ok (.invokevirtual 95, 3) := by decide +kernel
theorem dL_law_862 : decode cL_law 862 = .ok (.if_icmp .eq 840, 3) := by decide +kernel
theorem dL_law_865 : decode cL_law 865 = .ok (.iconst 0, 1) := by decide +kernel
theorem dL_law_866 : decode cL_law 866 = .ok (.ireturn, 1) := by decide +kernel
theorem dL_law_867 : decode cL_law 867 = .ok (.aload_n 1, 1) := by decide +kernel
theorem dL_law_868 : decode cL_law 868 = .ok (.aload_n 0, 1) := by decide +kernel
theorem dL_law_869 : decode cL_law 869 = .ok (.iload_n 3, 1) := by decide +kernel
theorem dL_law_870 : decode cL_law 870 = .ok (.iconst 1, 1) := by decide +kernel
theorem dL_law_871 : decode cL_law 871 = .ok (.iadd, 1) := by decide +kernel
theorem dL_law_872 : decode cL_law 872 = .ok (.iaload, 1) := by decide +kernel
theorem dL_law_873 : decode cL_law 873 = .ok (.invokevirtual 96, 3) := by decide +kernel
theorem dL_law_876 : decode cL_law 876 = .ok (.aload_n 2, 1) := by decide +kernel
theorem dL_law_877 : decode cL_law 877 = .ok (.aload_n 0, 1) := by decide +kernel
theorem dL_law_878 : decode cL_law 878 = .ok (.iload_n 3, 1) := by decide +kernel
theorem dL_law_879 : decode cL_law 879 = .ok (.iconst 1, 1) := by decide +kernel
theorem dL_law_880 : decode cL_law 880 = .ok (.iadd, 1) := by decide +kernel
theorem dL_law_881 : decode cL_law 881 = .ok (.iaload, 1) := by decide +kernel
theorem dL_law_882 : decode cL_law 882 = .ok (.invokevirtual 99, 3) := by decide +kernel
theorem dL_law_885 : decode cL_law 885 = .ok (.if_icmp .eq 817, 3) := by decide +kernel
theorem dL_law_888 : decode cL_law 888 = .ok (.iconst 0, 1) := by decide +kernel
theorem dL_law_889 : decode cL_law 889 = .ok (.ireturn, 1) := by decide +kernel
theorem dL_law_890 : decode cL_law 890 = .ok (.aload_n 1, 1) := by decide +kernel
theorem dL_law_891 : decode cL_law 891 = .ok (.aload_n 0, 1) := by decide +kernel
theorem dL_law_892 : decode cL_law 892 = .ok (.iload_n 3, 1) := by decide +kernel
theorem dL_law_893 : decode cL_law 893 = .ok (.iconst 1, 1) := by decide +kernel
theorem dL_law_894 : decode cL_law 894 = .ok (.iadd, 1) := by decide +kernel
theorem dL_law_895 : decode cL_law 895 = .ok (.iaload, 1) := by decide +kernel
theorem dL_law_896 : decode cL_law 896 = .ok (.aload_n 0, 1) := by decide +kernel
theorem dL_law_897 : decode cL_law 897 = .ok (.iload_n 3, 1) := by decide +kernel
theorem dL_law_898 : decode cL_law 898 = .ok (.iconst 2, 1) := by decide +kernel
theorem dL_law_899 : decode cL_law 899 = .ok (.iadd, 1) := by decide +kernel
theorem dL_law_900 : decode cL_law 900 = .ok (.iaload, 1) := by decide +kernel
theorem dL_law_901 : decode cL_law 901 = .ok (.invokevirtual 100, 3) := by decide +kernel
theorem dL_law_904 : decode cL_law 904 = .ok (.aload_n 2, 1) := by decide +kernel
theorem dL_law_905 : decode cL_law 905 = .ok (.aload_n 0, 1) := by decide +kernel
theorem dL_law_906 : decode cL_law 906 = .ok (.iload_n 3, 1) := by decide +kernel
theorem dL_law_907 : decode cL_law 907 = .ok (.iconst 1, 1) := by decide +kernel
theorem dL_law_908 : decode cL_law 908 = .ok (.iadd, 1) := by decide +kernel
theorem dL_law_909 : decode cL_law 909 = .ok (.iaload, 1) := by decide +kernel
theorem dL_law_910 : decode cL_law 910 = .ok (.aload_n 0, 1) := by decide +kernel
theorem dL_law_911 : decode cL_law 911 = .ok (.iload_n 3, 1) := by decide +kernel
theorem dL_law_912 : decode cL_law 912 = .ok (.iconst 2, 1) := by decide +kernel
theorem dL_law_913 : decode cL_law 913 = .ok (.iadd, 1) := by decide +kernel
theorem dL_law_914 : decode cL_law 914 = .ok (.iaload, 1) := by decide +kernel
theorem dL_law_915 : decode cL_law 915 = .ok (.invokevirtual 103, 3) := by decide +kernel
theorem dL_law_918 : decode cL_law 918 = .ok (.if_icmp .eq 784, 3) := by decide +kernel
theorem dL_law_921 : decode cL_law 921 = .ok (.iconst 0, 1) := by decide +kernel
theorem dL_law_922 : decode cL_law 922 = .ok (.ireturn, 1) := by decide +kernel
theorem dL_law_923 : decode cL_law 923 = .ok (.aload_n 1, 1) := by decide +kernel
theorem dL_law_924 : decode cL_law 924 = .ok (.aload_n 0, 1) := by decide +kernel
theorem dL_law_925 : decode cL_law 925 = .ok (.iload_n 3, 1) := by decide +kernel
theorem dL_law_926 : decode cL_law 926 = .ok (.iconst 1, 1) := by decide +kernel
theorem dL_law_927 : decode cL_law 927 = .ok (.iadd, 1) := by decide +kernel
theorem dL_law_928 : decode cL_law 928 = .ok (.iaload, 1) := by decide +kernel
theorem dL_law_929 : decode cL_law 929 = .ok (.invokevirtual 104, 3) := by decide +kernel
theorem dL_law_932 : decode cL_law 932 = .ok (.aload_n 2, 1) := by decide +kernel
theorem dL_law_933 : decode cL_law 933 = .ok (.aload_n 0, 1) := by decide +kernel
theorem dL_law_934 : decode cL_law 934 = .ok (.iload_n 3, 1) := by decide +kernel
theorem dL_law_935 : decode cL_law 935 = .ok (.iconst 1, 1) := by decide +kernel
theorem dL_law_936 : decode cL_law 936 = .ok (.iadd, 1) := by decide +kernel
theorem dL_law_937 : decode cL_law 937 = .ok (.iaload, 1) := by decide +kernel
theorem dL_law_938 : decode cL_law 938 = .ok (.invokevirtual 108, 3) := by decide +kernel
theorem dL_law_941 : decode cL_law 941 = .ok (.if_icmp .eq 761, 3) := by decide +kernel
theorem dL_law_944 : decode cL_law 944 = .ok (.iconst 0, 1) := by decide +kernel
theorem dL_law_945 : decode cL_law 945 = .ok (.ireturn, 1) := by decide +kernel
theorem dL_law_946 : decode cL_law 946 = .ok (.aload_n 1, 1) := by decide +kernel
theorem dL_law_947 : decode cL_law 947 = .ok (.aload_n 0, 1) := by decide +kernel
theorem dL_law_948 : decode cL_law 948 = .ok (.iload_n 3, 1) := by decide +kernel
theorem dL_law_949 : decode cL_law 949 = .ok (.iconst 1, 1) := by decide +kernel
theorem dL_law_950 : decode cL_law 950 = .ok (.iadd, 1) := by decide +kernel
theorem dL_law_951 : decode cL_law 951 = .ok (.iaload, 1) := by decide +kernel
theorem dL_law_952 : decode cL_law 952 = .ok (.invokevirtual 109, 3) := by decide +kernel
theorem dL_law_955 : decode cL_law 955 = .ok (.aload_n 2, 1) := by decide +kernel
theorem dL_law_956 : decode cL_law 956 = .ok (.aload_n 0, 1) := by decide +kernel
theorem dL_law_957 : decode cL_law 957 = .ok (.iload_n 3, 1) := by decide +kernel
theorem dL_law_958 : decode cL_law 958 = .ok (.iconst 1, 1) := by decide +kernel
theorem dL_law_959 : decode cL_law 959 = .ok (.iadd, 1) := by decide +kernel
theorem dL_law_960 : decode cL_law 960 = .ok (.iaload, 1) := by decide +kernel
theorem dL_law_961 : decode cL_law 961 = .ok (.invokevirtual 112, 3) := by decide +kernel
theorem dL_law_964 : decode cL_law 964 = .ok (.if_icmp .eq 738, 3) := by decide +kernel
theorem dL_law_967 : decode cL_law 967 = .ok (.iconst 0, 1) := by decide +kernel
theorem dL_law_968 : decode cL_law 968 = .ok (.ireturn, 1) := by decide +kernel
theorem dL_law_969 : decode cL_law 969 = .ok (.aload_n 1, 1) := by decide +kernel
theorem dL_law_970 : decode cL_law 970 = .ok (.aload_n 0, 1) := by decide +kernel
theorem dL_law_971 : decode cL_law 971 = .ok (.iload_n 3, 1) := by decide +kernel
theorem dL_law_972 : decode cL_law 972 = .ok (.iconst 1, 1) := by decide +kernel
theorem dL_law_973 : decode cL_law 973 = .ok (.iadd, 1) := by decide +kernel
theorem dL_law_974 : decode cL_law 974 = .ok (.iaload, 1) := by decide +kernel
theorem dL_law_975 : decode cL_law 975 = .ok (.invokevirtual 113, 3) := by decide +kernel
theorem dL_law_978 : decode cL_law 978 = .ok (.aload_n 2, 1) := by decide +kernel
theorem dL_law_979 : decode cL_law 979 = .ok (.aload_n 0, 1) := by decide +kernel
theorem dL_law_980 : decode cL_law 980 = .ok (.iload_n 3, 1) := by decide +kernel
theorem dL_law_981 : decode cL_law 981 = .ok (.iconst 1, 1) := by decide +kernel
theorem dL_law_982 : decode cL_law 982 = .ok (.iadd, 1) := by decide +kernel
theorem dL_law_983 : decode cL_law 983 = .ok (.iaload, 1) := by decide +kernel
theorem dL_law_984 : decode cL_law 984 = .ok (.invokevirtual 116, 3) := by decide +kernel
theorem dL_law_987 : decode cL_law 987 = .ok (.if_icmp .eq 715, 3) := by decide +kernel
theorem dL_law_990 : decode cL_law 990 = .ok (.iconst 0, 1) := by decide +kernel
theorem dL_law_991 : decode cL_law 991 = .ok (.ireturn, 1) := by decide +kernel
theorem dL_law_992 : decode cL_law 992 = .ok (.aload_n 1, 1) := by decide +kernel
theorem dL_law_993 : decode cL_law 993 = .ok (.invokevirtual 117, 3) := by decide +kernel
theorem dL_law_996 : decode cL_law 996 = .ok (.aload_n 2, 1) := by decide +kernel
theorem dL_law_997 : decode cL_law 997 = .ok (.invokevirtual 120, 3) := by decide +kernel
theorem dL_law_1000 : decode cL_law 1000 = .ok (.if_icmp .eq 702, 3) := by decide +kernel
theorem dL_law_1003 : decode cL_law 1003 = .ok (.iconst 0, 1) := by decide +kernel
theorem dL_law_1004 : decode cL_law 1004 = .ok (.ireturn, 1) := by decide +kernel
theorem dL_law_1005 : decode cL_law 1005 = .ok (.aload_n 1, 1) := by decide +kernel
theorem dL_law_1006 : decode cL_law 1006 = .ok (.aload_n 0, 1) := by decide +kernel
theorem dL_law_1007 : decode cL_law 1007 = .ok (.iload_n 3, 1) := by decide +kernel
theorem dL_law_1008 : decode cL_law 1008 = .ok (.iconst 1, 1) := by decide +kernel
theorem dL_law_1009 : decode cL_law 1009 = .ok (.iadd, 1) := by decide +kernel
theorem dL_law_1010 : decode cL_law 1010 = .ok (.iaload, 1) := by decide +kernel
theorem dL_law_1011 : decode cL_law 1011 = .ok (.aload_n 0, 1) := by decide +kernel
theorem dL_law_1012 : decode cL_law 1012 = .ok (.iload_n 3, 1) := by decide +kernel
theorem dL_law_1013 : decode cL_law 1013 = .ok (.iconst 2, 1) := by decide +kernel
theorem dL_law_1014 : decode cL_law 1014 = .ok (.iadd, 1) := by decide +kernel
theorem dL_law_1015 : decode cL_law 1015 = .ok (.iaload, 1) := by decide +kernel
theorem dL_law_1016 : decode cL_law 1016 = .ok (.aload_n 0, 1) := by decide +kernel
theorem dL_law_1017 : decode cL_law 1017 = .ok (.iload_n 3, 1) := by decide +kernel
theorem dL_law_1018 : decode cL_law 1018 = .ok (.iconst 3, 1) := by decide +kernel
theorem dL_law_1019 : decode cL_law 1019 = .ok (.iadd, 1) := by decide +kernel
theorem dL_law_1020 : decode cL_law 1020 = .ok (.iaload, 1) := by decide +kernel
theorem dL_law_1021 : decode cL_law 1021 = .ok (.invokevirtual 121, 3) := by decide +kernel
theorem dL_law_1024 : decode cL_law 1024 = .ok (.aload_n 2, 1) := by decide +kernel
theorem dL_law_1025 : decode cL_law 1025 = .ok (.aload_n 0, 1) := by decide +kernel
theorem dL_law_1026 : decode cL_law 1026 = .ok (.iload_n 3, 1) := by decide +kernel
theorem dL_law_1027 : decode cL_law 1027 = .ok (.iconst 1, 1) := by decide +kernel
theorem dL_law_1028 : decode cL_law 1028 = .ok (.iadd, 1) := by decide +kernel
theorem dL_law_1029 : decode cL_law 1029 = .ok (.iaload, 1) := by decide +kernel
theorem dL_law_1030 : decode cL_law 1030 = .ok (.aload_n 0, 1) := by decide +kernel
theorem dL_law_1031 : decode cL_law 1031 = .ok (.iload_n 3, 1) := by decide +kernel
theorem dL_law_1032 : decode cL_law 1032 = .ok (.iconst 2, 1) := by decide +kernel
theorem dL_law_1033 : decode cL_law 1033 = .ok (.iadd, 1) := by decide +kernel
theorem dL_law_1034 : decode cL_law 1034 = .ok (.iaload, 1) := by decide +kernel
theorem dL_law_1035 : decode cL_law 1035 = .ok (.aload_n 0, 1) := by decide +kernel
theorem dL_law_1036 : decode cL_law 1036 = .ok (.iload_n 3, 1) := by decide +kernel
theorem dL_law_1037 : decode cL_law 1037 = .ok (.iconst 3, 1) := by decide +kernel
theorem dL_law_1038 : decode cL_law 1038 = .ok (.iadd, 1) := by decide +kernel
theorem dL_law_1039 : decode cL_law 1039 = .ok (.iaload, 1) := by decide +kernel
theorem dL_law_1040 : decode cL_law 1040 = .ok (.invokevirtual 125, 3) := by decide +kernel
theorem dL_law_1043 : decode cL_law 1043 = .ok (.if_icmp .eq 659, 3) := by decide +kernel
theorem dL_law_1046 : decode cL_law 1046 = .ok (.iconst 0, 1) := by decide +kernel
theorem dL_law_1047 : decode cL_law 1047 = .ok (.ireturn, 1) := by decide +kernel
theorem dL_law_1048 : decode cL_law 1048 = .ok (.aload_n 1, 1) := by decide +kernel
theorem dL_law_1049 : decode cL_law 1049 = .ok (.aload_n 0, 1) := by decide +kernel
theorem dL_law_1050 : decode cL_law 1050 = .ok (.iload_n 3, 1) := by decide +kernel
theorem dL_law_1051 : decode cL_law 1051 = .ok (.iconst 1, 1) := by decide +kernel
theorem dL_law_1052 : decode cL_law 1052 = .ok (.iadd, 1) := by decide +kernel
theorem dL_law_1053 : decode cL_law 1053 = .ok (.iaload, 1) := by decide +kernel
theorem dL_law_1054 : decode cL_law 1054 = .ok (.invokevirtual 126, 3) := by decide +kernel
theorem dL_law_1057 : decode cL_law 1057 = .ok (.aload_n 2, 1) := by decide +kernel
theorem dL_law_1058 : decode cL_law 1058 = .ok (.aload_n 0, 1) := by decide +kernel
theorem dL_law_1059 : decode cL_law 1059 = .ok (.iload_n 3, 1) := by decide +kernel
theorem dL_law_1060 : decode cL_law 1060 = .ok (.iconst 1, 1) := by decide +kernel
theorem dL_law_1061 : decode cL_law 1061 = .ok (.iadd, 1) := by decide +kernel
theorem dL_law_1062 : decode cL_law 1062 = .ok (.iaload, 1) := by decide +kernel
theorem dL_law_1063 : decode cL_law 1063 = .ok (.invokevirtual 129, 3) := by decide +kernel
theorem dL_law_1066 : decode cL_law 1066 = .ok (.if_icmp .eq 636, 3) := by decide +kernel
theorem dL_law_1069 : decode cL_law 1069 = .ok (.iconst 0, 1) := by decide +kernel
theorem dL_law_1070 : decode cL_law 1070 = .ok (.ireturn, 1) := by decide +kernel
theorem dL_law_1071 : decode cL_law 1071 = .ok (.aload_n 1, 1) := by decide +kernel
theorem dL_law_1072 : decode cL_law 1072 = .ok (.aload_n 0, 1) := by decide +kernel
theorem dL_law_1073 : decode cL_law 1073 = .ok (.iload_n 3, 1) := by decide +kernel
theorem dL_law_1074 : decode cL_law 1074 = .ok (.iconst 1, 1) := by decide +kernel
theorem dL_law_1075 : decode cL_law 1075 = .ok (.iadd, 1) := by decide +kernel
theorem dL_law_1076 : decode cL_law 1076 = .ok (.iaload, 1) := by decide +kernel
theorem dL_law_1077 : decode cL_law 1077 = .ok (.invokevirtual 130, 3) := by decide +kernel
theorem dL_law_1080 : decode cL_law 1080 = .ok (.aload_n 2, 1) := by decide +kernel
theorem dL_law_1081 : decode cL_law 1081 = .ok (.aload_n 0, 1) := by decide +kernel
theorem dL_law_1082 : decode cL_law 1082 = .ok (.iload_n 3, 1) := by decide +kernel
theorem dL_law_1083 : decode cL_law 1083 = .ok (.iconst 1, 1) := by decide +kernel
theorem dL_law_1084 : decode cL_law 1084 = .ok (.iadd, 1) := by decide +kernel
theorem dL_law_1085 : decode cL_law 1085 = .ok (.iaload, 1) := by decide +kernel
theorem dL_law_1086 : decode cL_law 1086 = .ok (.invokevirtual 133, 3) := by decide +kernel
theorem dL_law_1089 : decode cL_law 1089 = .ok (.if_icmp .eq 613, 3) := by decide +kernel
theorem dL_law_1092 : decode cL_law 1092 = .ok (.iconst 0, 1) := by decide +kernel
theorem dL_law_1093 : decode cL_law 1093 = .ok (.ireturn, 1) := by decide +kernel
theorem dL_law_1094 : decode cL_law 1094 = .ok (.aload_n 1, 1) := by decide +kernel
theorem dL_law_1095 : decode cL_law 1095 = .ok (.invokevirtual 134, 3) := by decide +kernel
theorem dL_law_1098 : decode cL_law 1098 = .ok (.aload_n 2, 1) := by decide +kernel
theorem dL_law_1099 : decode cL_law 1099 = .ok (.invokevirtual 138, 3) := by decide +kernel
theorem dL_law_1102 : decode cL_law 1102 = .ok (.if_icmp .eq 600, 3) := by decide +kernel
theorem dL_law_1105 : decode cL_law 1105 = .ok (.iconst 0, 1) := by decide +kernel
theorem dL_law_1106 : decode cL_law 1106 = .ok (.ireturn, 1) := by decide +kernel
theorem dL_law_1107 : decode cL_law 1107 = .ok (.aload_n 1, 1) := by decide +kernel
theorem dL_law_1108 : decode cL_law 1108 = .ok (.aload_n 0, 1) := by decide +kernel
theorem dL_law_1109 : decode cL_law 1109 = .ok (.iload_n 3, 1) := by decide +kernel
theorem dL_law_1110 : decode cL_law 1110 = .ok (.iconst 1, 1) := by decide +kernel
theorem dL_law_1111 : decode cL_law 1111 = .ok (.iadd, 1) := by decide +kernel
theorem dL_law_1112 : decode cL_law 1112 = .ok (.iaload, 1) := by decide +kernel
theorem dL_law_1113 : decode cL_law 1113 = .ok (.aload_n 0, 1) := by decide +kernel
theorem dL_law_1114 : decode cL_law 1114 = .ok (.iload_n 3, 1) := by decide +kernel
theorem dL_law_1115 : decode cL_law 1115 = .ok (.iconst 2, 1) := by decide +kernel
theorem dL_law_1116 : decode cL_law 1116 = .ok (.iadd, 1) := by decide +kernel
theorem dL_law_1117 : decode cL_law 1117 = .ok (.iaload, 1) := by decide +kernel
theorem dL_law_1118 : decode cL_law 1118 = .ok (.invokevirtual 139, 3) := by decide +kernel
theorem dL_law_1121 : decode cL_law 1121 = .ok (.aload_n 2, 1) := by decide +kernel
theorem dL_law_1122 : decode cL_law 1122 = .ok (.aload_n 0, 1) := by decide +kernel
theorem dL_law_1123 : decode cL_law 1123 = .ok (.iload_n 3, 1) := by decide +kernel
theorem dL_law_1124 : decode cL_law 1124 = .ok (.iconst 1, 1) := by decide +kernel
theorem dL_law_1125 : decode cL_law 1125 = .ok (.iadd, 1) := by decide +kernel
theorem dL_law_1126 : decode cL_law 1126 = .ok (.iaload, 1) := by decide +kernel
theorem dL_law_1127 : decode cL_law 1127 = .ok (.aload_n 0, 1) := by decide +kernel
theorem dL_law_1128 : decode cL_law 1128 = .ok (.iload_n 3, 1) := by decide +kernel
theorem dL_law_1129 : decode cL_law 1129 = .ok (.iconst 2, 1) := by decide +kernel
theorem dL_law_1130 : decode cL_law 1130 = .ok (.iadd, 1) := by decide +kernel
theorem dL_law_1131 : decode cL_law 1131 = .ok (.iaload, 1) := by decide +kernel
theorem dL_law_1132 : decode cL_law 1132 = .ok (.invokevirtual 143, 3) := by decide +kernel
theorem dL_law_1135 : decode cL_law 1135 = .ok (.if_icmp .eq 567, 3) := by decide +kernel
theorem dL_law_1138 : decode cL_law 1138 = .ok (.iconst 0, 1) := by decide +kernel
theorem dL_law_1139 : decode cL_law 1139 = .ok (.ireturn, 1) := by decide +kernel
theorem dL_law_1140 : decode cL_law 1140 = .ok (.aload_n 1, 1) := by decide +kernel
theorem dL_law_1141 : decode cL_law 1141 = .ok (.invokevirtual 144, 3) := by decide +kernel
theorem dL_law_1144 : decode cL_law 1144 = .ok (.aload_n 2, 1) := by decide +kernel
theorem dL_law_1145 : decode cL_law 1145 = .ok (.invokevirtual 147, 3) := by decide +kernel
theorem dL_law_1148 : decode cL_law 1148 = .ok (.if_icmp .eq 554, 3) := by decide +kernel
theorem dL_law_1151 : decode cL_law 1151 = .ok (.iconst 0, 1) := by decide +kernel
theorem dL_law_1152 : decode cL_law 1152 = .ok (.ireturn, 1) := by decide +kernel
theorem dL_law_1153 : decode cL_law 1153 = .ok (.aload_n 1, 1) := by decide +kernel
theorem dL_law_1154 : decode cL_law 1154 = .ok (.invokevirtual 148, 3) := by decide +kernel
theorem dL_law_1157 : decode cL_law 1157 = .ok (.aload_n 2, 1) := by decide +kernel
theorem dL_law_1158 : decode cL_law 1158 = .ok (.invokevirtual 151, 3) := by decide +kernel
theorem dL_law_1161 : decode cL_law 1161 = .ok (.if_icmp .eq 541, 3) := by decide +kernel
theorem dL_law_1164 : decode cL_law 1164 = .ok (.iconst 0, 1) := by decide +kernel
theorem dL_law_1165 : decode cL_law 1165 = .ok (.ireturn, 1) := by decide +kernel
theorem dL_law_1166 : decode cL_law 1166 = .ok (.aload_n 1, 1) := by decide +kernel
theorem dL_law_1167 : decode cL_law 1167 = .ok (.aload_n 0, 1) := by decide +kernel
theorem dL_law_1168 : decode cL_law 1168 = .ok (.iload_n 3, 1) := by decide +kernel
theorem dL_law_1169 : decode cL_law 1169 = .ok (.iconst 1, 1) := by decide +kernel
theorem dL_law_1170 : decode cL_law 1170 = .ok (.iadd, 1) := by decide +kernel
theorem dL_law_1171 : decode cL_law 1171 = .ok (.iaload, 1) := by decide +kernel
theorem dL_law_1172 : decode cL_law 1172 = .ok (.aload_n 0, 1) := by decide +kernel
theorem dL_law_1173 : decode cL_law 1173 = .ok (.iload_n 3, 1) := by decide +kernel
theorem dL_law_1174 : decode cL_law 1174 = .ok (.iconst 2, 1) := by decide +kernel
theorem dL_law_1175 : decode cL_law 1175 = .ok (.iadd, 1) := by decide +kernel
theorem dL_law_1176 : decode cL_law 1176 = .ok (.iaload, 1) := by decide +kernel
theorem dL_law_1177 : decode cL_law 1177 = .ok (.invokevirtual 152, 3) := by decide +kernel
theorem dL_law_1180 : decode cL_law 1180 = .ok (.aload_n 2, 1) := by decide +kernel
theorem dL_law_1181 : decode cL_law 1181 = .ok (.aload_n 0, 1) := by decide +kernel
theorem dL_law_1182 : decode cL_law 1182 = .ok (.iload_n 3, 1) := by decide +kernel
theorem dL_law_1183 : decode cL_law 1183 = .ok (.iconst 1, 1) := by decide +kernel
theorem dL_law_1184 : decode cL_law 1184 = .ok (.iadd, 1) := by decide +kernel
theorem dL_law_1185 : decode cL_law 1185 = .ok (.iaload, 1) := by decide +kernel
theorem dL_law_1186 : decode cL_law 1186 = .ok (.aload_n 0, 1) := by decide +kernel
theorem dL_law_1187 : decode cL_law 1187 = .ok (.iload_n 3, 1) := by decide +kernel
theorem dL_law_1188 : decode cL_law 1188 = .ok (.iconst 2, 1) := by decide +kernel
theorem dL_law_1189 : decode cL_law 1189 = .ok (.iadd, 1) := by decide +kernel
theorem dL_law_1190 : decode cL_law 1190 = .ok (.iaload, 1) := by decide +kernel
theorem dL_law_1191 : decode cL_law 1191 = .ok (.invokevirtual 155, 3) := by decide +kernel
theorem dL_law_1194 : decode cL_law 1194 = .ok (.if_icmp .eq 508, 3) := by decide +kernel
theorem dL_law_1197 : decode cL_law 1197 = .ok (.iconst 0, 1) := by decide +kernel
theorem dL_law_1198 : decode cL_law 1198 = .ok (.ireturn, 1) := by decide +kernel
theorem dL_law_1199 : decode cL_law 1199 = .ok (.aload_n 1, 1) := by decide +kernel
theorem dL_law_1200 : decode cL_law 1200 = .ok (.invokevirtual 156, 3) := by decide +kernel
theorem dL_law_1203 : decode cL_law 1203 = .ok (.aload_n 2, 1) := by decide +kernel
theorem dL_law_1204 : decode cL_law 1204 = .ok (.invokevirtual 159, 3) := by decide +kernel
theorem dL_law_1207 : decode cL_law 1207 = .ok (.if_icmp .eq 495, 3) := by decide +kernel
theorem dL_law_1210 : decode cL_law 1210 = .ok (.iconst 0, 1) := by decide +kernel
theorem dL_law_1211 : decode cL_law 1211 = .ok (.ireturn, 1) := by decide +kernel
theorem dL_law_1212 : decode cL_law 1212 = .ok (.aload_n 1, 1) := by decide +kernel
theorem dL_law_1213 : decode cL_law 1213 = .ok (.aload_n 0, 1) := by decide +kernel
theorem dL_law_1214 : decode cL_law 1214 = .ok (.iload_n 3, 1) := by decide +kernel
theorem dL_law_1215 : decode cL_law 1215 = .ok (.iconst 1, 1) := by decide +kernel
theorem dL_law_1216 : decode cL_law 1216 = .ok (.iadd, 1) := by decide +kernel
theorem dL_law_1217 : decode cL_law 1217 = .ok (.iaload, 1) := by decide +kernel
theorem dL_law_1218 : decode cL_law 1218 = .ok (.aload_n 0, 1) := by decide +kernel
theorem dL_law_1219 : decode cL_law 1219 = .ok (.iload_n 3, 1) := by decide +kernel
theorem dL_law_1220 : decode cL_law 1220 = .ok (.iconst 2, 1) := by decide +kernel
theorem dL_law_1221 : decode cL_law 1221 = .ok (.iadd, 1) := by decide +kernel
theorem dL_law_1222 : decode cL_law 1222 = .ok (.iaload, 1) := by decide +kernel
theorem dL_law_1223 : decode cL_law 1223 = .ok (.invokevirtual 160, 3) := by decide +kernel
theorem dL_law_1226 : decode cL_law 1226 = .ok (.aload_n 2, 1) := by decide +kernel
theorem dL_law_1227 : decode cL_law 1227 = .ok (.aload_n 0, 1) := by decide +kernel
theorem dL_law_1228 : decode cL_law 1228 = .ok (.iload_n 3, 1) := by decide +kernel
theorem dL_law_1229 : decode cL_law 1229 = .ok (.iconst 1, 1) := by decide +kernel
theorem dL_law_1230 : decode cL_law 1230 = .ok (.iadd, 1) := by decide +kernel
theorem dL_law_1231 : decode cL_law 1231 = .ok (.iaload, 1) := by decide +kernel
theorem dL_law_1232 : decode cL_law 1232 = .ok (.aload_n 0, 1) := by decide +kernel
theorem dL_law_1233 : decode cL_law 1233 = .ok (.iload_n 3, 1) := by decide +kernel
theorem dL_law_1234 : decode cL_law 1234 = .ok (.iconst 2, 1) := by decide +kernel
theorem dL_law_1235 : decode cL_law 1235 = .ok (.iadd, 1) := by decide +kernel
theorem dL_law_1236 : decode cL_law 1236 = .ok (.iaload, 1) := by decide +kernel
theorem dL_law_1237 : decode cL_law 1237 = .ok (.invokevirtual 163, 3) := by decide +kernel
theorem dL_law_1240 : decode cL_law 1240 = .ok (.if_icmp .eq 462, 3) := by decide +kernel
theorem dL_law_1243 : decode cL_law 1243 = .ok (.iconst 0, 1) := by decide +kernel
theorem dL_law_1244 : decode cL_law 1244 = .ok (.ireturn, 1) := by decide +kernel
theorem dL_law_1245 : decode cL_law 1245 = .ok (.aload_n 1, 1) := by decide +kernel
theorem dL_law_1246 : decode cL_law 1246 = .ok (.aload_n 0, 1) := by decide +kernel
theorem dL_law_1247 : decode cL_law 1247 = .ok (.iload_n 3, 1) := by decide +kernel
theorem dL_law_1248 : decode cL_law 1248 = .ok (.iconst 1, 1) := by decide +kernel
theorem dL_law_1249 : decode cL_law 1249 = .ok (.iadd, 1) := by decide +kernel
theorem dL_law_1250 : decode cL_law 1250 = .ok (.iaload, 1) := by decide +kernel
theorem dL_law_1251 : decode cL_law 1251 = .ok (.invokevirtual 164, 3) := by decide +kernel
theorem dL_law_1254 : decode cL_law 1254 = .ok (.aload_n 2, 1) := by decide +kernel
theorem dL_law_1255 : decode cL_law 1255 = .ok (.aload_n 0, 1) := by decide +kernel
theorem dL_law_1256 : decode cL_law 1256 = .ok (.iload_n 3, 1) := by decide +kernel
theorem dL_law_1257 : decode cL_law 1257 = .ok (.iconst 1, 1) := by decide +kernel
theorem dL_law_1258 : decode cL_law 1258 = .ok (.iadd, 1) := by decide +kernel
theorem dL_law_1259 : decode cL_law 1259 = .ok (.iaload, 1) := by decide +kernel
theorem dL_law_1260 : decode cL_law 1260 = .ok (.invokevirtual 167, 3) := by decide +kernel
theorem dL_law_1263 : decode cL_law 1263 = .ok (.if_icmp .eq 439, 3) := by decide +kernel
theorem dL_law_1266 : decode cL_law 1266 = .ok (.iconst 0, 1) := by decide +kernel
theorem dL_law_1267 : decode cL_law 1267 = .ok (.ireturn, 1) := by decide +kernel
theorem dL_law_1268 : decode cL_law 1268 = .ok (.aload_n 1, 1) := by decide +kernel
theorem dL_law_1269 : decode cL_law 1269 = .ok (.aload_n 0, 1) := by decide +kernel
theorem dL_law_1270 : decode cL_law 1270 = .ok (.iload_n 3, 1) := by decide +kernel
theorem dL_law_1271 : decode cL_law 1271 = .ok (.iconst 1, 1) := by decide +kernel
theorem dL_law_1272 : decode cL_law 1272 = .ok (.iadd, 1) := by decide +kernel
theorem dL_law_1273 : decode cL_law 1273 = .ok (.iaload, 1) := by decide +kernel
theorem dL_law_1274 : decode cL_law 1274 = .ok (.invokevirtual 168, 3) := by decide +kernel
theorem dL_law_1277 : decode cL_law 1277 = .ok (.aload_n 2, 1) := by decide +kernel
theorem dL_law_1278 : decode cL_law 1278 = .ok (.aload_n 0, 1) := by decide +kernel
theorem dL_law_1279 : decode cL_law 1279 = .ok (.iload_n 3, 1) := by decide +kernel
theorem dL_law_1280 : decode cL_law 1280 = .ok (.iconst 1, 1) := by decide +kernel
theorem dL_law_1281 : decode cL_law 1281 = .ok (.iadd, 1) := by decide +kernel
theorem dL_law_1282 : decode cL_law 1282 = .ok (.iaload, 1) := by decide +kernel
theorem dL_law_1283 : decode cL_law 1283 = .ok (.invokevirtual 171, 3) := by decide +kernel
theorem dL_law_1286 : decode cL_law 1286 = .ok (.if_icmp .eq 416, 3) := by decide +kernel
theorem dL_law_1289 : decode cL_law 1289 = .ok (.iconst 0, 1) := by decide +kernel
theorem dL_law_1290 : decode cL_law 1290 = .ok (.ireturn, 1) := by decide +kernel
theorem dL_law_1291 : decode cL_law 1291 = .ok (.aload_n 1, 1) := by decide +kernel
theorem dL_law_1292 : decode cL_law 1292 = .ok (.invokevirtual 172, 3) := by decide +kernel
theorem dL_law_1295 : decode cL_law 1295 = .ok (.aload_n 2, 1) := by decide +kernel
theorem dL_law_1296 : decode cL_law 1296 = .ok (.invokevirtual 175, 3) := by decide +kernel
theorem dL_law_1299 : decode cL_law 1299 = .ok (.if_icmp .eq 403, 3) := by decide +kernel
theorem dL_law_1302 : decode cL_law 1302 = .ok (.iconst 0, 1) := by decide +kernel
theorem dL_law_1303 : decode cL_law 1303 = .ok (.ireturn, 1) := by decide +kernel
theorem dL_law_1304 : decode cL_law 1304 = .ok (.aload_n 1, 1) := by decide +kernel
theorem dL_law_1305 : decode cL_law 1305 = .ok (.aload_n 0, 1) := by decide +kernel
theorem dL_law_1306 : decode cL_law 1306 = .ok (.iload_n 3, 1) := by decide +kernel
theorem dL_law_1307 : decode cL_law 1307 = .ok (.iconst 1, 1) := by decide +kernel
theorem dL_law_1308 : decode cL_law 1308 = .ok (.iadd, 1) := by decide +kernel
theorem dL_law_1309 : decode cL_law 1309 = .ok (.iaload, 1) := by decide +kernel
theorem dL_law_1310 : decode cL_law 1310 = .ok (.aload_n 0, 1) := by decide +kernel
theorem dL_law_1311 : decode cL_law 1311 = .ok (.iload_n 3, 1) := by decide +kernel
theorem dL_law_1312 : decode cL_law 1312 = .ok (.iconst 2, 1) := by decide +kernel
theorem dL_law_1313 : decode cL_law 1313 = .ok (.iadd, 1) := by decide +kernel
theorem dL_law_1314 : decode cL_law 1314 = .ok (.iaload, 1) := by decide +kernel
theorem dL_law_1315 : decode cL_law 1315 = .ok (.aload_n 0, 1) := by decide +kernel
theorem dL_law_1316 : decode cL_law 1316 = .ok (.iload_n 3, 1) := by decide +kernel
theorem dL_law_1317 : decode cL_law 1317 = .ok (.iconst 3, 1) := by decide +kernel
theorem dL_law_1318 : decode cL_law 1318 = .ok (.iadd, 1) := by decide +kernel
theorem dL_law_1319 : decode cL_law 1319 = .ok (.iaload, 1) := by decide +kernel
theorem dL_law_1320 : decode cL_law 1320 = .ok (.invokevirtual 176, 3) := by decide +kernel
theorem dL_law_1323 : decode cL_law 1323 = .ok (.aload_n 2, 1) := by decide +kernel
theorem dL_law_1324 : decode cL_law 1324 = .ok (.aload_n 0, 1) := by decide +kernel
theorem dL_law_1325 : decode cL_law 1325 = .ok (.iload_n 3, 1) := by decide +kernel
theorem dL_law_1326 : decode cL_law 1326 = .ok (.iconst 1, 1) := by decide +kernel
theorem dL_law_1327 : decode cL_law 1327 = .ok (.iadd, 1) := by decide +kernel
theorem dL_law_1328 : decode cL_law 1328 = .ok (.iaload, 1) := by decide +kernel
theorem dL_law_1329 : decode cL_law 1329 = .ok (.aload_n 0, 1) := by decide +kernel
theorem dL_law_1330 : decode cL_law 1330 = .ok (.iload_n 3, 1) := by decide +kernel
theorem dL_law_1331 : decode cL_law 1331 = .ok (.iconst 2, 1) := by decide +kernel
theorem dL_law_1332 : decode cL_law 1332 = .ok (.iadd, 1) := by decide +kernel
theorem dL_law_1333 : decode cL_law 1333 = .ok (.iaload, 1) := by decide +kernel
theorem dL_law_1334 : decode cL_law 1334 = .ok (.aload_n 0, 1) := by decide +kernel
theorem dL_law_1335 : decode cL_law 1335 = .ok (.iload_n 3, 1) := by decide +kernel
theorem dL_law_1336 : decode cL_law 1336 = .ok (.iconst 3, 1) := by decide +kernel
theorem dL_law_1337 : decode cL_law 1337 = .ok (.iadd, 1) := by decide +kernel
theorem dL_law_1338 : decode cL_law 1338 = .ok (.iaload, 1) := by decide +kernel
theorem dL_law_1339 : decode cL_law 1339 = .ok (.invokevirtual 179, 3) := by decide +kernel
theorem dL_law_1342 : decode cL_law 1342 = .ok (.if_icmp .eq 360, 3) := by decide +kernel
theorem dL_law_1345 : decode cL_law 1345 = .ok (.iconst 0, 1) := by decide +kernel
theorem dL_law_1346 : decode cL_law 1346 = .ok (.ireturn, 1) := by decide +kernel
theorem dL_law_1347 : decode cL_law 1347 = .ok (.aload_n 1, 1) := by decide +kernel
theorem dL_law_1348 : decode cL_law 1348 = .ok (.aload_n 0, 1) := by decide +kernel
theorem dL_law_1349 : decode cL_law 1349 = .ok (.iload_n 3, 1) := by decide +kernel
theorem dL_law_1350 : decode cL_law 1350 = .ok (.iconst 1, 1) := by decide +kernel
theorem dL_law_1351 : decode cL_law 1351 = .ok (.iadd, 1) := by decide +kernel
theorem dL_law_1352 : decode cL_law 1352 = .ok (.iaload, 1) := by decide +kernel
theorem dL_law_1353 : decode cL_law 1353 = .ok (.aload_n 0, 1) := by decide +kernel
theorem dL_law_1354 : decode cL_law 1354 = .ok (.iload_n 3, 1) := by decide +kernel
theorem dL_law_1355 : decode cL_law 1355 = .ok (.iconst 2, 1) := by decide +kernel
theorem dL_law_1356 : decode cL_law 1356 = .ok (.iadd, 1) := by decide +kernel
theorem dL_law_1357 : decode cL_law 1357 = .ok (.iaload, 1) := by decide +kernel
theorem dL_law_1358 : decode cL_law 1358 = .ok (.aload_n 0, 1) := by decide +kernel
theorem dL_law_1359 : decode cL_law 1359 = .ok (.iload_n 3, 1) := by decide +kernel
theorem dL_law_1360 : decode cL_law 1360 = .ok (.iconst 3, 1) := by decide +kernel
theorem dL_law_1361 : decode cL_law 1361 = .ok (.iadd, 1) := by decide +kernel
theorem dL_law_1362 : decode cL_law 1362 = .ok (.iaload, 1) := by decide +kernel
theorem dL_law_1363 : decode cL_law 1363 = .ok (.invokevirtual 180, 3) := by decide +kernel
theorem dL_law_1366 : decode cL_law 1366 = .ok (.aload_n 2, 1) := by decide +kernel
theorem dL_law_1367 : decode cL_law 1367 = .ok (.aload_n 0, 1) := by decide +kernel
theorem dL_law_1368 : decode cL_law 1368 = .ok (.iload_n 3, 1) := by decide +kernel
theorem dL_law_1369 : decode cL_law 1369 = .ok (.iconst 1, 1) := by decide +kernel
theorem dL_law_1370 : decode cL_law 1370 = .ok (.iadd, 1) := by decide +kernel
theorem dL_law_1371 : decode cL_law 1371 = .ok (.iaload, 1) := by decide +kernel
theorem dL_law_1372 : decode cL_law 1372 = .ok (.aload_n 0, 1) := by decide +kernel
theorem dL_law_1373 : decode cL_law 1373 = .ok (.iload_n 3, 1) := by decide +kernel
theorem dL_law_1374 : decode cL_law 1374 = .ok (.iconst 2, 1) := by decide +kernel
theorem dL_law_1375 : decode cL_law 1375 = .ok (.iadd, 1) := by decide +kernel
theorem dL_law_1376 : decode cL_law 1376 = .ok (.iaload, 1) := by decide +kernel
theorem dL_law_1377 : decode cL_law 1377 = .ok (.aload_n 0, 1) := by decide +kernel
theorem dL_law_1378 : decode cL_law 1378 = .ok (.iload_n 3, 1) := by decide +kernel
theorem dL_law_1379 : decode cL_law 1379 = .ok (.iconst 3, 1) := by decide +kernel
theorem dL_law_1380 : decode cL_law 1380 = .ok (.iadd, 1) := by decide +kernel
theorem dL_law_1381 : decode cL_law 1381 = .ok (.iaload, 1) := by decide +kernel
theorem dL_law_1382 : decode cL_law 1382 = .ok (.invokevirtual 183, 3) := by decide +kernel
theorem dL_law_1385 : decode cL_law 1385 = .ok (.if_icmp .eq 317, 3) := by decide +kernel
theorem dL_law_1388 : decode cL_law 1388 = .ok (.iconst 0, 1) := by decide +kernel
theorem dL_law_1389 : decode cL_law 1389 = .ok (.ireturn, 1) := by decide +kernel
theorem dL_law_1390 : decode cL_law 1390 = .ok (.aload_n 1, 1) := by decide +kernel
theorem dL_law_1391 : decode cL_law 1391 = .ok (.invokevirtual 184, 3) := by decide +kernel
theorem dL_law_1394 : decode cL_law 1394 = .ok (.aload_n 2, 1) := by decide +kernel
theorem dL_law_1395 : decode cL_law 1395 = .ok (.invokevirtual 187, 3) := by decide +kernel
theorem dL_law_1398 : decode cL_law 1398 = .ok (.if_icmp .eq 304, 3) := by decide +kernel
theorem dL_law_1401 : decode cL_law 1401 = .ok (.iconst 0, 1) := by decide +kernel
theorem dL_law_1402 : decode cL_law 1402 = .ok (.ireturn, 1) := by decide +kernel
theorem dL_law_1403 : decode cL_law 1403 = .ok (.aload_n 1, 1) := by decide +kernel
theorem dL_law_1404 : decode cL_law 1404 = .ok (.invokevirtual 188, 3) := by decide +kernel
theorem dL_law_1407 : decode cL_law 1407 = .ok (.aload_n 2, 1) := by decide +kernel
theorem dL_law_1408 : decode cL_law 1408 = .ok (.invokevirtual 191, 3) := by decide +kernel
theorem dL_law_1411 : decode cL_law 1411 = .ok (.if_icmp .eq 291, 3) := by decide +kernel
theorem dL_law_1414 : decode cL_law 1414 = .ok (.iconst 0, 1) := by decide +kernel
theorem dL_law_1415 : decode cL_law 1415 = .ok (.ireturn, 1) := by decide +kernel
theorem dL_law_1416 : decode cL_law 1416 = .ok (.aload_n 1, 1) := by decide +kernel
theorem dL_law_1417 : decode cL_law 1417 = .ok (.aload_n 0, 1) := by decide +kernel
theorem dL_law_1418 : decode cL_law 1418 = .ok (.iload_n 3, 1) := by decide +kernel
theorem dL_law_1419 : decode cL_law 1419 = .ok (.iconst 1, 1) := by decide +kernel
theorem dL_law_1420 : decode cL_law 1420 = .ok (.iadd, 1) := by decide +kernel
theorem dL_law_1421 : decode cL_law 1421 = .ok (.iaload, 1) := by decide +kernel
theorem dL_law_1422 : decode cL_law 1422 = .ok (.invokevirtual 192, 3) := by decide +kernel
theorem dL_law_1425 : decode cL_law 1425 = .ok (.aload_n 2, 1) := by decide +kernel
theorem dL_law_1426 : decode cL_law 1426 = .ok (.aload_n 0, 1) := by decide +kernel
theorem dL_law_1427 : decode cL_law 1427 = .ok (.iload_n 3, 1) := by decide +kernel
theorem dL_law_1428 : decode cL_law 1428 = .ok (.iconst 1, 1) := by decide +kernel
theorem dL_law_1429 : decode cL_law 1429 = .ok (.iadd, 1) := by decide +kernel
theorem dL_law_1430 : decode cL_law 1430 = .ok (.iaload, 1) := by decide +kernel
theorem dL_law_1431 : decode cL_law 1431 = .ok (.invokevirtual 195, 3) := by decide +kernel
theorem dL_law_1434 : decode cL_law 1434 = .ok (.if_icmp .eq 268, 3) := by decide +kernel
theorem dL_law_1437 : decode cL_law 1437 = .ok (.iconst 0, 1) := by decide +kernel
theorem dL_law_1438 : decode cL_law 1438 = .ok (.ireturn, 1) := by decide +kernel
theorem dL_law_1439 : decode cL_law 1439 = .ok (.aload_n 1, 1) := by decide +kernel
theorem dL_law_1440 : decode cL_law 1440 = .ok (.aload_n 0, 1) := by decide +kernel
theorem dL_law_1441 : decode cL_law 1441 = .ok (.iload_n 3, 1) := by decide +kernel
theorem dL_law_1442 : decode cL_law 1442 = .ok (.iconst 1, 1) := by decide +kernel
theorem dL_law_1443 : decode cL_law 1443 = .ok (.iadd, 1) := by decide +kernel
theorem dL_law_1444 : decode cL_law 1444 = .ok (.iaload, 1) := by decide +kernel
theorem dL_law_1445 : decode cL_law 1445 = .ok (.aload_n 0, 1) := by decide +kernel
theorem dL_law_1446 : decode cL_law 1446 = .ok (.iload_n 3, 1) := by decide +kernel
theorem dL_law_1447 : decode cL_law 1447 = .ok (.iconst 2, 1) := by decide +kernel
theorem dL_law_1448 : decode cL_law 1448 = .ok (.iadd, 1) := by decide +kernel
theorem dL_law_1449 : decode cL_law 1449 = .ok (.iaload, 1) := by decide +kernel
theorem dL_law_1450 : decode cL_law 1450 = .ok (.invokevirtual 196, 3) := by decide +kernel
theorem dL_law_1453 : decode cL_law 1453 = .ok (.aload_n 2, 1) := by decide +kernel
theorem dL_law_1454 : decode cL_law 1454 = .ok (.aload_n 0, 1) := by decide +kernel
theorem dL_law_1455 : decode cL_law 1455 = .ok (.iload_n 3, 1) := by decide +kernel
theorem dL_law_1456 : decode cL_law 1456 = .ok (.iconst 1, 1) := by decide +kernel
theorem dL_law_1457 : decode cL_law 1457 = .ok (.iadd, 1) := by decide +kernel
theorem dL_law_1458 : decode cL_law 1458 = .ok (.iaload, 1) := by decide +kernel
theorem dL_law_1459 : decode cL_law 1459 = .ok (.aload_n 0, 1) := by decide +kernel
theorem dL_law_1460 : decode cL_law 1460 = .ok (.iload_n 3, 1) := by decide +kernel
theorem dL_law_1461 : decode cL_law 1461 = .ok (.iconst 2, 1) := by decide +kernel
theorem dL_law_1462 : decode cL_law 1462 = .ok (.iadd, 1) := by decide +kernel
theorem dL_law_1463 : decode cL_law 1463 = .ok (.iaload, 1) := by decide +kernel
theorem dL_law_1464 : decode cL_law 1464 = .ok (.invokevirtual 199, 3) := by decide +kernel
theorem dL_law_1467 : decode cL_law 1467 = .ok (.if_icmp .eq 235, 3) := by decide +kernel
theorem dL_law_1470 : decode cL_law 1470 = .ok (.iconst 0, 1) := by decide +kernel
theorem dL_law_1471 : decode cL_law 1471 = .ok (.ireturn, 1) := by decide +kernel
theorem dL_law_1472 : decode cL_law 1472 = .ok (.aload_n 1, 1) := by decide +kernel
theorem dL_law_1473 : decode cL_law 1473 = .ok (.aload_n 0, 1) := by decide +kernel
theorem dL_law_1474 : decode cL_law 1474 = .ok (.iload_n 3, 1) := by decide +kernel
theorem dL_law_1475 : decode cL_law 1475 = .ok (.iconst 1, 1) := by decide +kernel
theorem dL_law_1476 : decode cL_law 1476 = .ok (.iadd, 1) := by decide +kernel
theorem dL_law_1477 : decode cL_law 1477 = .ok (.iaload, 1) := by decide +kernel
theorem dL_law_1478 : decode cL_law 1478 = .ok (.invokevirtual 200, 3) := by decide +kernel
theorem dL_law_1481 : decode cL_law 1481 = .ok (.aload_n 2, 1) := by decide +kernel
theorem dL_law_1482 : decode cL_law 1482 = .ok (.aload_n 0, 1) := by decide +kernel
theorem dL_law_1483 : decode cL_law 1483 = .ok (.iload_n 3, 1) := by decide +kernel
theorem dL_law_1484 : decode cL_law 1484 = .ok (.iconst 1, 1) := by decide +kernel
theorem dL_law_1485 : decode cL_law 1485 = .ok (.iadd, 1) := by decide +kernel
theorem dL_law_1486 : decode cL_law 1486 = .ok (.iaload, 1) := by decide +kernel
theorem dL_law_1487 : decode cL_law 1487 = .ok (.invokevirtual 203, 3) := by decide +kernel
theorem dL_law_1490 : decode cL_law 1490 = .ok (.if_icmp .eq 212, 3) := by decide +kernel
theorem dL_law_1493 : decode cL_law 1493 = .ok (.iconst 0, 1) := by decide +kernel
theorem dL_law_1494 : decode cL_law 1494 = .ok (.ireturn, 1) := by decide +kernel
theorem dL_law_1495 : decode cL_law 1495 = .ok (.aload_n 1, 1) := by decide +kernel
theorem dL_law_1496 : decode cL_law 1496 = .ok (.aload_n 0, 1) := by decide +kernel
theorem dL_law_1497 : decode cL_law 1497 = .ok (.iload_n 3, 1) := by decide +kernel
theorem dL_law_1498 : decode cL_law 1498 = .ok (.iconst 1, 1) := by decide +kernel
theorem dL_law_1499 : decode cL_law 1499 = .ok (.iadd, 1) := by decide +kernel
theorem dL_law_1500 : decode cL_law 1500 = .ok (.iaload, 1) := by decide +kernel
theorem dL_law_1501 : decode cL_law 1501 = .ok (.aload_n 0, 1) := by decide +kernel
theorem dL_law_1502 : decode cL_law 1502 = .ok (.iload_n 3, 1) := by decide +kernel
theorem dL_law_1503 : decode cL_law 1503 = .ok (.iconst 2, 1) := by decide +kernel
theorem dL_law_1504 : decode cL_law 1504 = .ok (.iadd, 1) := by decide +kernel
theorem dL_law_1505 : decode cL_law 1505 = .ok (.iaload, 1) := by decide +kernel
theorem dL_law_1506 : decode cL_law 1506 = .ok (.invokevirtual 204, 3) := by decide +kernel
theorem dL_law_1509 : decode cL_law 1509 = .ok (.aload_n 2, 1) := by decide +kernel
theorem dL_law_1510 : decode cL_law 1510 = .ok (.aload_n 0, 1) := by decide +kernel
theorem dL_law_1511 : decode cL_law 1511 = .ok (.iload_n 3, 1) := by decide +kernel
theorem dL_law_1512 : decode cL_law 1512 = .ok (.iconst 1, 1) := by decide +kernel
theorem dL_law_1513 : decode cL_law 1513 = .ok (.iadd, 1) := by decide +kernel
theorem dL_law_1514 : decode cL_law 1514 = .ok (.iaload, 1) := by decide +kernel
theorem dL_law_1515 : decode cL_law 1515 = .ok (.aload_n 0, 1) := by decide +kernel
theorem dL_law_1516 : decode cL_law 1516 = .ok (.iload_n 3, 1) := by decide +kernel
theorem dL_law_1517 : decode cL_law 1517 = .ok (.iconst 2, 1) := by decide +kernel
theorem dL_law_1518 : decode cL_law 1518 = .ok (.iadd, 1) := by decide +kernel
theorem dL_law_1519 : decode cL_law 1519 = .ok (.iaload, 1) := by decide +kernel
theorem dL_law_1520 : decode cL_law 1520 = .ok (.invokevirtual 207, 3) := by decide +kernel
theorem dL_law_1523 : decode cL_law 1523 = .ok (.if_icmp .eq 179, 3) := by decide +kernel
theorem dL_law_1526 : decode cL_law 1526 = .ok (.iconst 0, 1) := by decide +kernel
theorem dL_law_1527 : decode cL_law 1527 = .ok (.ireturn, 1) := by decide +kernel
theorem dL_law_1528 : decode cL_law 1528 = .ok (.aload_n 1, 1) := by decide +kernel
theorem dL_law_1529 : decode cL_law 1529 = .ok (.aload_n 0, 1) := by decide +kernel
theorem dL_law_1530 : decode cL_law 1530 = .ok (.iload_n 3, 1) := by decide +kernel
theorem dL_law_1531 : decode cL_law 1531 = .ok (.iconst 1, 1) := by decide +kernel
theorem dL_law_1532 : decode cL_law 1532 = .ok (.iadd, 1) := by decide +kernel
theorem dL_law_1533 : decode cL_law 1533 = .ok (.iaload, 1) := by decide +kernel
theorem dL_law_1534 : decode cL_law 1534 = .ok (.invokevirtual 208, 3) := by decide +kernel
theorem dL_law_1537 : decode cL_law 1537 = .ok (.aload_n 2, 1) := by decide +kernel
theorem dL_law_1538 : decode cL_law 1538 = .ok (.aload_n 0, 1) := by decide +kernel
theorem dL_law_1539 : decode cL_law 1539 = .ok (.iload_n 3, 1) := by decide +kernel
theorem dL_law_1540 : decode cL_law 1540 = .ok (.iconst 1, 1) := by decide +kernel
theorem dL_law_1541 : decode cL_law 1541 = .ok (.iadd, 1) := by decide +kernel
theorem dL_law_1542 : decode cL_law 1542 = .ok (.iaload, 1) := by decide +kernel
theorem dL_law_1543 : decode cL_law 1543 = .ok (.invokevirtual 211, 3) := by decide +kernel
theorem dL_law_1546 : decode cL_law 1546 = .ok (.if_icmp .eq 156, 3) := by decide +kernel
theorem dL_law_1549 : decode cL_law 1549 = .ok (.iconst 0, 1) := by decide +kernel
theorem dL_law_1550 : decode cL_law 1550 = .ok (.ireturn, 1) := by decide +kernel
theorem dL_law_1551 : decode cL_law 1551 = .ok (.aload_n 1, 1) := by decide +kernel
theorem dL_law_1552 : decode cL_law 1552 = .ok (.aload_n 0, 1) := by decide +kernel
theorem dL_law_1553 : decode cL_law 1553 = .ok (.iload_n 3, 1) := by decide +kernel
theorem dL_law_1554 : decode cL_law 1554 = .ok (.iconst 1, 1) := by decide +kernel
theorem dL_law_1555 : decode cL_law 1555 = .ok (.iadd, 1) := by decide +kernel
theorem dL_law_1556 : decode cL_law 1556 = .ok (.iaload, 1) := by decide +kernel
theorem dL_law_1557 : decode cL_law 1557 = .ok (.invokevirtual 212, 3) := by decide +kernel
theorem dL_law_1560 : decode cL_law 1560 = .ok (.aload_n 2, 1) := by decide +kernel
theorem dL_law_1561 : decode cL_law 1561 = .ok (.aload_n 0, 1) := by decide +kernel
theorem dL_law_1562 : decode cL_law 1562 = .ok (.iload_n 3, 1) := by decide +kernel
theorem dL_law_1563 : decode cL_law 1563 = .ok (.iconst 1, 1) := by decide +kernel
theorem dL_law_1564 : decode cL_law 1564 = .ok (.iadd, 1) := by decide +kernel
theorem dL_law_1565 : decode cL_law 1565 = .ok (.iaload, 1) := by decide +kernel
theorem dL_law_1566 : decode cL_law 1566 = .ok (.invokevirtual 215, 3) := by decide +kernel
theorem dL_law_1569 : decode cL_law 1569 = .ok (.if_icmp .eq 133, 3) := by decide +kernel
theorem dL_law_1572 : decode cL_law 1572 = .ok (.iconst 0, 1) := by decide +kernel
theorem dL_law_1573 : decode cL_law 1573 = .ok (.ireturn, 1) := by decide +kernel
theorem dL_law_1574 : decode cL_law 1574 = .ok (.aload_n 1, 1) := by decide +kernel
theorem dL_law_1575 : decode cL_law 1575 = .ok (.aload_n 0, 1) := by decide +kernel
theorem dL_law_1576 : decode cL_law 1576 = .ok (.iload_n 3, 1) := by decide +kernel
theorem dL_law_1577 : decode cL_law 1577 = .ok (.iconst 1, 1) := by decide +kernel
theorem dL_law_1578 : decode cL_law 1578 = .ok (.iadd, 1) := by decide +kernel
theorem dL_law_1579 : decode cL_law 1579 = .ok (.iaload, 1) := by decide +kernel
theorem dL_law_1580 : decode cL_law 1580 = .ok (.invokevirtual 216, 3) := by decide +kernel
theorem dL_law_1583 : decode cL_law 1583 = .ok (.aload_n 2, 1) := by decide +kernel
theorem dL_law_1584 : decode cL_law 1584 = .ok (.aload_n 0, 1) := by decide +kernel
theorem dL_law_1585 : decode cL_law 1585 = .ok (.iload_n 3, 1) := by decide +kernel
theorem dL_law_1586 : decode cL_law 1586 = .ok (.iconst 1, 1) := by decide +kernel
theorem dL_law_1587 : decode cL_law 1587 = .ok (.iadd, 1) := by decide +kernel
theorem dL_law_1588 : decode cL_law 1588 = .ok (.iaload, 1) := by decide +kernel
theorem dL_law_1589 : decode cL_law 1589 = .ok (.invokevirtual 219, 3) := by decide +kernel
theorem dL_law_1592 : decode cL_law 1592 = .ok (.if_icmp .eq 110, 3) := by decide +kernel
theorem dL_law_1595 : decode cL_law 1595 = .ok (.iconst 0, 1) := by decide +kernel
theorem dL_law_1596 : decode cL_law 1596 = .ok (.ireturn, 1) := by decide +kernel
theorem dL_law_1597 : decode cL_law 1597 = .ok (.aload_n 1, 1) := by decide +kernel
theorem dL_law_1598 : decode cL_law 1598 = .ok (.aload_n 0, 1) := by decide +kernel
theorem dL_law_1599 : decode cL_law 1599 = .ok (.iload_n 3, 1) := by decide +kernel
theorem dL_law_1600 : decode cL_law 1600 = .ok (.iconst 1, 1) := by decide +kernel
theorem dL_law_1601 : decode cL_law 1601 = .ok (.iadd, 1) := by decide +kernel
theorem dL_law_1602 : decode cL_law 1602 = .ok (.iaload, 1) := by decide +kernel
theorem dL_law_1603 : decode cL_law 1603 = .ok (.invokevirtual 220, 3) := by decide +kernel
theorem dL_law_1606 : decode cL_law 1606 = .ok (.aload_n 2, 1) := by decide +kernel
theorem dL_law_1607 : decode cL_law 1607 = .ok (.aload_n 0, 1) := by decide +kernel
theorem dL_law_1608 : decode cL_law 1608 = .ok (.iload_n 3, 1) := by decide +kernel
theorem dL_law_1609 : decode cL_law 1609 = .ok (.iconst 1, 1) := by decide +kernel
theorem dL_law_1610 : decode cL_law 1610 = .ok (.iadd, 1) := by decide +kernel
theorem dL_law_1611 : decode cL_law 1611 = .ok (.iaload, 1) := by decide +kernel
theorem dL_law_1612 : decode cL_law 1612 = .ok (.invokevirtual 223, 3) := by decide +kernel
theorem dL_law_1615 : decode cL_law 1615 = .ok (.if_icmp .eq 87, 3) := by decide +kernel
theorem dL_law_1618 : decode cL_law 1618 = .ok (.iconst 0, 1) := by decide +kernel
theorem dL_law_1619 : decode cL_law 1619 = .ok (.ireturn, 1) := by decide +kernel
theorem dL_law_1620 : decode cL_law 1620 = .ok (.aload_n 1, 1) := by decide +kernel
theorem dL_law_1621 : decode cL_law 1621 = .ok (.aload_n 0, 1) := by decide +kernel
theorem dL_law_1622 : decode cL_law 1622 = .ok (.iload_n 3, 1) := by decide +kernel
theorem dL_law_1623 : decode cL_law 1623 = .ok (.iconst 1, 1) := by decide +kernel
theorem dL_law_1624 : decode cL_law 1624 = .ok (.iadd, 1) := by decide +kernel
theorem dL_law_1625 : decode cL_law 1625 = .ok (.iaload, 1) := by decide +kernel
theorem dL_law_1626 : decode cL_law 1626 = .ok (.invokevirtual 224, 3) := by decide +kernel
theorem dL_law_1629 : decode cL_law 1629 = .ok (.aload_n 2, 1) := by decide +kernel
theorem dL_law_1630 : decode cL_law 1630 = .ok (.aload_n 0, 1) := by decide +kernel
theorem dL_law_1631 : decode cL_law 1631 = .ok (.iload_n 3, 1) := by decide +kernel
theorem dL_law_1632 : decode cL_law 1632 = .ok (.iconst 1, 1) := by decide +kernel
theorem dL_law_1633 : decode cL_law 1633 = .ok (.iadd, 1) := by decide +kernel
theorem dL_law_1634 : decode cL_law 1634 = .ok (.iaload, 1) := by decide +kernel
theorem dL_law_1635 : decode cL_law 1635 = .ok (.invokevirtual 227, 3) := by decide +kernel
theorem dL_law_1638 : decode cL_law 1638 = .ok (.if_icmp .eq 64, 3) := by decide +kernel
theorem dL_law_1641 : decode cL_law 1641 = .ok (.iconst 0, 1) := by decide +kernel
theorem dL_law_1642 : decode cL_law 1642 = .ok (.ireturn, 1) := by decide +kernel
theorem dL_law_1643 : decode cL_law 1643 = .ok (.aload_n 1, 1) := by decide +kernel
theorem dL_law_1644 : decode cL_law 1644 = .ok (.aload_n 0, 1) := by decide +kernel
theorem dL_law_1645 : decode cL_law 1645 = .ok (.iload_n 3, 1) := by decide +kernel
theorem dL_law_1646 : decode cL_law 1646 = .ok (.iconst 1, 1) := by decide +kernel
theorem dL_law_1647 : decode cL_law 1647 = .ok (.iadd, 1) := by decide +kernel
theorem dL_law_1648 : decode cL_law 1648 = .ok (.iaload, 1) := by decide +kernel
theorem dL_law_1649 : decode cL_law 1649 = .ok (.aload_n 0, 1) := by decide +kernel
theorem dL_law_1650 : decode cL_law 1650 = .ok (.iload_n 3, 1) := by decide +kernel
theorem dL_law_1651 : decode cL_law 1651 = .ok (.iconst 2, 1) := by decide +kernel
theorem dL_law_1652 : decode cL_law 1652 = .ok (.iadd, 1) := by decide +kernel
theorem dL_law_1653 : decode cL_law 1653 = .ok (.iaload, 1) := by decide +kernel
theorem dL_law_1654 : decode cL_law 1654 = .ok (.invokevirtual 228, 3) := by decide +kernel
theorem dL_law_1657 : decode cL_law 1657 = .ok (.aload_n 2, 1) := by decide +kernel
theorem dL_law_1658 : decode cL_law 1658 = .ok (.aload_n 0, 1) := by decide +kernel
theorem dL_law_1659 : decode cL_law 1659 = .ok (.iload_n 3, 1) := by decide +kernel
theorem dL_law_1660 : decode cL_law 1660 = .ok (.iconst 1, 1) := by decide +kernel
theorem dL_law_1661 : decode cL_law 1661 = .ok (.iadd, 1) := by decide +kernel
theorem dL_law_1662 : decode cL_law 1662 = .ok (.iaload, 1) := by decide +kernel
theorem dL_law_1663 : decode cL_law 1663 = .ok (.aload_n 0, 1) := by decide +kernel
theorem dL_law_1664 : decode cL_law 1664 = .ok (.iload_n 3, 1) := by decide +kernel
theorem dL_law_1665 : decode cL_law 1665 = .ok (.iconst 2, 1) := by decide +kernel
theorem dL_law_1666 : decode cL_law 1666 = .ok (.iadd, 1) := by decide +kernel
theorem dL_law_1667 : decode cL_law 1667 = .ok (.iaload, 1) := by decide +kernel
theorem dL_law_1668 : decode cL_law 1668 = .ok (.invokevirtual 231, 3) := by decide +kernel
theorem dL_law_1671 : decode cL_law 1671 = .ok (.if_icmp .eq 31, 3) := by decide +kernel
theorem dL_law_1674 : decode cL_law 1674 = .ok (.iconst 0, 1) := by decide +kernel
theorem dL_law_1675 : decode cL_law 1675 = .ok (.ireturn, 1) := by decide +kernel
theorem dL_law_1676 : decode cL_law 1676 = .ok (.aload_n 1, 1) := by decide +kernel
theorem dL_law_1677 : decode cL_law 1677 = .ok (.invokevirtual 232, 3) := by decide +kernel
theorem dL_law_1680 : decode cL_law 1680 = .ok (.aload_n 2, 1) := by decide +kernel
theorem dL_law_1681 : decode cL_law 1681 = .ok (.invokevirtual 235, 3) := by decide +kernel
theorem dL_law_1684 : decode cL_law 1684 = .ok (.if_icmp .eq 18, 3) := by decide +kernel
theorem dL_law_1687 : decode cL_law 1687 = .ok (.iconst 0, 1) := by decide +kernel
theorem dL_law_1688 : decode cL_law 1688 = .ok (.ireturn, 1) := by decide +kernel
theorem dL_law_1689 : decode cL_law 1689 = .ok (.aload_n 1, 1) := by decide +kernel
theorem dL_law_1690 : decode cL_law 1690 = .ok (.invokevirtual 236, 3) := by decide +kernel
theorem dL_law_1693 : decode cL_law 1693 = .ok (.aload_n 2, 1) := by decide +kernel
theorem dL_law_1694 : decode cL_law 1694 = .ok (.invokevirtual 239, 3) := by decide +kernel
theorem dL_law_1697 : decode cL_law 1697 = .ok (.if_icmp .eq 5, 3) := by decide +kernel
theorem dL_law_1700 : decode cL_law 1700 = .ok (.iconst 0, 1) := by decide +kernel
theorem dL_law_1701 : decode cL_law 1701 = .ok (.ireturn, 1) := by decide +kernel
theorem dL_law_1702 : decode cL_law 1702 = .ok (.iinc 3 6, 3) := by decide +kernel
theorem dL_law_1705 : decode cL_law 1705 = .ok (.goto (-1687), 3) := by decide +kernel
theorem dL_law_1708 : decode cL_law 1708 = .ok (.iconst 1, 1) := by decide +kernel
theorem dL_law_1709 : decode cL_law 1709 = .ok (.ireturn, 1) := by decide +kernel
def j_L_law : JD := (yL_law, cL_law, 4, some .boolean)
def b_L_law : BD := (21, 600000, 7302249)
theorem kc_L_32 : Cond.constantLong RL 32 4294967295 ∈ GW := gw_at 2310 (by decide +kernel) rfl
theorem cl_L_7 : CLk RL 7 11 := ⟨_, rfl, gw_at 227 (by decide +kernel) rfl, gw_at 228 (by decide +kernel) rfl, gw_at 207 (by decide +kernel) rfl⟩
theorem cl_L_10 : CLk RL 10 12 := ⟨_, rfl, gw_at 1508 (by decide +kernel) rfl, gw_at 1509 (by decide +kernel) rfl, gw_at 221 (by decide +kernel) rfl⟩
theorem mv_X11_allOff : MV j_X11_allOff 11 0 := ⟨⟨gw_at 1348 (by decide +kernel) rfl, gw_at 207 (by decide +kernel) rfl, ⟨by decide +kernel, by decide +kernel⟩, by decide +kernel, by decide, by decide +kernel⟩, ⟨_, rfl, rfl⟩, gw_at 1346 (by decide +kernel) rfl, gw_at 1347 (by decide +kernel) rfl⟩
theorem mv_X11_back : MV j_X11_back 11 0 := ⟨⟨gw_at 1507 (by decide +kernel) rfl, gw_at 207 (by decide +kernel) rfl, ⟨by decide +kernel, by decide +kernel⟩, by decide +kernel, by decide, by decide +kernel⟩, ⟨_, rfl, rfl⟩, gw_at 1505 (by decide +kernel) rfl, gw_at 1506 (by decide +kernel) rfl⟩
theorem mv_X11_best : MV j_X11_best 11 2 := ⟨⟨gw_at 1282 (by decide +kernel) rfl, gw_at 207 (by decide +kernel) rfl, ⟨by decide +kernel, by decide +kernel⟩, by decide +kernel, by decide, by decide +kernel⟩, ⟨_, rfl, rfl⟩, gw_at 1280 (by decide +kernel) rfl, gw_at 1281 (by decide +kernel) rfl⟩
theorem mv_X11_bestSet : MV j_X11_bestSet 11 0 := ⟨⟨gw_at 1304 (by decide +kernel) rfl, gw_at 207 (by decide +kernel) rfl, ⟨by decide +kernel, by decide +kernel⟩, by decide +kernel, by decide, by decide +kernel⟩, ⟨_, rfl, rfl⟩, gw_at 1302 (by decide +kernel) rfl, gw_at 1303 (by decide +kernel) rfl⟩
theorem mv_X11_bottom : MV j_X11_bottom 11 0 := ⟨⟨gw_at 753 (by decide +kernel) rfl, gw_at 207 (by decide +kernel) rfl, ⟨by decide +kernel, by decide +kernel⟩, by decide +kernel, by decide, by decide +kernel⟩, ⟨_, rfl, rfl⟩, gw_at 751 (by decide +kernel) rfl, gw_at 752 (by decide +kernel) rfl⟩
theorem mv_X11_chain : MV j_X11_chain 11 1 := ⟨⟨gw_at 1394 (by decide +kernel) rfl, gw_at 207 (by decide +kernel) rfl, ⟨by decide +kernel, by decide +kernel⟩, by decide +kernel, by decide, by decide +kernel⟩, ⟨_, rfl, rfl⟩, gw_at 1392 (by decide +kernel) rfl, gw_at 1393 (by decide +kernel) rfl⟩
theorem mv_X11_dawn : MV j_X11_dawn 11 0 := ⟨⟨gw_at 1208 (by decide +kernel) rfl, gw_at 207 (by decide +kernel) rfl, ⟨by decide +kernel, by decide +kernel⟩, by decide +kernel, by decide, by decide +kernel⟩, ⟨_, rfl, rfl⟩, gw_at 1206 (by decide +kernel) rfl, gw_at 1207 (by decide +kernel) rfl⟩
theorem mv_X11_dearest : MV j_X11_dearest 11 0 := ⟨⟨gw_at 1273 (by decide +kernel) rfl, gw_at 207 (by decide +kernel) rfl, ⟨by decide +kernel, by decide +kernel⟩, by decide +kernel, by decide, by decide +kernel⟩, ⟨_, rfl, rfl⟩, gw_at 1271 (by decide +kernel) rfl, gw_at 1272 (by decide +kernel) rfl⟩
theorem mv_X11_falls : MV j_X11_falls 11 1 := ⟨⟨gw_at 1220 (by decide +kernel) rfl, gw_at 207 (by decide +kernel) rfl, ⟨by decide +kernel, by decide +kernel⟩, by decide +kernel, by decide, by decide +kernel⟩, ⟨_, rfl, rfl⟩, gw_at 1218 (by decide +kernel) rfl, gw_at 1219 (by decide +kernel) rfl⟩
theorem mv_X11_fault : MV j_X11_fault 11 1 := ⟨⟨gw_at 1033 (by decide +kernel) rfl, gw_at 207 (by decide +kernel) rfl, ⟨by decide +kernel, by decide +kernel⟩, by decide +kernel, by decide, by decide +kernel⟩, ⟨_, rfl, rfl⟩, gw_at 1031 (by decide +kernel) rfl, gw_at 1032 (by decide +kernel) rfl⟩
theorem mv_X11_feed : MV j_X11_feed 11 5 := ⟨⟨gw_at 818 (by decide +kernel) rfl, gw_at 207 (by decide +kernel) rfl, ⟨by decide +kernel, by decide +kernel⟩, by decide +kernel, by decide, by decide +kernel⟩, ⟨_, rfl, rfl⟩, gw_at 816 (by decide +kernel) rfl, gw_at 817 (by decide +kernel) rfl⟩
theorem mv_X11_flown : MV j_X11_flown 11 1 := ⟨⟨gw_at 1425 (by decide +kernel) rfl, gw_at 207 (by decide +kernel) rfl, ⟨by decide +kernel, by decide +kernel⟩, by decide +kernel, by decide, by decide +kernel⟩, ⟨_, rfl, rfl⟩, gw_at 1423 (by decide +kernel) rfl, gw_at 1424 (by decide +kernel) rfl⟩
theorem mv_X11_gale : MV j_X11_gale 11 1 := ⟨⟨gw_at 1189 (by decide +kernel) rfl, gw_at 207 (by decide +kernel) rfl, ⟨by decide +kernel, by decide +kernel⟩, by decide +kernel, by decide, by decide +kernel⟩, ⟨_, rfl, rfl⟩, gw_at 1187 (by decide +kernel) rfl, gw_at 1188 (by decide +kernel) rfl⟩
theorem mv_X11_gang : MV j_X11_gang 11 2 := ⟨⟨gw_at 1082 (by decide +kernel) rfl, gw_at 207 (by decide +kernel) rfl, ⟨by decide +kernel, by decide +kernel⟩, by decide +kernel, by decide, by decide +kernel⟩, ⟨_, rfl, rfl⟩, gw_at 1080 (by decide +kernel) rfl, gw_at 1081 (by decide +kernel) rfl⟩
theorem mv_X11_ground : MV j_X11_ground 11 1 := ⟨⟨gw_at 1406 (by decide +kernel) rfl, gw_at 207 (by decide +kernel) rfl, ⟨by decide +kernel, by decide +kernel⟩, by decide +kernel, by decide, by decide +kernel⟩, ⟨_, rfl, rfl⟩, gw_at 1404 (by decide +kernel) rfl, gw_at 1405 (by decide +kernel) rfl⟩
theorem mv_X11_help : MV j_X11_help 11 3 := ⟨⟨gw_at 1216 (by decide +kernel) rfl, gw_at 207 (by decide +kernel) rfl, ⟨by decide +kernel, by decide +kernel⟩, by decide +kernel, by decide, by decide +kernel⟩, ⟨_, rfl, rfl⟩, gw_at 1214 (by decide +kernel) rfl, gw_at 1215 (by decide +kernel) rfl⟩
theorem mv_X11_helped : MV j_X11_helped 11 2 := ⟨⟨gw_at 1098 (by decide +kernel) rfl, gw_at 207 (by decide +kernel) rfl, ⟨by decide +kernel, by decide +kernel⟩, by decide +kernel, by decide, by decide +kernel⟩, ⟨_, rfl, rfl⟩, gw_at 1096 (by decide +kernel) rfl, gw_at 1097 (by decide +kernel) rfl⟩
theorem mv_X11_hour : MV j_X11_hour 11 1 := ⟨⟨gw_at 1158 (by decide +kernel) rfl, gw_at 207 (by decide +kernel) rfl, ⟨by decide +kernel, by decide +kernel⟩, by decide +kernel, by decide, by decide +kernel⟩, ⟨_, rfl, rfl⟩, gw_at 1156 (by decide +kernel) rfl, gw_at 1157 (by decide +kernel) rfl⟩
theorem mv_X11_house : MV j_X11_house 11 2 := ⟨⟨gw_at 1066 (by decide +kernel) rfl, gw_at 207 (by decide +kernel) rfl, ⟨by decide +kernel, by decide +kernel⟩, by decide +kernel, by decide, by decide +kernel⟩, ⟨_, rfl, rfl⟩, gw_at 1064 (by decide +kernel) rfl, gw_at 1065 (by decide +kernel) rfl⟩
theorem mi_X11_init : MI j_X11_init 0 := ⟨⟨gw_at 231 (by decide +kernel) rfl, gw_at 207 (by decide +kernel) rfl, ⟨by decide +kernel, by decide +kernel⟩, by decide +kernel, by decide, by decide +kernel⟩, rfl, rfl, gw_at 230 (by decide +kernel) rfl⟩
theorem mv_X11_lift : MV j_X11_lift 11 2 := ⟨⟨gw_at 1142 (by decide +kernel) rfl, gw_at 207 (by decide +kernel) rfl, ⟨by decide +kernel, by decide +kernel⟩, by decide +kernel, by decide, by decide +kernel⟩, ⟨_, rfl, rfl⟩, gw_at 1140 (by decide +kernel) rfl, gw_at 1141 (by decide +kernel) rfl⟩
theorem mv_X11_likeliest : MV j_X11_likeliest 11 1 := ⟨⟨gw_at 1437 (by decide +kernel) rfl, gw_at 207 (by decide +kernel) rfl, ⟨by decide +kernel, by decide +kernel⟩, by decide +kernel, by decide, by decide +kernel⟩, ⟨_, rfl, rfl⟩, gw_at 1435 (by decide +kernel) rfl, gw_at 1436 (by decide +kernel) rfl⟩
theorem mv_X11_live : MV j_X11_live 11 1 := ⟨⟨gw_at 1446 (by decide +kernel) rfl, gw_at 207 (by decide +kernel) rfl, ⟨by decide +kernel, by decide +kernel⟩, by decide +kernel, by decide, by decide +kernel⟩, ⟨_, rfl, rfl⟩, gw_at 1444 (by decide +kernel) rfl, gw_at 1445 (by decide +kernel) rfl⟩
theorem mv_X11_lived : MV j_X11_lived 11 1 := ⟨⟨gw_at 1490 (by decide +kernel) rfl, gw_at 207 (by decide +kernel) rfl, ⟨by decide +kernel, by decide +kernel⟩, by decide +kernel, by decide, by decide +kernel⟩, ⟨_, rfl, rfl⟩, gw_at 1488 (by decide +kernel) rfl, gw_at 1489 (by decide +kernel) rfl⟩
theorem mv_X11_loss : MV j_X11_loss 11 0 := ⟨⟨gw_at 1243 (by decide +kernel) rfl, gw_at 207 (by decide +kernel) rfl, ⟨by decide +kernel, by decide +kernel⟩, by decide +kernel, by decide, by decide +kernel⟩, ⟨_, rfl, rfl⟩, gw_at 1241 (by decide +kernel) rfl, gw_at 1242 (by decide +kernel) rfl⟩
theorem mv_X11_many : MV j_X11_many 11 1 := ⟨⟨gw_at 1037 (by decide +kernel) rfl, gw_at 207 (by decide +kernel) rfl, ⟨by decide +kernel, by decide +kernel⟩, by decide +kernel, by decide, by decide +kernel⟩, ⟨_, rfl, rfl⟩, gw_at 1035 (by decide +kernel) rfl, gw_at 1036 (by decide +kernel) rfl⟩
theorem mv_X11_mark : MV j_X11_mark 11 0 := ⟨⟨gw_at 1498 (by decide +kernel) rfl, gw_at 207 (by decide +kernel) rfl, ⟨by decide +kernel, by decide +kernel⟩, by decide +kernel, by decide, by decide +kernel⟩, ⟨_, rfl, rfl⟩, gw_at 1496 (by decide +kernel) rfl, gw_at 1497 (by decide +kernel) rfl⟩
theorem mv_X11_mean : MV j_X11_mean 11 2 := ⟨⟨gw_at 1494 (by decide +kernel) rfl, gw_at 207 (by decide +kernel) rfl, ⟨by decide +kernel, by decide +kernel⟩, by decide +kernel, by decide, by decide +kernel⟩, ⟨_, rfl, rfl⟩, gw_at 1492 (by decide +kernel) rfl, gw_at 1493 (by decide +kernel) rfl⟩
theorem mv_X11_neighbour : MV j_X11_neighbour 11 1 := ⟨⟨gw_at 1441 (by decide +kernel) rfl, gw_at 207 (by decide +kernel) rfl, ⟨by decide +kernel, by decide +kernel⟩, by decide +kernel, by decide, by decide +kernel⟩, ⟨_, rfl, rfl⟩, gw_at 1439 (by decide +kernel) rfl, gw_at 1440 (by decide +kernel) rfl⟩
theorem mv_X11_next : MV j_X11_next 11 1 := ⟨⟨gw_at 1124 (by decide +kernel) rfl, gw_at 207 (by decide +kernel) rfl, ⟨by decide +kernel, by decide +kernel⟩, by decide +kernel, by decide, by decide +kernel⟩, ⟨_, rfl, rfl⟩, gw_at 1122 (by decide +kernel) rfl, gw_at 1123 (by decide +kernel) rfl⟩
theorem mv_X11_order : MV j_X11_order 11 1 := ⟨⟨gw_at 1327 (by decide +kernel) rfl, gw_at 207 (by decide +kernel) rfl, ⟨by decide +kernel, by decide +kernel⟩, by decide +kernel, by decide, by decide +kernel⟩, ⟨_, rfl, rfl⟩, gw_at 1325 (by decide +kernel) rfl, gw_at 1326 (by decide +kernel) rfl⟩
theorem mv_X11_owed : MV j_X11_owed 11 0 := ⟨⟨gw_at 1378 (by decide +kernel) rfl, gw_at 207 (by decide +kernel) rfl, ⟨by decide +kernel, by decide +kernel⟩, by decide +kernel, by decide, by decide +kernel⟩, ⟨_, rfl, rfl⟩, gw_at 1376 (by decide +kernel) rfl, gw_at 1377 (by decide +kernel) rfl⟩
theorem mv_X11_pour : MV j_X11_pour 11 5 := ⟨⟨gw_at 809 (by decide +kernel) rfl, gw_at 207 (by decide +kernel) rfl, ⟨by decide +kernel, by decide +kernel⟩, by decide +kernel, by decide, by decide +kernel⟩, ⟨_, rfl, rfl⟩, gw_at 807 (by decide +kernel) rfl, gw_at 808 (by decide +kernel) rfl⟩
theorem mv_X11_quits : MV j_X11_quits 11 2 := ⟨⟨gw_at 1402 (by decide +kernel) rfl, gw_at 207 (by decide +kernel) rfl, ⟨by decide +kernel, by decide +kernel⟩, by decide +kernel, by decide, by decide +kernel⟩, ⟨_, rfl, rfl⟩, gw_at 1400 (by decide +kernel) rfl, gw_at 1401 (by decide +kernel) rfl⟩
theorem mv_X11_read : MV j_X11_read 11 2 := ⟨⟨gw_at 801 (by decide +kernel) rfl, gw_at 207 (by decide +kernel) rfl, ⟨by decide +kernel, by decide +kernel⟩, by decide +kernel, by decide, by decide +kernel⟩, ⟨_, rfl, rfl⟩, gw_at 799 (by decide +kernel) rfl, gw_at 800 (by decide +kernel) rfl⟩
theorem mv_X11_rest : MV j_X11_rest 11 1 := ⟨⟨gw_at 1153 (by decide +kernel) rfl, gw_at 207 (by decide +kernel) rfl, ⟨by decide +kernel, by decide +kernel⟩, by decide +kernel, by decide, by decide +kernel⟩, ⟨_, rfl, rfl⟩, gw_at 1151 (by decide +kernel) rfl, gw_at 1152 (by decide +kernel) rfl⟩
theorem mv_X11_riders : MV j_X11_riders 11 0 := ⟨⟨gw_at 1382 (by decide +kernel) rfl, gw_at 207 (by decide +kernel) rfl, ⟨by decide +kernel, by decide +kernel⟩, by decide +kernel, by decide, by decide +kernel⟩, ⟨_, rfl, rfl⟩, gw_at 1380 (by decide +kernel) rfl, gw_at 1381 (by decide +kernel) rfl⟩
theorem mv_X11_risk : MV j_X11_risk 11 1 := ⟨⟨gw_at 1225 (by decide +kernel) rfl, gw_at 207 (by decide +kernel) rfl, ⟨by decide +kernel, by decide +kernel⟩, by decide +kernel, by decide, by decide +kernel⟩, ⟨_, rfl, rfl⟩, gw_at 1223 (by decide +kernel) rfl, gw_at 1224 (by decide +kernel) rfl⟩
theorem mv_X11_saves : MV j_X11_saves 11 2 := ⟨⟨gw_at 1252 (by decide +kernel) rfl, gw_at 207 (by decide +kernel) rfl, ⟨by decide +kernel, by decide +kernel⟩, by decide +kernel, by decide, by decide +kernel⟩, ⟨_, rfl, rfl⟩, gw_at 1250 (by decide +kernel) rfl, gw_at 1251 (by decide +kernel) rfl⟩
theorem mv_X11_score : MV j_X11_score 11 3 := ⟨⟨gw_at 1352 (by decide +kernel) rfl, gw_at 207 (by decide +kernel) rfl, ⟨by decide +kernel, by decide +kernel⟩, by decide +kernel, by decide, by decide +kernel⟩, ⟨_, rfl, rfl⟩, gw_at 1350 (by decide +kernel) rfl, gw_at 1351 (by decide +kernel) rfl⟩
theorem mv_X11_shared : MV j_X11_shared 11 1 := ⟨⟨gw_at 1331 (by decide +kernel) rfl, gw_at 207 (by decide +kernel) rfl, ⟨by decide +kernel, by decide +kernel⟩, by decide +kernel, by decide, by decide +kernel⟩, ⟨_, rfl, rfl⟩, gw_at 1329 (by decide +kernel) rfl, gw_at 1330 (by decide +kernel) rfl⟩
theorem mv_X11_shore : MV j_X11_shore 11 1 := ⟨⟨gw_at 826 (by decide +kernel) rfl, gw_at 207 (by decide +kernel) rfl, ⟨by decide +kernel, by decide +kernel⟩, by decide +kernel, by decide, by decide +kernel⟩, ⟨_, rfl, rfl⟩, gw_at 824 (by decide +kernel) rfl, gw_at 825 (by decide +kernel) rfl⟩
theorem mv_X11_signs : MV j_X11_signs 11 2 := ⟨⟨gw_at 1417 (by decide +kernel) rfl, gw_at 207 (by decide +kernel) rfl, ⟨by decide +kernel, by decide +kernel⟩, by decide +kernel, by decide, by decide +kernel⟩, ⟨_, rfl, rfl⟩, gw_at 1415 (by decide +kernel) rfl, gw_at 1416 (by decide +kernel) rfl⟩
theorem mv_X11_soonest : MV j_X11_soonest 11 2 := ⟨⟨gw_at 1308 (by decide +kernel) rfl, gw_at 207 (by decide +kernel) rfl, ⟨by decide +kernel, by decide +kernel⟩, by decide +kernel, by decide, by decide +kernel⟩, ⟨_, rfl, rfl⟩, gw_at 1306 (by decide +kernel) rfl, gw_at 1307 (by decide +kernel) rfl⟩
theorem mv_X11_status : MV j_X11_status 11 0 := ⟨⟨gw_at 745 (by decide +kernel) rfl, gw_at 207 (by decide +kernel) rfl, ⟨by decide +kernel, by decide +kernel⟩, by decide +kernel, by decide, by decide +kernel⟩, ⟨_, rfl, rfl⟩, gw_at 743 (by decide +kernel) rfl, gw_at 744 (by decide +kernel) rfl⟩
theorem mv_X11_takes : MV j_X11_takes 11 2 := ⟨⟨gw_at 1102 (by decide +kernel) rfl, gw_at 207 (by decide +kernel) rfl, ⟨by decide +kernel, by decide +kernel⟩, by decide +kernel, by decide, by decide +kernel⟩, ⟨_, rfl, rfl⟩, gw_at 1100 (by decide +kernel) rfl, gw_at 1101 (by decide +kernel) rfl⟩
theorem mv_X11_top : MV j_X11_top 11 0 := ⟨⟨gw_at 749 (by decide +kernel) rfl, gw_at 207 (by decide +kernel) rfl, ⟨by decide +kernel, by decide +kernel⟩, by decide +kernel, by decide, by decide +kernel⟩, ⟨_, rfl, rfl⟩, gw_at 747 (by decide +kernel) rfl, gw_at 748 (by decide +kernel) rfl⟩
theorem mv_X11_tray : MV j_X11_tray 11 3 := ⟨⟨gw_at 757 (by decide +kernel) rfl, gw_at 207 (by decide +kernel) rfl, ⟨by decide +kernel, by decide +kernel⟩, by decide +kernel, by decide, by decide +kernel⟩, ⟨_, rfl, rfl⟩, gw_at 755 (by decide +kernel) rfl, gw_at 756 (by decide +kernel) rfl⟩
theorem mv_X11_walk : MV j_X11_walk 11 2 := ⟨⟨gw_at 1113 (by decide +kernel) rfl, gw_at 207 (by decide +kernel) rfl, ⟨by decide +kernel, by decide +kernel⟩, by decide +kernel, by decide, by decide +kernel⟩, ⟨_, rfl, rfl⟩, gw_at 1111 (by decide +kernel) rfl, gw_at 1112 (by decide +kernel) rfl⟩
theorem mv_X11_wind : MV j_X11_wind 11 2 := ⟨⟨gw_at 1094 (by decide +kernel) rfl, gw_at 207 (by decide +kernel) rfl, ⟨by decide +kernel, by decide +kernel⟩, by decide +kernel, by decide, by decide +kernel⟩, ⟨_, rfl, rfl⟩, gw_at 1092 (by decide +kernel) rfl, gw_at 1093 (by decide +kernel) rfl⟩
theorem mv_X11_words : MV j_X11_words 11 3 := ⟨⟨gw_at 1369 (by decide +kernel) rfl, gw_at 207 (by decide +kernel) rfl, ⟨by decide +kernel, by decide +kernel⟩, by decide +kernel, by decide, by decide +kernel⟩, ⟨_, rfl, rfl⟩, gw_at 1367 (by decide +kernel) rfl, gw_at 1368 (by decide +kernel) rfl⟩
theorem mv_X11_worstWind : MV j_X11_worstWind 11 0 := ⟨⟨gw_at 1278 (by decide +kernel) rfl, gw_at 207 (by decide +kernel) rfl, ⟨by decide +kernel, by decide +kernel⟩, by decide +kernel, by decide, by decide +kernel⟩, ⟨_, rfl, rfl⟩, gw_at 1276 (by decide +kernel) rfl, gw_at 1277 (by decide +kernel) rfl⟩
theorem mv_X11_write : MV j_X11_write 11 3 := ⟨⟨gw_at 780 (by decide +kernel) rfl, gw_at 207 (by decide +kernel) rfl, ⟨by decide +kernel, by decide +kernel⟩, by decide +kernel, by decide, by decide +kernel⟩, ⟨_, rfl, rfl⟩, gw_at 778 (by decide +kernel) rfl, gw_at 779 (by decide +kernel) rfl⟩
theorem mv_X11_years : MV j_X11_years 11 1 := ⟨⟨gw_at 972 (by decide +kernel) rfl, gw_at 207 (by decide +kernel) rfl, ⟨by decide +kernel, by decide +kernel⟩, by decide +kernel, by decide, by decide +kernel⟩, ⟨_, rfl, rfl⟩, gw_at 970 (by decide +kernel) rfl, gw_at 971 (by decide +kernel) rfl⟩
theorem mv_X12_allOff : MV j_X12_allOff 12 0 := ⟨⟨gw_at 2179 (by decide +kernel) rfl, gw_at 221 (by decide +kernel) rfl, ⟨by decide +kernel, by decide +kernel⟩, by decide +kernel, by decide, by decide +kernel⟩, ⟨_, rfl, rfl⟩, gw_at 2177 (by decide +kernel) rfl, gw_at 2178 (by decide +kernel) rfl⟩
theorem mv_X12_back : MV j_X12_back 12 0 := ⟨⟨gw_at 2309 (by decide +kernel) rfl, gw_at 221 (by decide +kernel) rfl, ⟨by decide +kernel, by decide +kernel⟩, by decide +kernel, by decide, by decide +kernel⟩, ⟨_, rfl, rfl⟩, gw_at 2307 (by decide +kernel) rfl, gw_at 2308 (by decide +kernel) rfl⟩
theorem mv_X12_best : MV j_X12_best 12 2 := ⟨⟨gw_at 2134 (by decide +kernel) rfl, gw_at 221 (by decide +kernel) rfl, ⟨by decide +kernel, by decide +kernel⟩, by decide +kernel, by decide, by decide +kernel⟩, ⟨_, rfl, rfl⟩, gw_at 2132 (by decide +kernel) rfl, gw_at 2133 (by decide +kernel) rfl⟩
theorem mv_X12_bestSet : MV j_X12_bestSet 12 0 := ⟨⟨gw_at 2155 (by decide +kernel) rfl, gw_at 221 (by decide +kernel) rfl, ⟨by decide +kernel, by decide +kernel⟩, by decide +kernel, by decide, by decide +kernel⟩, ⟨_, rfl, rfl⟩, gw_at 2153 (by decide +kernel) rfl, gw_at 2154 (by decide +kernel) rfl⟩
theorem mv_X12_bottom : MV j_X12_bottom 12 0 := ⟨⟨gw_at 1661 (by decide +kernel) rfl, gw_at 221 (by decide +kernel) rfl, ⟨by decide +kernel, by decide +kernel⟩, by decide +kernel, by decide, by decide +kernel⟩, ⟨_, rfl, rfl⟩, gw_at 1659 (by decide +kernel) rfl, gw_at 1660 (by decide +kernel) rfl⟩
theorem mv_X12_chain : MV j_X12_chain 12 1 := ⟨⟨gw_at 2225 (by decide +kernel) rfl, gw_at 221 (by decide +kernel) rfl, ⟨by decide +kernel, by decide +kernel⟩, by decide +kernel, by decide, by decide +kernel⟩, ⟨_, rfl, rfl⟩, gw_at 2223 (by decide +kernel) rfl, gw_at 2224 (by decide +kernel) rfl⟩
theorem mv_X12_dawn : MV j_X12_dawn 12 0 := ⟨⟨gw_at 2073 (by decide +kernel) rfl, gw_at 221 (by decide +kernel) rfl, ⟨by decide +kernel, by decide +kernel⟩, by decide +kernel, by decide, by decide +kernel⟩, ⟨_, rfl, rfl⟩, gw_at 2071 (by decide +kernel) rfl, gw_at 2072 (by decide +kernel) rfl⟩
theorem mv_X12_dearest : MV j_X12_dearest 12 0 := ⟨⟨gw_at 2122 (by decide +kernel) rfl, gw_at 221 (by decide +kernel) rfl, ⟨by decide +kernel, by decide +kernel⟩, by decide +kernel, by decide, by decide +kernel⟩, ⟨_, rfl, rfl⟩, gw_at 2120 (by decide +kernel) rfl, gw_at 2121 (by decide +kernel) rfl⟩
theorem mv_X12_falls : MV j_X12_falls 12 1 := ⟨⟨gw_at 2085 (by decide +kernel) rfl, gw_at 221 (by decide +kernel) rfl, ⟨by decide +kernel, by decide +kernel⟩, by decide +kernel, by decide, by decide +kernel⟩, ⟨_, rfl, rfl⟩, gw_at 2083 (by decide +kernel) rfl, gw_at 2084 (by decide +kernel) rfl⟩
theorem mv_X12_fault : MV j_X12_fault 12 1 := ⟨⟨gw_at 1705 (by decide +kernel) rfl, gw_at 221 (by decide +kernel) rfl, ⟨by decide +kernel, by decide +kernel⟩, by decide +kernel, by decide, by decide +kernel⟩, ⟨_, rfl, rfl⟩, gw_at 1703 (by decide +kernel) rfl, gw_at 1704 (by decide +kernel) rfl⟩
theorem mv_X12_feed : MV j_X12_feed 12 5 := ⟨⟨gw_at 1697 (by decide +kernel) rfl, gw_at 221 (by decide +kernel) rfl, ⟨by decide +kernel, by decide +kernel⟩, by decide +kernel, by decide, by decide +kernel⟩, ⟨_, rfl, rfl⟩, gw_at 1695 (by decide +kernel) rfl, gw_at 1696 (by decide +kernel) rfl⟩
theorem mv_X12_flown : MV j_X12_flown 12 1 := ⟨⟨gw_at 2245 (by decide +kernel) rfl, gw_at 221 (by decide +kernel) rfl, ⟨by decide +kernel, by decide +kernel⟩, by decide +kernel, by decide, by decide +kernel⟩, ⟨_, rfl, rfl⟩, gw_at 2243 (by decide +kernel) rfl, gw_at 2244 (by decide +kernel) rfl⟩
theorem mv_X12_gale : MV j_X12_gale 12 1 := ⟨⟨gw_at 2054 (by decide +kernel) rfl, gw_at 221 (by decide +kernel) rfl, ⟨by decide +kernel, by decide +kernel⟩, by decide +kernel, by decide, by decide +kernel⟩, ⟨_, rfl, rfl⟩, gw_at 2052 (by decide +kernel) rfl, gw_at 2053 (by decide +kernel) rfl⟩
theorem mv_X12_gang : MV j_X12_gang 12 2 := ⟨⟨gw_at 1966 (by decide +kernel) rfl, gw_at 221 (by decide +kernel) rfl, ⟨by decide +kernel, by decide +kernel⟩, by decide +kernel, by decide, by decide +kernel⟩, ⟨_, rfl, rfl⟩, gw_at 1964 (by decide +kernel) rfl, gw_at 1965 (by decide +kernel) rfl⟩
theorem mv_X12_ground : MV j_X12_ground 12 1 := ⟨⟨gw_at 2233 (by decide +kernel) rfl, gw_at 221 (by decide +kernel) rfl, ⟨by decide +kernel, by decide +kernel⟩, by decide +kernel, by decide, by decide +kernel⟩, ⟨_, rfl, rfl⟩, gw_at 2231 (by decide +kernel) rfl, gw_at 2232 (by decide +kernel) rfl⟩
theorem mv_X12_help : MV j_X12_help 12 3 := ⟨⟨gw_at 2081 (by decide +kernel) rfl, gw_at 221 (by decide +kernel) rfl, ⟨by decide +kernel, by decide +kernel⟩, by decide +kernel, by decide, by decide +kernel⟩, ⟨_, rfl, rfl⟩, gw_at 2079 (by decide +kernel) rfl, gw_at 2080 (by decide +kernel) rfl⟩
theorem mv_X12_helped : MV j_X12_helped 12 2 := ⟨⟨gw_at 1983 (by decide +kernel) rfl, gw_at 221 (by decide +kernel) rfl, ⟨by decide +kernel, by decide +kernel⟩, by decide +kernel, by decide, by decide +kernel⟩, ⟨_, rfl, rfl⟩, gw_at 1981 (by decide +kernel) rfl, gw_at 1982 (by decide +kernel) rfl⟩
theorem mv_X12_hour : MV j_X12_hour 12 1 := ⟨⟨gw_at 2040 (by decide +kernel) rfl, gw_at 221 (by decide +kernel) rfl, ⟨by decide +kernel, by decide +kernel⟩, by decide +kernel, by decide, by decide +kernel⟩, ⟨_, rfl, rfl⟩, gw_at 2038 (by decide +kernel) rfl, gw_at 2039 (by decide +kernel) rfl⟩
theorem mv_X12_house : MV j_X12_house 12 2 := ⟨⟨gw_at 1949 (by decide +kernel) rfl, gw_at 221 (by decide +kernel) rfl, ⟨by decide +kernel, by decide +kernel⟩, by decide +kernel, by decide, by decide +kernel⟩, ⟨_, rfl, rfl⟩, gw_at 1947 (by decide +kernel) rfl, gw_at 1948 (by decide +kernel) rfl⟩
theorem mi_X12_init : MI j_X12_init 0 := ⟨⟨gw_at 1512 (by decide +kernel) rfl, gw_at 221 (by decide +kernel) rfl, ⟨by decide +kernel, by decide +kernel⟩, by decide +kernel, by decide, by decide +kernel⟩, rfl, rfl, gw_at 1511 (by decide +kernel) rfl⟩
theorem mv_X12_lift : MV j_X12_lift 12 2 := ⟨⟨gw_at 2020 (by decide +kernel) rfl, gw_at 221 (by decide +kernel) rfl, ⟨by decide +kernel, by decide +kernel⟩, by decide +kernel, by decide, by decide +kernel⟩, ⟨_, rfl, rfl⟩, gw_at 2018 (by decide +kernel) rfl, gw_at 2019 (by decide +kernel) rfl⟩
theorem mv_X12_likeliest : MV j_X12_likeliest 12 1 := ⟨⟨gw_at 2253 (by decide +kernel) rfl, gw_at 221 (by decide +kernel) rfl, ⟨by decide +kernel, by decide +kernel⟩, by decide +kernel, by decide, by decide +kernel⟩, ⟨_, rfl, rfl⟩, gw_at 2251 (by decide +kernel) rfl, gw_at 2252 (by decide +kernel) rfl⟩
theorem mv_X12_live : MV j_X12_live 12 1 := ⟨⟨gw_at 2261 (by decide +kernel) rfl, gw_at 221 (by decide +kernel) rfl, ⟨by decide +kernel, by decide +kernel⟩, by decide +kernel, by decide, by decide +kernel⟩, ⟨_, rfl, rfl⟩, gw_at 2259 (by decide +kernel) rfl, gw_at 2260 (by decide +kernel) rfl⟩
theorem mv_X12_lived : MV j_X12_lived 12 1 := ⟨⟨gw_at 2295 (by decide +kernel) rfl, gw_at 221 (by decide +kernel) rfl, ⟨by decide +kernel, by decide +kernel⟩, by decide +kernel, by decide, by decide +kernel⟩, ⟨_, rfl, rfl⟩, gw_at 2293 (by decide +kernel) rfl, gw_at 2294 (by decide +kernel) rfl⟩
theorem mv_X12_loss : MV j_X12_loss 12 0 := ⟨⟨gw_at 2102 (by decide +kernel) rfl, gw_at 221 (by decide +kernel) rfl, ⟨by decide +kernel, by decide +kernel⟩, by decide +kernel, by decide, by decide +kernel⟩, ⟨_, rfl, rfl⟩, gw_at 2100 (by decide +kernel) rfl, gw_at 2101 (by decide +kernel) rfl⟩
theorem mv_X12_many : MV j_X12_many 12 1 := ⟨⟨gw_at 1928 (by decide +kernel) rfl, gw_at 221 (by decide +kernel) rfl, ⟨by decide +kernel, by decide +kernel⟩, by decide +kernel, by decide, by decide +kernel⟩, ⟨_, rfl, rfl⟩, gw_at 1926 (by decide +kernel) rfl, gw_at 1927 (by decide +kernel) rfl⟩
theorem mv_X12_mark : MV j_X12_mark 12 0 := ⟨⟨gw_at 2305 (by decide +kernel) rfl, gw_at 221 (by decide +kernel) rfl, ⟨by decide +kernel, by decide +kernel⟩, by decide +kernel, by decide, by decide +kernel⟩, ⟨_, rfl, rfl⟩, gw_at 2303 (by decide +kernel) rfl, gw_at 2304 (by decide +kernel) rfl⟩
theorem mv_X12_mean : MV j_X12_mean 12 2 := ⟨⟨gw_at 2300 (by decide +kernel) rfl, gw_at 221 (by decide +kernel) rfl, ⟨by decide +kernel, by decide +kernel⟩, by decide +kernel, by decide, by decide +kernel⟩, ⟨_, rfl, rfl⟩, gw_at 2298 (by decide +kernel) rfl, gw_at 2299 (by decide +kernel) rfl⟩
theorem mv_X12_neighbour : MV j_X12_neighbour 12 1 := ⟨⟨gw_at 2257 (by decide +kernel) rfl, gw_at 221 (by decide +kernel) rfl, ⟨by decide +kernel, by decide +kernel⟩, by decide +kernel, by decide, by decide +kernel⟩, ⟨_, rfl, rfl⟩, gw_at 2255 (by decide +kernel) rfl, gw_at 2256 (by decide +kernel) rfl⟩
theorem mv_X12_next_ : MV j_X12_next_ 12 1 := ⟨⟨gw_at 2000 (by decide +kernel) rfl, gw_at 221 (by decide +kernel) rfl, ⟨by decide +kernel, by decide +kernel⟩, by decide +kernel, by decide, by decide +kernel⟩, ⟨_, rfl, rfl⟩, gw_at 1998 (by decide +kernel) rfl, gw_at 1999 (by decide +kernel) rfl⟩
theorem mv_X12_order : MV j_X12_order 12 1 := ⟨⟨gw_at 2167 (by decide +kernel) rfl, gw_at 221 (by decide +kernel) rfl, ⟨by decide +kernel, by decide +kernel⟩, by decide +kernel, by decide, by decide +kernel⟩, ⟨_, rfl, rfl⟩, gw_at 2165 (by decide +kernel) rfl, gw_at 2166 (by decide +kernel) rfl⟩
theorem mv_X12_owed : MV j_X12_owed 12 0 := ⟨⟨gw_at 2213 (by decide +kernel) rfl, gw_at 221 (by decide +kernel) rfl, ⟨by decide +kernel, by decide +kernel⟩, by decide +kernel, by decide, by decide +kernel⟩, ⟨_, rfl, rfl⟩, gw_at 2211 (by decide +kernel) rfl, gw_at 2212 (by decide +kernel) rfl⟩
theorem mv_X12_pour : MV j_X12_pour 12 5 := ⟨⟨gw_at 1693 (by decide +kernel) rfl, gw_at 221 (by decide +kernel) rfl, ⟨by decide +kernel, by decide +kernel⟩, by decide +kernel, by decide, by decide +kernel⟩, ⟨_, rfl, rfl⟩, gw_at 1691 (by decide +kernel) rfl, gw_at 1692 (by decide +kernel) rfl⟩
theorem mv_X12_quits : MV j_X12_quits 12 2 := ⟨⟨gw_at 2229 (by decide +kernel) rfl, gw_at 221 (by decide +kernel) rfl, ⟨by decide +kernel, by decide +kernel⟩, by decide +kernel, by decide, by decide +kernel⟩, ⟨_, rfl, rfl⟩, gw_at 2227 (by decide +kernel) rfl, gw_at 2228 (by decide +kernel) rfl⟩
theorem mv_X12_read : MV j_X12_read 12 2 := ⟨⟨gw_at 1688 (by decide +kernel) rfl, gw_at 221 (by decide +kernel) rfl, ⟨by decide +kernel, by decide +kernel⟩, by decide +kernel, by decide, by decide +kernel⟩, ⟨_, rfl, rfl⟩, gw_at 1686 (by decide +kernel) rfl, gw_at 1687 (by decide +kernel) rfl⟩
theorem mv_X12_rest : MV j_X12_rest 12 1 := ⟨⟨gw_at 2032 (by decide +kernel) rfl, gw_at 221 (by decide +kernel) rfl, ⟨by decide +kernel, by decide +kernel⟩, by decide +kernel, by decide, by decide +kernel⟩, ⟨_, rfl, rfl⟩, gw_at 2030 (by decide +kernel) rfl, gw_at 2031 (by decide +kernel) rfl⟩
theorem mv_X12_riders : MV j_X12_riders 12 0 := ⟨⟨gw_at 2217 (by decide +kernel) rfl, gw_at 221 (by decide +kernel) rfl, ⟨by decide +kernel, by decide +kernel⟩, by decide +kernel, by decide, by decide +kernel⟩, ⟨_, rfl, rfl⟩, gw_at 2215 (by decide +kernel) rfl, gw_at 2216 (by decide +kernel) rfl⟩
theorem mv_X12_risk : MV j_X12_risk 12 1 := ⟨⟨gw_at 2089 (by decide +kernel) rfl, gw_at 221 (by decide +kernel) rfl, ⟨by decide +kernel, by decide +kernel⟩, by decide +kernel, by decide, by decide +kernel⟩, ⟨_, rfl, rfl⟩, gw_at 2087 (by decide +kernel) rfl, gw_at 2088 (by decide +kernel) rfl⟩
theorem mv_X12_saves : MV j_X12_saves 12 2 := ⟨⟨gw_at 2110 (by decide +kernel) rfl, gw_at 221 (by decide +kernel) rfl, ⟨by decide +kernel, by decide +kernel⟩, by decide +kernel, by decide, by decide +kernel⟩, ⟨_, rfl, rfl⟩, gw_at 2108 (by decide +kernel) rfl, gw_at 2109 (by decide +kernel) rfl⟩
theorem mv_X12_score : MV j_X12_score 12 3 := ⟨⟨gw_at 2183 (by decide +kernel) rfl, gw_at 221 (by decide +kernel) rfl, ⟨by decide +kernel, by decide +kernel⟩, by decide +kernel, by decide, by decide +kernel⟩, ⟨_, rfl, rfl⟩, gw_at 2181 (by decide +kernel) rfl, gw_at 2182 (by decide +kernel) rfl⟩
theorem mv_X12_shared : MV j_X12_shared 12 1 := ⟨⟨gw_at 2171 (by decide +kernel) rfl, gw_at 221 (by decide +kernel) rfl, ⟨by decide +kernel, by decide +kernel⟩, by decide +kernel, by decide, by decide +kernel⟩, ⟨_, rfl, rfl⟩, gw_at 2169 (by decide +kernel) rfl, gw_at 2170 (by decide +kernel) rfl⟩
theorem mv_X12_shore : MV j_X12_shore 12 1 := ⟨⟨gw_at 1709 (by decide +kernel) rfl, gw_at 221 (by decide +kernel) rfl, ⟨by decide +kernel, by decide +kernel⟩, by decide +kernel, by decide, by decide +kernel⟩, ⟨_, rfl, rfl⟩, gw_at 1707 (by decide +kernel) rfl, gw_at 1708 (by decide +kernel) rfl⟩
theorem mv_X12_signs : MV j_X12_signs 12 2 := ⟨⟨gw_at 2241 (by decide +kernel) rfl, gw_at 221 (by decide +kernel) rfl, ⟨by decide +kernel, by decide +kernel⟩, by decide +kernel, by decide, by decide +kernel⟩, ⟨_, rfl, rfl⟩, gw_at 2239 (by decide +kernel) rfl, gw_at 2240 (by decide +kernel) rfl⟩
theorem mv_X12_soonest : MV j_X12_soonest 12 2 := ⟨⟨gw_at 2159 (by decide +kernel) rfl, gw_at 221 (by decide +kernel) rfl, ⟨by decide +kernel, by decide +kernel⟩, by decide +kernel, by decide, by decide +kernel⟩, ⟨_, rfl, rfl⟩, gw_at 2157 (by decide +kernel) rfl, gw_at 2158 (by decide +kernel) rfl⟩
theorem mv_X12_status : MV j_X12_status 12 0 := ⟨⟨gw_at 1653 (by decide +kernel) rfl, gw_at 221 (by decide +kernel) rfl, ⟨by decide +kernel, by decide +kernel⟩, by decide +kernel, by decide, by decide +kernel⟩, ⟨_, rfl, rfl⟩, gw_at 1651 (by decide +kernel) rfl, gw_at 1652 (by decide +kernel) rfl⟩
theorem mv_X12_takes : MV j_X12_takes 12 2 := ⟨⟨gw_at 1987 (by decide +kernel) rfl, gw_at 221 (by decide +kernel) rfl, ⟨by decide +kernel, by decide +kernel⟩, by decide +kernel, by decide, by decide +kernel⟩, ⟨_, rfl, rfl⟩, gw_at 1985 (by decide +kernel) rfl, gw_at 1986 (by decide +kernel) rfl⟩
theorem mv_X12_top : MV j_X12_top 12 0 := ⟨⟨gw_at 1657 (by decide +kernel) rfl, gw_at 221 (by decide +kernel) rfl, ⟨by decide +kernel, by decide +kernel⟩, by decide +kernel, by decide, by decide +kernel⟩, ⟨_, rfl, rfl⟩, gw_at 1655 (by decide +kernel) rfl, gw_at 1656 (by decide +kernel) rfl⟩
theorem mv_X12_tray : MV j_X12_tray 12 3 := ⟨⟨gw_at 1665 (by decide +kernel) rfl, gw_at 221 (by decide +kernel) rfl, ⟨by decide +kernel, by decide +kernel⟩, by decide +kernel, by decide, by decide +kernel⟩, ⟨_, rfl, rfl⟩, gw_at 1663 (by decide +kernel) rfl, gw_at 1664 (by decide +kernel) rfl⟩
theorem mv_X12_walk : MV j_X12_walk 12 2 := ⟨⟨gw_at 1991 (by decide +kernel) rfl, gw_at 221 (by decide +kernel) rfl, ⟨by decide +kernel, by decide +kernel⟩, by decide +kernel, by decide, by decide +kernel⟩, ⟨_, rfl, rfl⟩, gw_at 1989 (by decide +kernel) rfl, gw_at 1990 (by decide +kernel) rfl⟩
theorem mv_X12_wind : MV j_X12_wind 12 2 := ⟨⟨gw_at 1979 (by decide +kernel) rfl, gw_at 221 (by decide +kernel) rfl, ⟨by decide +kernel, by decide +kernel⟩, by decide +kernel, by decide, by decide +kernel⟩, ⟨_, rfl, rfl⟩, gw_at 1977 (by decide +kernel) rfl, gw_at 1978 (by decide +kernel) rfl⟩
theorem mv_X12_words : MV j_X12_words 12 3 := ⟨⟨gw_at 2209 (by decide +kernel) rfl, gw_at 221 (by decide +kernel) rfl, ⟨by decide +kernel, by decide +kernel⟩, by decide +kernel, by decide, by decide +kernel⟩, ⟨_, rfl, rfl⟩, gw_at 2207 (by decide +kernel) rfl, gw_at 2208 (by decide +kernel) rfl⟩
theorem mv_X12_worstWind : MV j_X12_worstWind 12 0 := ⟨⟨gw_at 2126 (by decide +kernel) rfl, gw_at 221 (by decide +kernel) rfl, ⟨by decide +kernel, by decide +kernel⟩, by decide +kernel, by decide, by decide +kernel⟩, ⟨_, rfl, rfl⟩, gw_at 2124 (by decide +kernel) rfl, gw_at 2125 (by decide +kernel) rfl⟩
theorem mv_X12_write : MV j_X12_write 12 3 := ⟨⟨gw_at 1673 (by decide +kernel) rfl, gw_at 221 (by decide +kernel) rfl, ⟨by decide +kernel, by decide +kernel⟩, by decide +kernel, by decide, by decide +kernel⟩, ⟨_, rfl, rfl⟩, gw_at 1671 (by decide +kernel) rfl, gw_at 1672 (by decide +kernel) rfl⟩
theorem mv_X12_years : MV j_X12_years 12 1 := ⟨⟨gw_at 1912 (by decide +kernel) rfl, gw_at 221 (by decide +kernel) rfl, ⟨by decide +kernel, by decide +kernel⟩, by decide +kernel, by decide, by decide +kernel⟩, ⟨_, rfl, rfl⟩, gw_at 1910 (by decide +kernel) rfl, gw_at 1911 (by decide +kernel) rfl⟩
theorem ml_L_9 : MLk RL 9 j_X11_init.1 := Or.inl (gw_at 229 (by decide +kernel) rfl)
theorem ml_L_12 : MLk RL 12 j_X12_init.1 := Or.inl (gw_at 1510 (by decide +kernel) rfl)
theorem ml_L_13 : MLk RL 13 j_X11_status.1 := Or.inl (gw_at 742 (by decide +kernel) rfl)
theorem ml_L_17 : MLk RL 17 j_X12_status.1 := Or.inl (gw_at 1650 (by decide +kernel) rfl)
theorem ml_L_18 : MLk RL 18 j_X11_top.1 := Or.inl (gw_at 746 (by decide +kernel) rfl)
theorem ml_L_22 : MLk RL 22 j_X12_top.1 := Or.inl (gw_at 1654 (by decide +kernel) rfl)
theorem ml_L_23 : MLk RL 23 j_X11_bottom.1 := Or.inl (gw_at 750 (by decide +kernel) rfl)
theorem ml_L_26 : MLk RL 26 j_X12_bottom.1 := Or.inl (gw_at 1658 (by decide +kernel) rfl)
theorem ml_L_27 : MLk RL 27 j_X11_tray.1 := Or.inl (gw_at 754 (by decide +kernel) rfl)
theorem ml_L_31 : MLk RL 31 j_X12_tray.1 := Or.inl (gw_at 1662 (by decide +kernel) rfl)
theorem ml_L_34 : MLk RL 34 j_X11_write.1 := Or.inl (gw_at 777 (by decide +kernel) rfl)
theorem ml_L_38 : MLk RL 38 j_X12_write.1 := Or.inl (gw_at 1670 (by decide +kernel) rfl)
theorem ml_L_39 : MLk RL 39 j_X11_read.1 := Or.inl (gw_at 798 (by decide +kernel) rfl)
theorem ml_L_43 : MLk RL 43 j_X12_read.1 := Or.inl (gw_at 1685 (by decide +kernel) rfl)
theorem ml_L_44 : MLk RL 44 j_X11_pour.1 := Or.inl (gw_at 806 (by decide +kernel) rfl)
theorem ml_L_48 : MLk RL 48 j_X12_pour.1 := Or.inl (gw_at 1690 (by decide +kernel) rfl)
theorem ml_L_49 : MLk RL 49 j_X11_feed.1 := Or.inl (gw_at 815 (by decide +kernel) rfl)
theorem ml_L_53 : MLk RL 53 j_X12_feed.1 := Or.inl (gw_at 1694 (by decide +kernel) rfl)
theorem ml_L_54 : MLk RL 54 j_X11_shore.1 := Or.inl (gw_at 823 (by decide +kernel) rfl)
theorem ml_L_58 : MLk RL 58 j_X12_shore.1 := Or.inl (gw_at 1706 (by decide +kernel) rfl)
theorem ml_L_59 : MLk RL 59 j_X11_years.1 := Or.inl (gw_at 969 (by decide +kernel) rfl)
theorem ml_L_62 : MLk RL 62 j_X12_years.1 := Or.inl (gw_at 1909 (by decide +kernel) rfl)
theorem ml_L_63 : MLk RL 63 j_X11_fault.1 := Or.inl (gw_at 1030 (by decide +kernel) rfl)
theorem ml_L_66 : MLk RL 66 j_X12_fault.1 := Or.inl (gw_at 1702 (by decide +kernel) rfl)
theorem ml_L_67 : MLk RL 67 j_X11_many.1 := Or.inl (gw_at 1034 (by decide +kernel) rfl)
theorem ml_L_70 : MLk RL 70 j_X12_many.1 := Or.inl (gw_at 1925 (by decide +kernel) rfl)
theorem ml_L_71 : MLk RL 71 j_X11_house.1 := Or.inl (gw_at 1063 (by decide +kernel) rfl)
theorem ml_L_75 : MLk RL 75 j_X12_house.1 := Or.inl (gw_at 1946 (by decide +kernel) rfl)
theorem ml_L_76 : MLk RL 76 j_X11_gang.1 := Or.inl (gw_at 1079 (by decide +kernel) rfl)
theorem ml_L_79 : MLk RL 79 j_X12_gang.1 := Or.inl (gw_at 1963 (by decide +kernel) rfl)
theorem ml_L_80 : MLk RL 80 j_X11_wind.1 := Or.inl (gw_at 1091 (by decide +kernel) rfl)
theorem ml_L_83 : MLk RL 83 j_X12_wind.1 := Or.inl (gw_at 1976 (by decide +kernel) rfl)
theorem ml_L_84 : MLk RL 84 j_X11_helped.1 := Or.inl (gw_at 1095 (by decide +kernel) rfl)
theorem ml_L_87 : MLk RL 87 j_X12_helped.1 := Or.inl (gw_at 1980 (by decide +kernel) rfl)
theorem ml_L_88 : MLk RL 88 j_X11_takes.1 := Or.inl (gw_at 1099 (by decide +kernel) rfl)
theorem ml_L_91 : MLk RL 91 j_X12_takes.1 := Or.inl (gw_at 1984 (by decide +kernel) rfl)
theorem ml_L_92 : MLk RL 92 j_X11_walk.1 := Or.inl (gw_at 1110 (by decide +kernel) rfl)
theorem ml_L_95 : MLk RL 95 j_X12_walk.1 := Or.inl (gw_at 1988 (by decide +kernel) rfl)
theorem ml_L_96 : MLk RL 96 j_X11_next.1 := Or.inl (gw_at 1121 (by decide +kernel) rfl)
theorem ml_L_99 : MLk RL 99 j_X12_next_.1 := Or.inl (gw_at 1997 (by decide +kernel) rfl)
theorem ml_L_100 : MLk RL 100 j_X11_lift.1 := Or.inl (gw_at 1139 (by decide +kernel) rfl)
theorem ml_L_103 : MLk RL 103 j_X12_lift.1 := Or.inl (gw_at 2017 (by decide +kernel) rfl)
theorem ml_L_104 : MLk RL 104 j_X11_rest.1 := Or.inl (gw_at 1150 (by decide +kernel) rfl)
theorem ml_L_108 : MLk RL 108 j_X12_rest.1 := Or.inl (gw_at 2029 (by decide +kernel) rfl)
theorem ml_L_109 : MLk RL 109 j_X11_hour.1 := Or.inl (gw_at 1155 (by decide +kernel) rfl)
theorem ml_L_112 : MLk RL 112 j_X12_hour.1 := Or.inl (gw_at 2037 (by decide +kernel) rfl)
theorem ml_L_113 : MLk RL 113 j_X11_gale.1 := Or.inl (gw_at 1186 (by decide +kernel) rfl)
theorem ml_L_116 : MLk RL 116 j_X12_gale.1 := Or.inl (gw_at 2051 (by decide +kernel) rfl)
theorem ml_L_117 : MLk RL 117 j_X11_dawn.1 := Or.inl (gw_at 1205 (by decide +kernel) rfl)
theorem ml_L_120 : MLk RL 120 j_X12_dawn.1 := Or.inl (gw_at 2070 (by decide +kernel) rfl)
theorem ml_L_121 : MLk RL 121 j_X11_help.1 := Or.inl (gw_at 1213 (by decide +kernel) rfl)
theorem ml_L_125 : MLk RL 125 j_X12_help.1 := Or.inl (gw_at 2078 (by decide +kernel) rfl)
theorem ml_L_126 : MLk RL 126 j_X11_falls.1 := Or.inl (gw_at 1217 (by decide +kernel) rfl)
theorem ml_L_129 : MLk RL 129 j_X12_falls.1 := Or.inl (gw_at 2082 (by decide +kernel) rfl)
theorem ml_L_130 : MLk RL 130 j_X11_risk.1 := Or.inl (gw_at 1222 (by decide +kernel) rfl)
theorem ml_L_133 : MLk RL 133 j_X12_risk.1 := Or.inl (gw_at 2086 (by decide +kernel) rfl)
theorem ml_L_134 : MLk RL 134 j_X11_loss.1 := Or.inl (gw_at 1240 (by decide +kernel) rfl)
theorem ml_L_138 : MLk RL 138 j_X12_loss.1 := Or.inl (gw_at 2099 (by decide +kernel) rfl)
theorem ml_L_139 : MLk RL 139 j_X11_saves.1 := Or.inl (gw_at 1249 (by decide +kernel) rfl)
theorem ml_L_143 : MLk RL 143 j_X12_saves.1 := Or.inl (gw_at 2107 (by decide +kernel) rfl)
theorem ml_L_144 : MLk RL 144 j_X11_dearest.1 := Or.inl (gw_at 1270 (by decide +kernel) rfl)
theorem ml_L_147 : MLk RL 147 j_X12_dearest.1 := Or.inl (gw_at 2119 (by decide +kernel) rfl)
theorem ml_L_148 : MLk RL 148 j_X11_worstWind.1 := Or.inl (gw_at 1275 (by decide +kernel) rfl)
theorem ml_L_151 : MLk RL 151 j_X12_worstWind.1 := Or.inl (gw_at 2123 (by decide +kernel) rfl)
theorem ml_L_152 : MLk RL 152 j_X11_best.1 := Or.inl (gw_at 1279 (by decide +kernel) rfl)
theorem ml_L_155 : MLk RL 155 j_X12_best.1 := Or.inl (gw_at 2131 (by decide +kernel) rfl)
theorem ml_L_156 : MLk RL 156 j_X11_bestSet.1 := Or.inl (gw_at 1301 (by decide +kernel) rfl)
theorem ml_L_159 : MLk RL 159 j_X12_bestSet.1 := Or.inl (gw_at 2152 (by decide +kernel) rfl)
theorem ml_L_160 : MLk RL 160 j_X11_soonest.1 := Or.inl (gw_at 1305 (by decide +kernel) rfl)
theorem ml_L_163 : MLk RL 163 j_X12_soonest.1 := Or.inl (gw_at 2156 (by decide +kernel) rfl)
theorem ml_L_164 : MLk RL 164 j_X11_order.1 := Or.inl (gw_at 1324 (by decide +kernel) rfl)
theorem ml_L_167 : MLk RL 167 j_X12_order.1 := Or.inl (gw_at 2164 (by decide +kernel) rfl)
theorem ml_L_168 : MLk RL 168 j_X11_shared.1 := Or.inl (gw_at 1328 (by decide +kernel) rfl)
theorem ml_L_171 : MLk RL 171 j_X12_shared.1 := Or.inl (gw_at 2168 (by decide +kernel) rfl)
theorem ml_L_172 : MLk RL 172 j_X11_allOff.1 := Or.inl (gw_at 1345 (by decide +kernel) rfl)
theorem ml_L_175 : MLk RL 175 j_X12_allOff.1 := Or.inl (gw_at 2176 (by decide +kernel) rfl)
theorem ml_L_176 : MLk RL 176 j_X11_score.1 := Or.inl (gw_at 1349 (by decide +kernel) rfl)
theorem ml_L_179 : MLk RL 179 j_X12_score.1 := Or.inl (gw_at 2180 (by decide +kernel) rfl)
theorem ml_L_180 : MLk RL 180 j_X11_words.1 := Or.inl (gw_at 1366 (by decide +kernel) rfl)
theorem ml_L_183 : MLk RL 183 j_X12_words.1 := Or.inl (gw_at 2206 (by decide +kernel) rfl)
theorem ml_L_184 : MLk RL 184 j_X11_owed.1 := Or.inl (gw_at 1375 (by decide +kernel) rfl)
theorem ml_L_187 : MLk RL 187 j_X12_owed.1 := Or.inl (gw_at 2210 (by decide +kernel) rfl)
theorem ml_L_188 : MLk RL 188 j_X11_riders.1 := Or.inl (gw_at 1379 (by decide +kernel) rfl)
theorem ml_L_191 : MLk RL 191 j_X12_riders.1 := Or.inl (gw_at 2214 (by decide +kernel) rfl)
theorem ml_L_192 : MLk RL 192 j_X11_chain.1 := Or.inl (gw_at 1391 (by decide +kernel) rfl)
theorem ml_L_195 : MLk RL 195 j_X12_chain.1 := Or.inl (gw_at 2222 (by decide +kernel) rfl)
theorem ml_L_196 : MLk RL 196 j_X11_quits.1 := Or.inl (gw_at 1399 (by decide +kernel) rfl)
theorem ml_L_199 : MLk RL 199 j_X12_quits.1 := Or.inl (gw_at 2226 (by decide +kernel) rfl)
theorem ml_L_200 : MLk RL 200 j_X11_ground.1 := Or.inl (gw_at 1403 (by decide +kernel) rfl)
theorem ml_L_203 : MLk RL 203 j_X12_ground.1 := Or.inl (gw_at 2230 (by decide +kernel) rfl)
theorem ml_L_204 : MLk RL 204 j_X11_signs.1 := Or.inl (gw_at 1414 (by decide +kernel) rfl)
theorem ml_L_207 : MLk RL 207 j_X12_signs.1 := Or.inl (gw_at 2238 (by decide +kernel) rfl)
theorem ml_L_208 : MLk RL 208 j_X11_flown.1 := Or.inl (gw_at 1422 (by decide +kernel) rfl)
theorem ml_L_211 : MLk RL 211 j_X12_flown.1 := Or.inl (gw_at 2242 (by decide +kernel) rfl)
theorem ml_L_212 : MLk RL 212 j_X11_likeliest.1 := Or.inl (gw_at 1434 (by decide +kernel) rfl)
theorem ml_L_215 : MLk RL 215 j_X12_likeliest.1 := Or.inl (gw_at 2250 (by decide +kernel) rfl)
theorem ml_L_216 : MLk RL 216 j_X11_neighbour.1 := Or.inl (gw_at 1438 (by decide +kernel) rfl)
theorem ml_L_219 : MLk RL 219 j_X12_neighbour.1 := Or.inl (gw_at 2254 (by decide +kernel) rfl)
theorem ml_L_220 : MLk RL 220 j_X11_live.1 := Or.inl (gw_at 1443 (by decide +kernel) rfl)
theorem ml_L_223 : MLk RL 223 j_X12_live.1 := Or.inl (gw_at 2258 (by decide +kernel) rfl)
theorem ml_L_224 : MLk RL 224 j_X11_lived.1 := Or.inl (gw_at 1487 (by decide +kernel) rfl)
theorem ml_L_227 : MLk RL 227 j_X12_lived.1 := Or.inl (gw_at 2292 (by decide +kernel) rfl)
theorem ml_L_228 : MLk RL 228 j_X11_mean.1 := Or.inl (gw_at 1491 (by decide +kernel) rfl)
theorem ml_L_231 : MLk RL 231 j_X12_mean.1 := Or.inl (gw_at 2297 (by decide +kernel) rfl)
theorem ml_L_232 : MLk RL 232 j_X11_mark.1 := Or.inl (gw_at 1495 (by decide +kernel) rfl)
theorem ml_L_235 : MLk RL 235 j_X12_mark.1 := Or.inl (gw_at 2302 (by decide +kernel) rfl)
theorem ml_L_236 : MLk RL 236 j_X11_back.1 := Or.inl (gw_at 1504 (by decide +kernel) rfl)
theorem ml_L_239 : MLk RL 239 j_X12_back.1 := Or.inl (gw_at 2306 (by decide +kernel) rfl)
def f_L_law_1702 (L : Nat) (xs : Nat → Int32) (k18 : Mm → Option Nat → Option Nat → Int32 → Option (Int32 × Mm)) (M : Mm) (l1 : Option Nat) (l2 : Option Nat) (l3 : Int32) : Option (Int32 × Mm) := k18 M l1 l2 (l3 + 6)
def f_L_law_260 (L : Nat) (xs : Nat → Int32) (k18 : Mm → Option Nat → Option Nat → Int32 → Option (Int32 × Mm)) (M : Mm) (l1 : Option Nat) (l2 : Option Nat) (l3 : Int32) : Option (Int32 × Mm) := ck M l1 11 <| bd (f_X11_status M l1) fun v261 M261 => ck M261 l2 12 <| bd (f_X12_status M261 l2) fun v265 M265 => if v261 = v265 then (f_L_law_1702 L xs k18 M265 l1 l2 l3) else (some (0, M265))
def f_L_law_273 (L : Nat) (xs : Nat → Int32) (k18 : Mm → Option Nat → Option Nat → Int32 → Option (Int32 × Mm)) (M : Mm) (l1 : Option Nat) (l2 : Option Nat) (l3 : Int32) : Option (Int32 × Mm) := ck M l1 11 <| bd (f_X11_top M l1) fun v274 M274 => ck M274 l2 12 <| bd (f_X12_top M274 l2) fun v278 M278 => if (lg_cmp v274 v278) = 0 then (f_L_law_1702 L xs k18 M278 l1 l2 l3) else (some (0, M278))
def f_L_law_287 (L : Nat) (xs : Nat → Int32) (k18 : Mm → Option Nat → Option Nat → Int32 → Option (Int32 × Mm)) (M : Mm) (l1 : Option Nat) (l2 : Option Nat) (l3 : Int32) : Option (Int32 × Mm) := ck M l1 11 <| bd (f_X11_bottom M l1) fun v288 M288 => ck M288 l2 12 <| bd (f_X12_bottom M288 l2) fun v292 M292 => if (lg_cmp v288 v292) = 0 then (f_L_law_1702 L xs k18 M292 l1 l2 l3) else (some (0, M292))
def f_L_law_301 (L : Nat) (xs : Nat → Int32) (k18 : Mm → Option Nat → Option Nat → Int32 → Option (Int32 × Mm)) (M : Mm) (l1 : Option Nat) (l2 : Option Nat) (l3 : Int32) : Option (Int32 × Mm) := slI L xs (l3 + 1) fun v306 => slI L xs (l3 + 2) fun v311 => slI L xs (l3 + 3) fun v316 => ck M l1 11 <| bd (f_X11_tray M l1 v306 v311 v316) fun v317 M317 => slI L xs (l3 + 1) fun v325 => slI L xs (l3 + 2) fun v330 => slI L xs (l3 + 3) fun v335 => ck M317 l2 12 <| bd (f_X12_tray M317 l2 v325 v330 v335) fun v336 M336 => if v317 = v336 then (f_L_law_1702 L xs k18 M336 l1 l2 l3) else (some (0, M336))
def f_L_law_344 (L : Nat) (xs : Nat → Int32) (k18 : Mm → Option Nat → Option Nat → Int32 → Option (Int32 × Mm)) (M : Mm) (l1 : Option Nat) (l2 : Option Nat) (l3 : Int32) : Option (Int32 × Mm) := slI L xs (l3 + 1) fun v349 => slI L xs (l3 + 2) fun v354 => slI L xs (l3 + 3) fun v359 => slI L xs (l3 + 4) fun v368 => ck M l1 11 <| bd (f_X11_write M l1 v349 v354 (((Int32.toInt64 v359) <<< (Int32.toInt64 32 &&& 63)) ||| ((Int32.toInt64 v368) &&& 4294967295))) fun v375 M375 => slI L xs (l3 + 1) fun v383 => slI L xs (l3 + 2) fun v388 => slI L xs (l3 + 3) fun v393 => slI L xs (l3 + 4) fun v402 => ck M375 l2 12 <| bd (f_X12_write M375 l2 v383 v388 (((Int32.toInt64 v393) <<< (Int32.toInt64 32 &&& 63)) ||| ((Int32.toInt64 v402) &&& 4294967295))) fun v409 M409 => if v375 = v409 then (f_L_law_1702 L xs k18 M409 l1 l2 l3) else (some (0, M409))
def f_L_law_417 (L : Nat) (xs : Nat → Int32) (k18 : Mm → Option Nat → Option Nat → Int32 → Option (Int32 × Mm)) (M : Mm) (l1 : Option Nat) (l2 : Option Nat) (l3 : Int32) : Option (Int32 × Mm) := slI L xs (l3 + 1) fun v422 => slI L xs (l3 + 2) fun v427 => ck M l1 11 <| bd (f_X11_read M l1 v422 v427) fun v428 M428 => slI L xs (l3 + 1) fun v436 => slI L xs (l3 + 2) fun v441 => ck M428 l2 12 <| bd (f_X12_read M428 l2 v436 v441) fun v442 M442 => if (lg_cmp v428 v442) = 0 then (f_L_law_1702 L xs k18 M442 l1 l2 l3) else (some (0, M442))
def f_L_law_451 (L : Nat) (xs : Nat → Int32) (k18 : Mm → Option Nat → Option Nat → Int32 → Option (Int32 × Mm)) (M : Mm) (l1 : Option Nat) (l2 : Option Nat) (l3 : Int32) : Option (Int32 × Mm) := slI L xs (l3 + 1) fun v456 => slI L xs (l3 + 2) fun v461 => slI L xs (l3 + 3) fun v466 => slI L xs (l3 + 4) fun v471 => slI L xs (l3 + 5) fun v476 => ck M l1 11 <| bd (f_X11_pour M l1 v456 v461 v466 v471 v476) fun v477 M477 => slI L xs (l3 + 1) fun v485 => slI L xs (l3 + 2) fun v490 => slI L xs (l3 + 3) fun v495 => slI L xs (l3 + 4) fun v500 => slI L xs (l3 + 5) fun v505 => ck M477 l2 12 <| bd (f_X12_pour M477 l2 v485 v490 v495 v500 v505) fun v506 M506 => if v477 = v506 then (f_L_law_1702 L xs k18 M506 l1 l2 l3) else (some (0, M506))
def f_L_law_514 (L : Nat) (xs : Nat → Int32) (k18 : Mm → Option Nat → Option Nat → Int32 → Option (Int32 × Mm)) (M : Mm) (l1 : Option Nat) (l2 : Option Nat) (l3 : Int32) : Option (Int32 × Mm) := slI L xs (l3 + 1) fun v519 => slI L xs (l3 + 2) fun v524 => slI L xs (l3 + 3) fun v529 => slI L xs (l3 + 4) fun v534 => slI L xs (l3 + 5) fun v539 => ck M l1 11 <| bd (f_X11_feed M l1 v519 v524 v529 v534 v539) fun v540 M540 => slI L xs (l3 + 1) fun v548 => slI L xs (l3 + 2) fun v553 => slI L xs (l3 + 3) fun v558 => slI L xs (l3 + 4) fun v563 => slI L xs (l3 + 5) fun v568 => ck M540 l2 12 <| bd (f_X12_feed M540 l2 v548 v553 v558 v563 v568) fun v569 M569 => if v540 = v569 then (f_L_law_1702 L xs k18 M569 l1 l2 l3) else (some (0, M569))
def f_L_law_577 (L : Nat) (xs : Nat → Int32) (k18 : Mm → Option Nat → Option Nat → Int32 → Option (Int32 × Mm)) (M : Mm) (l1 : Option Nat) (l2 : Option Nat) (l3 : Int32) : Option (Int32 × Mm) := slI L xs (l3 + 1) fun v582 => ck M l1 11 <| bd (f_X11_shore M l1 v582) fun v583 M583 => slI L xs (l3 + 1) fun v591 => ck M583 l2 12 <| bd (f_X12_shore M583 l2 v591) fun v592 M592 => if v583 = v592 then (f_L_law_1702 L xs k18 M592 l1 l2 l3) else (some (0, M592))
def f_L_law_600 (L : Nat) (xs : Nat → Int32) (k18 : Mm → Option Nat → Option Nat → Int32 → Option (Int32 × Mm)) (M : Mm) (l1 : Option Nat) (l2 : Option Nat) (l3 : Int32) : Option (Int32 × Mm) := slI L xs (l3 + 1) fun v605 => ck M l1 11 <| bd (f_X11_years M l1 v605) fun v606 M606 => slI L xs (l3 + 1) fun v614 => ck M606 l2 12 <| bd (f_X12_years M606 l2 v614) fun v615 M615 => if v606 = v615 then (f_L_law_1702 L xs k18 M615 l1 l2 l3) else (some (0, M615))
def f_L_law_623 (L : Nat) (xs : Nat → Int32) (k18 : Mm → Option Nat → Option Nat → Int32 → Option (Int32 × Mm)) (M : Mm) (l1 : Option Nat) (l2 : Option Nat) (l3 : Int32) : Option (Int32 × Mm) := slI L xs (l3 + 1) fun v628 => ck M l1 11 <| bd (f_X11_fault M l1 v628) fun v629 M629 => slI L xs (l3 + 1) fun v637 => ck M629 l2 12 <| bd (f_X12_fault M629 l2 v637) fun v638 M638 => if v629 = v638 then (f_L_law_1702 L xs k18 M638 l1 l2 l3) else (some (0, M638))
def f_L_law_646 (L : Nat) (xs : Nat → Int32) (k18 : Mm → Option Nat → Option Nat → Int32 → Option (Int32 × Mm)) (M : Mm) (l1 : Option Nat) (l2 : Option Nat) (l3 : Int32) : Option (Int32 × Mm) := slI L xs (l3 + 1) fun v651 => ck M l1 11 <| bd (f_X11_many M l1 v651) fun v652 M652 => slI L xs (l3 + 1) fun v660 => ck M652 l2 12 <| bd (f_X12_many M652 l2 v660) fun v661 M661 => if v652 = v661 then (f_L_law_1702 L xs k18 M661 l1 l2 l3) else (some (0, M661))
def f_L_law_669 (L : Nat) (xs : Nat → Int32) (k18 : Mm → Option Nat → Option Nat → Int32 → Option (Int32 × Mm)) (M : Mm) (l1 : Option Nat) (l2 : Option Nat) (l3 : Int32) : Option (Int32 × Mm) := slI L xs (l3 + 1) fun v674 => slI L xs (l3 + 2) fun v679 => ck M l1 11 <| bd (f_X11_house M l1 v674 v679) fun v680 M680 => slI L xs (l3 + 1) fun v688 => slI L xs (l3 + 2) fun v693 => ck M680 l2 12 <| bd (f_X12_house M680 l2 v688 v693) fun v694 M694 => if v680 = v694 then (f_L_law_1702 L xs k18 M694 l1 l2 l3) else (some (0, M694))
def f_L_law_702 (L : Nat) (xs : Nat → Int32) (k18 : Mm → Option Nat → Option Nat → Int32 → Option (Int32 × Mm)) (M : Mm) (l1 : Option Nat) (l2 : Option Nat) (l3 : Int32) : Option (Int32 × Mm) := slI L xs (l3 + 1) fun v707 => slI L xs (l3 + 2) fun v712 => ck M l1 11 <| bd (f_X11_gang M l1 v707 v712) fun v713 M713 => slI L xs (l3 + 1) fun v721 => slI L xs (l3 + 2) fun v726 => ck M713 l2 12 <| bd (f_X12_gang M713 l2 v721 v726) fun v727 M727 => if v713 = v727 then (f_L_law_1702 L xs k18 M727 l1 l2 l3) else (some (0, M727))
def f_L_law_735 (L : Nat) (xs : Nat → Int32) (k18 : Mm → Option Nat → Option Nat → Int32 → Option (Int32 × Mm)) (M : Mm) (l1 : Option Nat) (l2 : Option Nat) (l3 : Int32) : Option (Int32 × Mm) := slI L xs (l3 + 1) fun v740 => slI L xs (l3 + 2) fun v745 => ck M l1 11 <| bd (f_X11_wind M l1 v740 v745) fun v746 M746 => slI L xs (l3 + 1) fun v754 => slI L xs (l3 + 2) fun v759 => ck M746 l2 12 <| bd (f_X12_wind M746 l2 v754 v759) fun v760 M760 => if v746 = v760 then (f_L_law_1702 L xs k18 M760 l1 l2 l3) else (some (0, M760))
def f_L_law_768 (L : Nat) (xs : Nat → Int32) (k18 : Mm → Option Nat → Option Nat → Int32 → Option (Int32 × Mm)) (M : Mm) (l1 : Option Nat) (l2 : Option Nat) (l3 : Int32) : Option (Int32 × Mm) := slI L xs (l3 + 1) fun v773 => slI L xs (l3 + 2) fun v778 => ck M l1 11 <| bd (f_X11_helped M l1 v773 v778) fun v779 M779 => slI L xs (l3 + 1) fun v787 => slI L xs (l3 + 2) fun v792 => ck M779 l2 12 <| bd (f_X12_helped M779 l2 v787 v792) fun v793 M793 => if v779 = v793 then (f_L_law_1702 L xs k18 M793 l1 l2 l3) else (some (0, M793))
def f_L_law_801 (L : Nat) (xs : Nat → Int32) (k18 : Mm → Option Nat → Option Nat → Int32 → Option (Int32 × Mm)) (M : Mm) (l1 : Option Nat) (l2 : Option Nat) (l3 : Int32) : Option (Int32 × Mm) := slI L xs (l3 + 1) fun v806 => slI L xs (l3 + 2) fun v811 => ck M l1 11 <| bd (f_X11_takes M l1 v806 v811) fun v812 M812 => slI L xs (l3 + 1) fun v820 => slI L xs (l3 + 2) fun v825 => ck M812 l2 12 <| bd (f_X12_takes M812 l2 v820 v825) fun v826 M826 => if v812 = v826 then (f_L_law_1702 L xs k18 M826 l1 l2 l3) else (some (0, M826))
def f_L_law_834 (L : Nat) (xs : Nat → Int32) (k18 : Mm → Option Nat → Option Nat → Int32 → Option (Int32 × Mm)) (M : Mm) (l1 : Option Nat) (l2 : Option Nat) (l3 : Int32) : Option (Int32 × Mm) := slI L xs (l3 + 1) fun v839 => slI L xs (l3 + 2) fun v844 => ck M l1 11 <| bd (f_X11_walk M l1 v839 v844) fun v845 M845 => slI L xs (l3 + 1) fun v853 => slI L xs (l3 + 2) fun v858 => ck M845 l2 12 <| bd (f_X12_walk M845 l2 v853 v858) fun v859 M859 => if v845 = v859 then (f_L_law_1702 L xs k18 M859 l1 l2 l3) else (some (0, M859))
def f_L_law_867 (L : Nat) (xs : Nat → Int32) (k18 : Mm → Option Nat → Option Nat → Int32 → Option (Int32 × Mm)) (M : Mm) (l1 : Option Nat) (l2 : Option Nat) (l3 : Int32) : Option (Int32 × Mm) := slI L xs (l3 + 1) fun v872 => ck M l1 11 <| bd (f_X11_next M l1 v872) fun v873 M873 => slI L xs (l3 + 1) fun v881 => ck M873 l2 12 <| bd (f_X12_next_ M873 l2 v881) fun v882 M882 => if v873 = v882 then (f_L_law_1702 L xs k18 M882 l1 l2 l3) else (some (0, M882))
def f_L_law_890 (L : Nat) (xs : Nat → Int32) (k18 : Mm → Option Nat → Option Nat → Int32 → Option (Int32 × Mm)) (M : Mm) (l1 : Option Nat) (l2 : Option Nat) (l3 : Int32) : Option (Int32 × Mm) := slI L xs (l3 + 1) fun v895 => slI L xs (l3 + 2) fun v900 => ck M l1 11 <| bd (f_X11_lift M l1 v895 v900) fun v901 M901 => slI L xs (l3 + 1) fun v909 => slI L xs (l3 + 2) fun v914 => ck M901 l2 12 <| bd (f_X12_lift M901 l2 v909 v914) fun v915 M915 => if v901 = v915 then (f_L_law_1702 L xs k18 M915 l1 l2 l3) else (some (0, M915))
def f_L_law_923 (L : Nat) (xs : Nat → Int32) (k18 : Mm → Option Nat → Option Nat → Int32 → Option (Int32 × Mm)) (M : Mm) (l1 : Option Nat) (l2 : Option Nat) (l3 : Int32) : Option (Int32 × Mm) := slI L xs (l3 + 1) fun v928 => ck M l1 11 <| bd (f_X11_rest M l1 v928) fun v929 M929 => slI L xs (l3 + 1) fun v937 => ck M929 l2 12 <| bd (f_X12_rest M929 l2 v937) fun v938 M938 => if v929 = v938 then (f_L_law_1702 L xs k18 M938 l1 l2 l3) else (some (0, M938))
def f_L_law_946 (L : Nat) (xs : Nat → Int32) (k18 : Mm → Option Nat → Option Nat → Int32 → Option (Int32 × Mm)) (M : Mm) (l1 : Option Nat) (l2 : Option Nat) (l3 : Int32) : Option (Int32 × Mm) := slI L xs (l3 + 1) fun v951 => ck M l1 11 <| bd (f_X11_hour M l1 v951) fun v952 M952 => slI L xs (l3 + 1) fun v960 => ck M952 l2 12 <| bd (f_X12_hour M952 l2 v960) fun v961 M961 => if v952 = v961 then (f_L_law_1702 L xs k18 M961 l1 l2 l3) else (some (0, M961))
def f_L_law_969 (L : Nat) (xs : Nat → Int32) (k18 : Mm → Option Nat → Option Nat → Int32 → Option (Int32 × Mm)) (M : Mm) (l1 : Option Nat) (l2 : Option Nat) (l3 : Int32) : Option (Int32 × Mm) := slI L xs (l3 + 1) fun v974 => ck M l1 11 <| bd (f_X11_gale M l1 v974) fun v975 M975 => slI L xs (l3 + 1) fun v983 => ck M975 l2 12 <| bd (f_X12_gale M975 l2 v983) fun v984 M984 => if v975 = v984 then (f_L_law_1702 L xs k18 M984 l1 l2 l3) else (some (0, M984))
def f_L_law_992 (L : Nat) (xs : Nat → Int32) (k18 : Mm → Option Nat → Option Nat → Int32 → Option (Int32 × Mm)) (M : Mm) (l1 : Option Nat) (l2 : Option Nat) (l3 : Int32) : Option (Int32 × Mm) := ck M l1 11 <| bd (f_X11_dawn M l1) fun v993 M993 => ck M993 l2 12 <| bd (f_X12_dawn M993 l2) fun v997 M997 => if v993 = v997 then (f_L_law_1702 L xs k18 M997 l1 l2 l3) else (some (0, M997))
def f_L_law_1005 (L : Nat) (xs : Nat → Int32) (k18 : Mm → Option Nat → Option Nat → Int32 → Option (Int32 × Mm)) (M : Mm) (l1 : Option Nat) (l2 : Option Nat) (l3 : Int32) : Option (Int32 × Mm) := slI L xs (l3 + 1) fun v1010 => slI L xs (l3 + 2) fun v1015 => slI L xs (l3 + 3) fun v1020 => ck M l1 11 <| bd (f_X11_help M l1 v1010 v1015 v1020) fun v1021 M1021 => slI L xs (l3 + 1) fun v1029 => slI L xs (l3 + 2) fun v1034 => slI L xs (l3 + 3) fun v1039 => ck M1021 l2 12 <| bd (f_X12_help M1021 l2 v1029 v1034 v1039) fun v1040 M1040 => if v1021 = v1040 then (f_L_law_1702 L xs k18 M1040 l1 l2 l3) else (some (0, M1040))
def f_L_law_1048 (L : Nat) (xs : Nat → Int32) (k18 : Mm → Option Nat → Option Nat → Int32 → Option (Int32 × Mm)) (M : Mm) (l1 : Option Nat) (l2 : Option Nat) (l3 : Int32) : Option (Int32 × Mm) := slI L xs (l3 + 1) fun v1053 => ck M l1 11 <| bd (f_X11_falls M l1 v1053) fun v1054 M1054 => slI L xs (l3 + 1) fun v1062 => ck M1054 l2 12 <| bd (f_X12_falls M1054 l2 v1062) fun v1063 M1063 => if v1054 = v1063 then (f_L_law_1702 L xs k18 M1063 l1 l2 l3) else (some (0, M1063))
def f_L_law_1071 (L : Nat) (xs : Nat → Int32) (k18 : Mm → Option Nat → Option Nat → Int32 → Option (Int32 × Mm)) (M : Mm) (l1 : Option Nat) (l2 : Option Nat) (l3 : Int32) : Option (Int32 × Mm) := slI L xs (l3 + 1) fun v1076 => ck M l1 11 <| bd (f_X11_risk M l1 v1076) fun v1077 M1077 => slI L xs (l3 + 1) fun v1085 => ck M1077 l2 12 <| bd (f_X12_risk M1077 l2 v1085) fun v1086 M1086 => if v1077 = v1086 then (f_L_law_1702 L xs k18 M1086 l1 l2 l3) else (some (0, M1086))
def f_L_law_1094 (L : Nat) (xs : Nat → Int32) (k18 : Mm → Option Nat → Option Nat → Int32 → Option (Int32 × Mm)) (M : Mm) (l1 : Option Nat) (l2 : Option Nat) (l3 : Int32) : Option (Int32 × Mm) := ck M l1 11 <| bd (f_X11_loss M l1) fun v1095 M1095 => ck M1095 l2 12 <| bd (f_X12_loss M1095 l2) fun v1099 M1099 => if v1095 = v1099 then (f_L_law_1702 L xs k18 M1099 l1 l2 l3) else (some (0, M1099))
def f_L_law_1107 (L : Nat) (xs : Nat → Int32) (k18 : Mm → Option Nat → Option Nat → Int32 → Option (Int32 × Mm)) (M : Mm) (l1 : Option Nat) (l2 : Option Nat) (l3 : Int32) : Option (Int32 × Mm) := slI L xs (l3 + 1) fun v1112 => slI L xs (l3 + 2) fun v1117 => ck M l1 11 <| bd (f_X11_saves M l1 v1112 v1117) fun v1118 M1118 => slI L xs (l3 + 1) fun v1126 => slI L xs (l3 + 2) fun v1131 => ck M1118 l2 12 <| bd (f_X12_saves M1118 l2 v1126 v1131) fun v1132 M1132 => if v1118 = v1132 then (f_L_law_1702 L xs k18 M1132 l1 l2 l3) else (some (0, M1132))
def f_L_law_1140 (L : Nat) (xs : Nat → Int32) (k18 : Mm → Option Nat → Option Nat → Int32 → Option (Int32 × Mm)) (M : Mm) (l1 : Option Nat) (l2 : Option Nat) (l3 : Int32) : Option (Int32 × Mm) := ck M l1 11 <| bd (f_X11_dearest M l1) fun v1141 M1141 => ck M1141 l2 12 <| bd (f_X12_dearest M1141 l2) fun v1145 M1145 => if v1141 = v1145 then (f_L_law_1702 L xs k18 M1145 l1 l2 l3) else (some (0, M1145))
def f_L_law_1153 (L : Nat) (xs : Nat → Int32) (k18 : Mm → Option Nat → Option Nat → Int32 → Option (Int32 × Mm)) (M : Mm) (l1 : Option Nat) (l2 : Option Nat) (l3 : Int32) : Option (Int32 × Mm) := ck M l1 11 <| bd (f_X11_worstWind M l1) fun v1154 M1154 => ck M1154 l2 12 <| bd (f_X12_worstWind M1154 l2) fun v1158 M1158 => if v1154 = v1158 then (f_L_law_1702 L xs k18 M1158 l1 l2 l3) else (some (0, M1158))
def f_L_law_1166 (L : Nat) (xs : Nat → Int32) (k18 : Mm → Option Nat → Option Nat → Int32 → Option (Int32 × Mm)) (M : Mm) (l1 : Option Nat) (l2 : Option Nat) (l3 : Int32) : Option (Int32 × Mm) := slI L xs (l3 + 1) fun v1171 => slI L xs (l3 + 2) fun v1176 => ck M l1 11 <| bd (f_X11_best M l1 v1171 v1176) fun v1177 M1177 => slI L xs (l3 + 1) fun v1185 => slI L xs (l3 + 2) fun v1190 => ck M1177 l2 12 <| bd (f_X12_best M1177 l2 v1185 v1190) fun v1191 M1191 => if v1177 = v1191 then (f_L_law_1702 L xs k18 M1191 l1 l2 l3) else (some (0, M1191))
def f_L_law_1199 (L : Nat) (xs : Nat → Int32) (k18 : Mm → Option Nat → Option Nat → Int32 → Option (Int32 × Mm)) (M : Mm) (l1 : Option Nat) (l2 : Option Nat) (l3 : Int32) : Option (Int32 × Mm) := ck M l1 11 <| bd (f_X11_bestSet M l1) fun v1200 M1200 => ck M1200 l2 12 <| bd (f_X12_bestSet M1200 l2) fun v1204 M1204 => if v1200 = v1204 then (f_L_law_1702 L xs k18 M1204 l1 l2 l3) else (some (0, M1204))
def f_L_law_1212 (L : Nat) (xs : Nat → Int32) (k18 : Mm → Option Nat → Option Nat → Int32 → Option (Int32 × Mm)) (M : Mm) (l1 : Option Nat) (l2 : Option Nat) (l3 : Int32) : Option (Int32 × Mm) := slI L xs (l3 + 1) fun v1217 => slI L xs (l3 + 2) fun v1222 => ck M l1 11 <| bd (f_X11_soonest M l1 v1217 v1222) fun v1223 M1223 => slI L xs (l3 + 1) fun v1231 => slI L xs (l3 + 2) fun v1236 => ck M1223 l2 12 <| bd (f_X12_soonest M1223 l2 v1231 v1236) fun v1237 M1237 => if v1223 = v1237 then (f_L_law_1702 L xs k18 M1237 l1 l2 l3) else (some (0, M1237))
def f_L_law_1245 (L : Nat) (xs : Nat → Int32) (k18 : Mm → Option Nat → Option Nat → Int32 → Option (Int32 × Mm)) (M : Mm) (l1 : Option Nat) (l2 : Option Nat) (l3 : Int32) : Option (Int32 × Mm) := slI L xs (l3 + 1) fun v1250 => ck M l1 11 <| bd (f_X11_order M l1 v1250) fun v1251 M1251 => slI L xs (l3 + 1) fun v1259 => ck M1251 l2 12 <| bd (f_X12_order M1251 l2 v1259) fun v1260 M1260 => if v1251 = v1260 then (f_L_law_1702 L xs k18 M1260 l1 l2 l3) else (some (0, M1260))
def f_L_law_1268 (L : Nat) (xs : Nat → Int32) (k18 : Mm → Option Nat → Option Nat → Int32 → Option (Int32 × Mm)) (M : Mm) (l1 : Option Nat) (l2 : Option Nat) (l3 : Int32) : Option (Int32 × Mm) := slI L xs (l3 + 1) fun v1273 => ck M l1 11 <| bd (f_X11_shared M l1 v1273) fun v1274 M1274 => slI L xs (l3 + 1) fun v1282 => ck M1274 l2 12 <| bd (f_X12_shared M1274 l2 v1282) fun v1283 M1283 => if v1274 = v1283 then (f_L_law_1702 L xs k18 M1283 l1 l2 l3) else (some (0, M1283))
def f_L_law_1291 (L : Nat) (xs : Nat → Int32) (k18 : Mm → Option Nat → Option Nat → Int32 → Option (Int32 × Mm)) (M : Mm) (l1 : Option Nat) (l2 : Option Nat) (l3 : Int32) : Option (Int32 × Mm) := ck M l1 11 <| bd (f_X11_allOff M l1) fun v1292 M1292 => ck M1292 l2 12 <| bd (f_X12_allOff M1292 l2) fun v1296 M1296 => if v1292 = v1296 then (f_L_law_1702 L xs k18 M1296 l1 l2 l3) else (some (0, M1296))
def f_L_law_1304 (L : Nat) (xs : Nat → Int32) (k18 : Mm → Option Nat → Option Nat → Int32 → Option (Int32 × Mm)) (M : Mm) (l1 : Option Nat) (l2 : Option Nat) (l3 : Int32) : Option (Int32 × Mm) := slI L xs (l3 + 1) fun v1309 => slI L xs (l3 + 2) fun v1314 => slI L xs (l3 + 3) fun v1319 => ck M l1 11 <| bd (f_X11_score M l1 v1309 v1314 v1319) fun v1320 M1320 => slI L xs (l3 + 1) fun v1328 => slI L xs (l3 + 2) fun v1333 => slI L xs (l3 + 3) fun v1338 => ck M1320 l2 12 <| bd (f_X12_score M1320 l2 v1328 v1333 v1338) fun v1339 M1339 => if v1320 = v1339 then (f_L_law_1702 L xs k18 M1339 l1 l2 l3) else (some (0, M1339))
def f_L_law_1347 (L : Nat) (xs : Nat → Int32) (k18 : Mm → Option Nat → Option Nat → Int32 → Option (Int32 × Mm)) (M : Mm) (l1 : Option Nat) (l2 : Option Nat) (l3 : Int32) : Option (Int32 × Mm) := slI L xs (l3 + 1) fun v1352 => slI L xs (l3 + 2) fun v1357 => slI L xs (l3 + 3) fun v1362 => ck M l1 11 <| bd (f_X11_words M l1 v1352 v1357 v1362) fun v1363 M1363 => slI L xs (l3 + 1) fun v1371 => slI L xs (l3 + 2) fun v1376 => slI L xs (l3 + 3) fun v1381 => ck M1363 l2 12 <| bd (f_X12_words M1363 l2 v1371 v1376 v1381) fun v1382 M1382 => if v1363 = v1382 then (f_L_law_1702 L xs k18 M1382 l1 l2 l3) else (some (0, M1382))
def f_L_law_1390 (L : Nat) (xs : Nat → Int32) (k18 : Mm → Option Nat → Option Nat → Int32 → Option (Int32 × Mm)) (M : Mm) (l1 : Option Nat) (l2 : Option Nat) (l3 : Int32) : Option (Int32 × Mm) := ck M l1 11 <| bd (f_X11_owed M l1) fun v1391 M1391 => ck M1391 l2 12 <| bd (f_X12_owed M1391 l2) fun v1395 M1395 => if v1391 = v1395 then (f_L_law_1702 L xs k18 M1395 l1 l2 l3) else (some (0, M1395))
def f_L_law_1403 (L : Nat) (xs : Nat → Int32) (k18 : Mm → Option Nat → Option Nat → Int32 → Option (Int32 × Mm)) (M : Mm) (l1 : Option Nat) (l2 : Option Nat) (l3 : Int32) : Option (Int32 × Mm) := ck M l1 11 <| bd (f_X11_riders M l1) fun v1404 M1404 => ck M1404 l2 12 <| bd (f_X12_riders M1404 l2) fun v1408 M1408 => if v1404 = v1408 then (f_L_law_1702 L xs k18 M1408 l1 l2 l3) else (some (0, M1408))
def f_L_law_1416 (L : Nat) (xs : Nat → Int32) (k18 : Mm → Option Nat → Option Nat → Int32 → Option (Int32 × Mm)) (M : Mm) (l1 : Option Nat) (l2 : Option Nat) (l3 : Int32) : Option (Int32 × Mm) := slI L xs (l3 + 1) fun v1421 => ck M l1 11 <| bd (f_X11_chain M l1 v1421) fun v1422 M1422 => slI L xs (l3 + 1) fun v1430 => ck M1422 l2 12 <| bd (f_X12_chain M1422 l2 v1430) fun v1431 M1431 => if v1422 = v1431 then (f_L_law_1702 L xs k18 M1431 l1 l2 l3) else (some (0, M1431))
def f_L_law_1439 (L : Nat) (xs : Nat → Int32) (k18 : Mm → Option Nat → Option Nat → Int32 → Option (Int32 × Mm)) (M : Mm) (l1 : Option Nat) (l2 : Option Nat) (l3 : Int32) : Option (Int32 × Mm) := slI L xs (l3 + 1) fun v1444 => slI L xs (l3 + 2) fun v1449 => ck M l1 11 <| bd (f_X11_quits M l1 v1444 v1449) fun v1450 M1450 => slI L xs (l3 + 1) fun v1458 => slI L xs (l3 + 2) fun v1463 => ck M1450 l2 12 <| bd (f_X12_quits M1450 l2 v1458 v1463) fun v1464 M1464 => if v1450 = v1464 then (f_L_law_1702 L xs k18 M1464 l1 l2 l3) else (some (0, M1464))
def f_L_law_1472 (L : Nat) (xs : Nat → Int32) (k18 : Mm → Option Nat → Option Nat → Int32 → Option (Int32 × Mm)) (M : Mm) (l1 : Option Nat) (l2 : Option Nat) (l3 : Int32) : Option (Int32 × Mm) := slI L xs (l3 + 1) fun v1477 => ck M l1 11 <| bd (f_X11_ground M l1 v1477) fun v1478 M1478 => slI L xs (l3 + 1) fun v1486 => ck M1478 l2 12 <| bd (f_X12_ground M1478 l2 v1486) fun v1487 M1487 => if v1478 = v1487 then (f_L_law_1702 L xs k18 M1487 l1 l2 l3) else (some (0, M1487))
def f_L_law_1495 (L : Nat) (xs : Nat → Int32) (k18 : Mm → Option Nat → Option Nat → Int32 → Option (Int32 × Mm)) (M : Mm) (l1 : Option Nat) (l2 : Option Nat) (l3 : Int32) : Option (Int32 × Mm) := slI L xs (l3 + 1) fun v1500 => slI L xs (l3 + 2) fun v1505 => ck M l1 11 <| bd (f_X11_signs M l1 v1500 v1505) fun v1506 M1506 => slI L xs (l3 + 1) fun v1514 => slI L xs (l3 + 2) fun v1519 => ck M1506 l2 12 <| bd (f_X12_signs M1506 l2 v1514 v1519) fun v1520 M1520 => if v1506 = v1520 then (f_L_law_1702 L xs k18 M1520 l1 l2 l3) else (some (0, M1520))
def f_L_law_1528 (L : Nat) (xs : Nat → Int32) (k18 : Mm → Option Nat → Option Nat → Int32 → Option (Int32 × Mm)) (M : Mm) (l1 : Option Nat) (l2 : Option Nat) (l3 : Int32) : Option (Int32 × Mm) := slI L xs (l3 + 1) fun v1533 => ck M l1 11 <| bd (f_X11_flown M l1 v1533) fun v1534 M1534 => slI L xs (l3 + 1) fun v1542 => ck M1534 l2 12 <| bd (f_X12_flown M1534 l2 v1542) fun v1543 M1543 => if v1534 = v1543 then (f_L_law_1702 L xs k18 M1543 l1 l2 l3) else (some (0, M1543))
def f_L_law_1551 (L : Nat) (xs : Nat → Int32) (k18 : Mm → Option Nat → Option Nat → Int32 → Option (Int32 × Mm)) (M : Mm) (l1 : Option Nat) (l2 : Option Nat) (l3 : Int32) : Option (Int32 × Mm) := slI L xs (l3 + 1) fun v1556 => ck M l1 11 <| bd (f_X11_likeliest M l1 v1556) fun v1557 M1557 => slI L xs (l3 + 1) fun v1565 => ck M1557 l2 12 <| bd (f_X12_likeliest M1557 l2 v1565) fun v1566 M1566 => if v1557 = v1566 then (f_L_law_1702 L xs k18 M1566 l1 l2 l3) else (some (0, M1566))
def f_L_law_1574 (L : Nat) (xs : Nat → Int32) (k18 : Mm → Option Nat → Option Nat → Int32 → Option (Int32 × Mm)) (M : Mm) (l1 : Option Nat) (l2 : Option Nat) (l3 : Int32) : Option (Int32 × Mm) := slI L xs (l3 + 1) fun v1579 => ck M l1 11 <| bd (f_X11_neighbour M l1 v1579) fun v1580 M1580 => slI L xs (l3 + 1) fun v1588 => ck M1580 l2 12 <| bd (f_X12_neighbour M1580 l2 v1588) fun v1589 M1589 => if v1580 = v1589 then (f_L_law_1702 L xs k18 M1589 l1 l2 l3) else (some (0, M1589))
def f_L_law_1597 (L : Nat) (xs : Nat → Int32) (k18 : Mm → Option Nat → Option Nat → Int32 → Option (Int32 × Mm)) (M : Mm) (l1 : Option Nat) (l2 : Option Nat) (l3 : Int32) : Option (Int32 × Mm) := slI L xs (l3 + 1) fun v1602 => ck M l1 11 <| bd (f_X11_live M l1 v1602) fun v1603 M1603 => slI L xs (l3 + 1) fun v1611 => ck M1603 l2 12 <| bd (f_X12_live M1603 l2 v1611) fun v1612 M1612 => if v1603 = v1612 then (f_L_law_1702 L xs k18 M1612 l1 l2 l3) else (some (0, M1612))
def f_L_law_1620 (L : Nat) (xs : Nat → Int32) (k18 : Mm → Option Nat → Option Nat → Int32 → Option (Int32 × Mm)) (M : Mm) (l1 : Option Nat) (l2 : Option Nat) (l3 : Int32) : Option (Int32 × Mm) := slI L xs (l3 + 1) fun v1625 => ck M l1 11 <| bd (f_X11_lived M l1 v1625) fun v1626 M1626 => slI L xs (l3 + 1) fun v1634 => ck M1626 l2 12 <| bd (f_X12_lived M1626 l2 v1634) fun v1635 M1635 => if v1626 = v1635 then (f_L_law_1702 L xs k18 M1635 l1 l2 l3) else (some (0, M1635))
def f_L_law_1643 (L : Nat) (xs : Nat → Int32) (k18 : Mm → Option Nat → Option Nat → Int32 → Option (Int32 × Mm)) (M : Mm) (l1 : Option Nat) (l2 : Option Nat) (l3 : Int32) : Option (Int32 × Mm) := slI L xs (l3 + 1) fun v1648 => slI L xs (l3 + 2) fun v1653 => ck M l1 11 <| bd (f_X11_mean M l1 v1648 v1653) fun v1654 M1654 => slI L xs (l3 + 1) fun v1662 => slI L xs (l3 + 2) fun v1667 => ck M1654 l2 12 <| bd (f_X12_mean M1654 l2 v1662 v1667) fun v1668 M1668 => if v1654 = v1668 then (f_L_law_1702 L xs k18 M1668 l1 l2 l3) else (some (0, M1668))
def f_L_law_1676 (L : Nat) (xs : Nat → Int32) (k18 : Mm → Option Nat → Option Nat → Int32 → Option (Int32 × Mm)) (M : Mm) (l1 : Option Nat) (l2 : Option Nat) (l3 : Int32) : Option (Int32 × Mm) := ck M l1 11 <| bd (f_X11_mark M l1) fun v1677 M1677 => ck M1677 l2 12 <| bd (f_X12_mark M1677 l2) fun v1681 M1681 => if v1677 = v1681 then (f_L_law_1702 L xs k18 M1681 l1 l2 l3) else (some (0, M1681))
def f_L_law_1689 (L : Nat) (xs : Nat → Int32) (k18 : Mm → Option Nat → Option Nat → Int32 → Option (Int32 × Mm)) (M : Mm) (l1 : Option Nat) (l2 : Option Nat) (l3 : Int32) : Option (Int32 × Mm) := ck M l1 11 <| bd (f_X11_back M l1) fun v1690 M1690 => ck M1690 l2 12 <| bd (f_X12_back M1690 l2) fun v1694 M1694 => if v1690 = v1694 then (f_L_law_1702 L xs k18 M1694 l1 l2 l3) else (some (0, M1694))
def g_L_law_18 (L : Nat) (xs : Nat → Int32) (k18 : Mm → Option Nat → Option Nat → Int32 → Option (Int32 × Mm)) (M : Mm) (l1 : Option Nat) (l2 : Option Nat) (l3 : Int32) : Option (Int32 × Mm) := if ((Int32.ofNat L) - 6) < l3 then (some (1, M)) else (slI L xs l3 fun v29 => if (v29 &&& 63) = 0 then (f_L_law_260 L xs k18 M l1 l2 l3) else if (v29 &&& 63) = 1 then (f_L_law_273 L xs k18 M l1 l2 l3) else if (v29 &&& 63) = 2 then (f_L_law_287 L xs k18 M l1 l2 l3) else if (v29 &&& 63) = 3 then (f_L_law_301 L xs k18 M l1 l2 l3) else if (v29 &&& 63) = 4 then (f_L_law_344 L xs k18 M l1 l2 l3) else if (v29 &&& 63) = 5 then (f_L_law_417 L xs k18 M l1 l2 l3) else if (v29 &&& 63) = 6 then (f_L_law_451 L xs k18 M l1 l2 l3) else if (v29 &&& 63) = 7 then (f_L_law_514 L xs k18 M l1 l2 l3) else if (v29 &&& 63) = 8 then (f_L_law_577 L xs k18 M l1 l2 l3) else if (v29 &&& 63) = 9 then (f_L_law_600 L xs k18 M l1 l2 l3) else if (v29 &&& 63) = 10 then (f_L_law_623 L xs k18 M l1 l2 l3) else if (v29 &&& 63) = 11 then (f_L_law_646 L xs k18 M l1 l2 l3) else if (v29 &&& 63) = 12 then (f_L_law_669 L xs k18 M l1 l2 l3) else if (v29 &&& 63) = 13 then (f_L_law_702 L xs k18 M l1 l2 l3) else if (v29 &&& 63) = 14 then (f_L_law_735 L xs k18 M l1 l2 l3) else if (v29 &&& 63) = 15 then (f_L_law_768 L xs k18 M l1 l2 l3) else if (v29 &&& 63) = 16 then (f_L_law_801 L xs k18 M l1 l2 l3) else if (v29 &&& 63) = 17 then (f_L_law_834 L xs k18 M l1 l2 l3) else if (v29 &&& 63) = 18 then (f_L_law_867 L xs k18 M l1 l2 l3) else if (v29 &&& 63) = 19 then (f_L_law_890 L xs k18 M l1 l2 l3) else if (v29 &&& 63) = 20 then (f_L_law_923 L xs k18 M l1 l2 l3) else if (v29 &&& 63) = 21 then (f_L_law_946 L xs k18 M l1 l2 l3) else if (v29 &&& 63) = 22 then (f_L_law_969 L xs k18 M l1 l2 l3) else if (v29 &&& 63) = 23 then (f_L_law_992 L xs k18 M l1 l2 l3) else if (v29 &&& 63) = 24 then (f_L_law_1005 L xs k18 M l1 l2 l3) else if (v29 &&& 63) = 25 then (f_L_law_1048 L xs k18 M l1 l2 l3) else if (v29 &&& 63) = 26 then (f_L_law_1071 L xs k18 M l1 l2 l3) else if (v29 &&& 63) = 27 then (f_L_law_1094 L xs k18 M l1 l2 l3) else if (v29 &&& 63) = 28 then (f_L_law_1107 L xs k18 M l1 l2 l3) else if (v29 &&& 63) = 29 then (f_L_law_1140 L xs k18 M l1 l2 l3) else if (v29 &&& 63) = 30 then (f_L_law_1153 L xs k18 M l1 l2 l3) else if (v29 &&& 63) = 31 then (f_L_law_1166 L xs k18 M l1 l2 l3) else if (v29 &&& 63) = 32 then (f_L_law_1199 L xs k18 M l1 l2 l3) else if (v29 &&& 63) = 33 then (f_L_law_1212 L xs k18 M l1 l2 l3) else if (v29 &&& 63) = 34 then (f_L_law_1245 L xs k18 M l1 l2 l3) else if (v29 &&& 63) = 35 then (f_L_law_1268 L xs k18 M l1 l2 l3) else if (v29 &&& 63) = 36 then (f_L_law_1291 L xs k18 M l1 l2 l3) else if (v29 &&& 63) = 37 then (f_L_law_1304 L xs k18 M l1 l2 l3) else if (v29 &&& 63) = 38 then (f_L_law_1347 L xs k18 M l1 l2 l3) else if (v29 &&& 63) = 39 then (f_L_law_1390 L xs k18 M l1 l2 l3) else if (v29 &&& 63) = 40 then (f_L_law_1403 L xs k18 M l1 l2 l3) else if (v29 &&& 63) = 41 then (f_L_law_1416 L xs k18 M l1 l2 l3) else if (v29 &&& 63) = 42 then (f_L_law_1439 L xs k18 M l1 l2 l3) else if (v29 &&& 63) = 43 then (f_L_law_1472 L xs k18 M l1 l2 l3) else if (v29 &&& 63) = 44 then (f_L_law_1495 L xs k18 M l1 l2 l3) else if (v29 &&& 63) = 45 then (f_L_law_1528 L xs k18 M l1 l2 l3) else if (v29 &&& 63) = 46 then (f_L_law_1551 L xs k18 M l1 l2 l3) else if (v29 &&& 63) = 47 then (f_L_law_1574 L xs k18 M l1 l2 l3) else if (v29 &&& 63) = 48 then (f_L_law_1597 L xs k18 M l1 l2 l3) else if (v29 &&& 63) = 49 then (f_L_law_1620 L xs k18 M l1 l2 l3) else if (v29 &&& 63) = 50 then (f_L_law_1643 L xs k18 M l1 l2 l3) else if (v29 &&& 63) = 51 then (f_L_law_1676 L xs k18 M l1 l2 l3) else if (v29 &&& 63) = 52 then (f_L_law_1689 L xs k18 M l1 l2 l3) else (f_L_law_1702 L xs k18 M l1 l2 l3))
def f_L_law_18 (L : Nat) (xs : Nat → Int32) : Nat → Mm → Option Nat → Option Nat → Int32 → Option (Int32 × Mm)
  | 0, _, _, _, _ => none
  | n + 1, M, l1, l2, l3 => g_L_law_18 L xs (f_L_law_18 L xs n) M l1 l2 l3
def f_L_law (L : Nat) (xs : Nat → Int32) (M : Mm) : Option (Int32 × Mm) := nwc M 11 19 fun q0 M0 => nz q0 <| bv (f_X11_init M0 q0) fun M4 => nwc M4 12 45 fun q8 M8 => nz q8 <| bv (f_X12_init M8 q8) fun M12 => f_L_law_18 L xs 600 M12 q0 q8 0
set_option maxHeartbeats 4000000 in
set_option maxRecDepth 100000 in
theorem t_L_law_1702 {G : GG} {X : CX} {L b : Nat} {xs : Nat → Int32} (hX : hXs G X b L xs) {ans : Int32 × Mm} (he : EndI G X j_L_law b_L_law ans) {k18 : Mm → Option Nat → Option Nat → Int32 → Option (Int32 × Mm)} {u w : Nat} (hub : u + 2 ≤ 600000) (hwb : w + 8 ≤ 7302249) (hk18 : ∀ (M : Mm) (l1 : Option Nat) (l2 : Option Nat) (l3 : Int32), k18 M l1 l2 l3 = some ans → Wt G X j_L_law b_L_law 18 [(0, .ref b), (1, rf G.1 l1), (2, rf G.1 l2), (3, .int l3)] [] M (u + 2) (w + 8)) {M : Mm} {l1 : Option Nat} {l2 : Option Nat} {l3 : Int32} (h : f_L_law_1702 L xs k18 M l1 l2 l3 = some ans) : Wt G X j_L_law b_L_law 1702 [(0, .ref b), (1, rf G.1 l1), (2, rf G.1 l2), (3, .int l3)] [] M (u + 2) (w + 8) := by
  unfold f_L_law_1702 at h
  refine wt_iinc (pc := 1702) (d := 6) (ls' := [(3, .int (l3 + 6)), (0, .ref b), (1, rf G.1 l1), (2, rf G.1 l2)]) 3 dL_law_1702 rfl (by decide) (by decide) (by simp [rf_cat, cat_i, cat_l, cat_r]) ?_
  refine wt_goto (pc := 1705) (tgt := 18) dL_law_1705 (by decide) ?_
  refine wt_sub (ls' := [(0, .ref b), (1, rf G.1 l1), (2, rf G.1 l2), (3, .int (l3 + 6))]) [1, 2, 3, 0] rfl ?_
  exact hk18 _ _ _ _ h
set_option maxHeartbeats 4000000 in
set_option maxRecDepth 100000 in
theorem t_L_law_260 {G : GG} {X : CX} {L b : Nat} {xs : Nat → Int32} (hX : hXs G X b L xs) {ans : Int32 × Mm} (he : EndI G X j_L_law b_L_law ans) {k18 : Mm → Option Nat → Option Nat → Int32 → Option (Int32 × Mm)} {u w : Nat} (hub : u + 2 ≤ 600000) (hwb : w + 8 ≤ 7302249) (hk18 : ∀ (M : Mm) (l1 : Option Nat) (l2 : Option Nat) (l3 : Int32), k18 M l1 l2 l3 = some ans → Wt G X j_L_law b_L_law 18 [(0, .ref b), (1, rf G.1 l1), (2, rf G.1 l2), (3, .int l3)] [] M (u + 2) (w + 8)) {M : Mm} {l1 : Option Nat} {l2 : Option Nat} {l3 : Int32} (h : f_L_law_260 L xs k18 M l1 l2 l3 = some ans) : Wt G X j_L_law b_L_law 260 [(0, .ref b), (1, rf G.1 l1), (2, rf G.1 l2), (3, .int l3)] [] M (u) (w) := by
  unfold f_L_law_260 at h
  refine wt_aload_n (pc := 260) 1 dL_law_260 rfl ?_
  refine wt_cVI (pc := 261) (J' := j_X11_status) (As := []) (st := []) (B' := b_X11_status) (u' := u) (w' := w) dL_law_261 ml_L_13 mv_X11_status (fun v9 M9 e9 => c_X11_status e9) rfl (by decide) rfl rfl (by show _ ≤ 600000; omega) (by show _ ≤ 7302249; omega) (by decide) rfl h (fun v261 M261 h => ?_)
  refine wt_aload_n (pc := 264) 2 dL_law_264 rfl ?_
  refine wt_cVI (pc := 265) (J' := j_X12_status) (As := []) (st := [.int v261]) (B' := b_X12_status) (u' := u) (w' := w) dL_law_265 ml_L_17 mv_X12_status (fun v9 M9 e9 => c_X12_status e9) rfl (by decide) rfl rfl (by show _ ≤ 600000; omega) (by show _ ≤ 7302249; omega) (by simp [rf_cat, cat_i, cat_l, cat_r]) rfl h (fun v265 M265 h => ?_)
  refine wt_icmp_eq (pc := 268) (tgt := 1702) dL_law_268 (by decide) (fun q => ?_) (fun q => ?_)
  · have h := ite_t q h
    refine wt_room (u' := u + 2) (w' := w + 8) (by omega) (by omega) ?_
    exact t_L_law_1702 hX he hub hwb hk18 h
  · have h := ite_f q h
    refine wt_iconst (pc := 271) (v := 0) dL_law_271 (by decide) ?_
    cases h
    exact he 272 _ _ _ dL_law_272 (by show _ ≤ 600000; omega) (by show _ ≤ 7302249; omega)
set_option maxHeartbeats 4000000 in
set_option maxRecDepth 100000 in
theorem t_L_law_273 {G : GG} {X : CX} {L b : Nat} {xs : Nat → Int32} (hX : hXs G X b L xs) {ans : Int32 × Mm} (he : EndI G X j_L_law b_L_law ans) {k18 : Mm → Option Nat → Option Nat → Int32 → Option (Int32 × Mm)} {u w : Nat} (hub : u + 2 ≤ 600000) (hwb : w + 8 ≤ 7302249) (hk18 : ∀ (M : Mm) (l1 : Option Nat) (l2 : Option Nat) (l3 : Int32), k18 M l1 l2 l3 = some ans → Wt G X j_L_law b_L_law 18 [(0, .ref b), (1, rf G.1 l1), (2, rf G.1 l2), (3, .int l3)] [] M (u + 2) (w + 8)) {M : Mm} {l1 : Option Nat} {l2 : Option Nat} {l3 : Int32} (h : f_L_law_273 L xs k18 M l1 l2 l3 = some ans) : Wt G X j_L_law b_L_law 273 [(0, .ref b), (1, rf G.1 l1), (2, rf G.1 l2), (3, .int l3)] [] M (u) (w) := by
  unfold f_L_law_273 at h
  refine wt_aload_n (pc := 273) 1 dL_law_273 rfl ?_
  refine wt_cVL (pc := 274) (J' := j_X11_top) (As := []) (st := []) (B' := b_X11_top) (u' := u) (w' := w) dL_law_274 ml_L_18 mv_X11_top (fun v9 M9 e9 => c_X11_top e9) rfl (by decide) rfl rfl (by show _ ≤ 600000; omega) (by show _ ≤ 7302249; omega) (by decide) rfl h (fun v274 M274 h => ?_)
  refine wt_aload_n (pc := 277) 2 dL_law_277 rfl ?_
  refine wt_cVL (pc := 278) (J' := j_X12_top) (As := []) (st := [.long v274]) (B' := b_X12_top) (u' := u) (w' := w) dL_law_278 ml_L_22 mv_X12_top (fun v9 M9 e9 => c_X12_top e9) rfl (by decide) rfl rfl (by show _ ≤ 600000; omega) (by show _ ≤ 7302249; omega) (by simp [rf_cat, cat_i, cat_l, cat_r]) rfl h (fun v278 M278 h => ?_)
  refine wt_lcmp (pc := 281) dL_law_281 ?_
  refine wt_if_eq (pc := 282) (tgt := 1702) dL_law_282 (by decide) (fun q => ?_) (fun q => ?_)
  · have h := ite_t q h
    refine wt_room (u' := u + 2) (w' := w + 8) (by omega) (by omega) ?_
    exact t_L_law_1702 hX he hub hwb hk18 h
  · have h := ite_f q h
    refine wt_iconst (pc := 285) (v := 0) dL_law_285 (by decide) ?_
    cases h
    exact he 286 _ _ _ dL_law_286 (by show _ ≤ 600000; omega) (by show _ ≤ 7302249; omega)
set_option maxHeartbeats 4000000 in
set_option maxRecDepth 100000 in
theorem t_L_law_287 {G : GG} {X : CX} {L b : Nat} {xs : Nat → Int32} (hX : hXs G X b L xs) {ans : Int32 × Mm} (he : EndI G X j_L_law b_L_law ans) {k18 : Mm → Option Nat → Option Nat → Int32 → Option (Int32 × Mm)} {u w : Nat} (hub : u + 2 ≤ 600000) (hwb : w + 8 ≤ 7302249) (hk18 : ∀ (M : Mm) (l1 : Option Nat) (l2 : Option Nat) (l3 : Int32), k18 M l1 l2 l3 = some ans → Wt G X j_L_law b_L_law 18 [(0, .ref b), (1, rf G.1 l1), (2, rf G.1 l2), (3, .int l3)] [] M (u + 2) (w + 8)) {M : Mm} {l1 : Option Nat} {l2 : Option Nat} {l3 : Int32} (h : f_L_law_287 L xs k18 M l1 l2 l3 = some ans) : Wt G X j_L_law b_L_law 287 [(0, .ref b), (1, rf G.1 l1), (2, rf G.1 l2), (3, .int l3)] [] M (u) (w) := by
  unfold f_L_law_287 at h
  refine wt_aload_n (pc := 287) 1 dL_law_287 rfl ?_
  refine wt_cVL (pc := 288) (J' := j_X11_bottom) (As := []) (st := []) (B' := b_X11_bottom) (u' := u) (w' := w) dL_law_288 ml_L_23 mv_X11_bottom (fun v9 M9 e9 => c_X11_bottom e9) rfl (by decide) rfl rfl (by show _ ≤ 600000; omega) (by show _ ≤ 7302249; omega) (by decide) rfl h (fun v288 M288 h => ?_)
  refine wt_aload_n (pc := 291) 2 dL_law_291 rfl ?_
  refine wt_cVL (pc := 292) (J' := j_X12_bottom) (As := []) (st := [.long v288]) (B' := b_X12_bottom) (u' := u) (w' := w) dL_law_292 ml_L_26 mv_X12_bottom (fun v9 M9 e9 => c_X12_bottom e9) rfl (by decide) rfl rfl (by show _ ≤ 600000; omega) (by show _ ≤ 7302249; omega) (by simp [rf_cat, cat_i, cat_l, cat_r]) rfl h (fun v292 M292 h => ?_)
  refine wt_lcmp (pc := 295) dL_law_295 ?_
  refine wt_if_eq (pc := 296) (tgt := 1702) dL_law_296 (by decide) (fun q => ?_) (fun q => ?_)
  · have h := ite_t q h
    refine wt_room (u' := u + 2) (w' := w + 8) (by omega) (by omega) ?_
    exact t_L_law_1702 hX he hub hwb hk18 h
  · have h := ite_f q h
    refine wt_iconst (pc := 299) (v := 0) dL_law_299 (by decide) ?_
    cases h
    exact he 300 _ _ _ dL_law_300 (by show _ ≤ 600000; omega) (by show _ ≤ 7302249; omega)
set_option maxHeartbeats 4000000 in
set_option maxRecDepth 100000 in
theorem t_L_law_301 {G : GG} {X : CX} {L b : Nat} {xs : Nat → Int32} (hX : hXs G X b L xs) {ans : Int32 × Mm} (he : EndI G X j_L_law b_L_law ans) {k18 : Mm → Option Nat → Option Nat → Int32 → Option (Int32 × Mm)} {u w : Nat} (hub : u + 2 ≤ 600000) (hwb : w + 8 ≤ 7302249) (hk18 : ∀ (M : Mm) (l1 : Option Nat) (l2 : Option Nat) (l3 : Int32), k18 M l1 l2 l3 = some ans → Wt G X j_L_law b_L_law 18 [(0, .ref b), (1, rf G.1 l1), (2, rf G.1 l2), (3, .int l3)] [] M (u + 2) (w + 8)) {M : Mm} {l1 : Option Nat} {l2 : Option Nat} {l3 : Int32} (h : f_L_law_301 L xs k18 M l1 l2 l3 = some ans) : Wt G X j_L_law b_L_law 301 [(0, .ref b), (1, rf G.1 l1), (2, rf G.1 l2), (3, .int l3)] [] M (u) (w) := by
  unfold f_L_law_301 at h
  refine wt_aload_n (pc := 301) 1 dL_law_301 rfl ?_
  refine wt_xload_n (pc := 302) 0 dL_law_302 rfl ?_
  refine wt_iload_n (pc := 303) 3 dL_law_303 rfl ?_
  refine wt_iconst (pc := 304) (v := 1) dL_law_304 (by decide) ?_
  refine wt_iadd (pc := 305) dL_law_305 ?_
  refine wt_slI (pc := 306) hX dL_law_306 h (fun v306 h => ?_)
  refine wt_xload_n (pc := 307) 0 dL_law_307 rfl ?_
  refine wt_iload_n (pc := 308) 3 dL_law_308 rfl ?_
  refine wt_iconst (pc := 309) (v := 2) dL_law_309 (by decide) ?_
  refine wt_iadd (pc := 310) dL_law_310 ?_
  refine wt_slI (pc := 311) hX dL_law_311 h (fun v311 h => ?_)
  refine wt_xload_n (pc := 312) 0 dL_law_312 rfl ?_
  refine wt_iload_n (pc := 313) 3 dL_law_313 rfl ?_
  refine wt_iconst (pc := 314) (v := 3) dL_law_314 (by decide) ?_
  refine wt_iadd (pc := 315) dL_law_315 ?_
  refine wt_slI (pc := 316) hX dL_law_316 h (fun v316 h => ?_)
  refine wt_cVI (pc := 317) (J' := j_X11_tray) (As := [.int v306, .int v311, .int v316]) (st := []) (B' := b_X11_tray) (u' := u) (w' := w) dL_law_317 ml_L_27 mv_X11_tray (fun v9 M9 e9 => c_X11_tray e9) rfl (by decide) rfl rfl (by show _ ≤ 600000; omega) (by show _ ≤ 7302249; omega) (by decide) rfl h (fun v317 M317 h => ?_)
  refine wt_aload_n (pc := 320) 2 dL_law_320 rfl ?_
  refine wt_xload_n (pc := 321) 0 dL_law_321 rfl ?_
  refine wt_iload_n (pc := 322) 3 dL_law_322 rfl ?_
  refine wt_iconst (pc := 323) (v := 1) dL_law_323 (by decide) ?_
  refine wt_iadd (pc := 324) dL_law_324 ?_
  refine wt_slI (pc := 325) hX dL_law_325 h (fun v325 h => ?_)
  refine wt_xload_n (pc := 326) 0 dL_law_326 rfl ?_
  refine wt_iload_n (pc := 327) 3 dL_law_327 rfl ?_
  refine wt_iconst (pc := 328) (v := 2) dL_law_328 (by decide) ?_
  refine wt_iadd (pc := 329) dL_law_329 ?_
  refine wt_slI (pc := 330) hX dL_law_330 h (fun v330 h => ?_)
  refine wt_xload_n (pc := 331) 0 dL_law_331 rfl ?_
  refine wt_iload_n (pc := 332) 3 dL_law_332 rfl ?_
  refine wt_iconst (pc := 333) (v := 3) dL_law_333 (by decide) ?_
  refine wt_iadd (pc := 334) dL_law_334 ?_
  refine wt_slI (pc := 335) hX dL_law_335 h (fun v335 h => ?_)
  refine wt_cVI (pc := 336) (J' := j_X12_tray) (As := [.int v325, .int v330, .int v335]) (st := [.int v317]) (B' := b_X12_tray) (u' := u) (w' := w) dL_law_336 ml_L_31 mv_X12_tray (fun v9 M9 e9 => c_X12_tray e9) rfl (by decide) rfl rfl (by show _ ≤ 600000; omega) (by show _ ≤ 7302249; omega) (by simp [rf_cat, cat_i, cat_l, cat_r]) rfl h (fun v336 M336 h => ?_)
  refine wt_icmp_eq (pc := 339) (tgt := 1702) dL_law_339 (by decide) (fun q => ?_) (fun q => ?_)
  · have h := ite_t q h
    refine wt_room (u' := u + 2) (w' := w + 8) (by omega) (by omega) ?_
    exact t_L_law_1702 hX he hub hwb hk18 h
  · have h := ite_f q h
    refine wt_iconst (pc := 342) (v := 0) dL_law_342 (by decide) ?_
    cases h
    exact he 343 _ _ _ dL_law_343 (by show _ ≤ 600000; omega) (by show _ ≤ 7302249; omega)
set_option maxHeartbeats 4000000 in
set_option maxRecDepth 100000 in
theorem t_L_law_344 {G : GG} {X : CX} {L b : Nat} {xs : Nat → Int32} (hX : hXs G X b L xs) {ans : Int32 × Mm} (he : EndI G X j_L_law b_L_law ans) {k18 : Mm → Option Nat → Option Nat → Int32 → Option (Int32 × Mm)} {u w : Nat} (hub : u + 2 ≤ 600000) (hwb : w + 8 ≤ 7302249) (hk18 : ∀ (M : Mm) (l1 : Option Nat) (l2 : Option Nat) (l3 : Int32), k18 M l1 l2 l3 = some ans → Wt G X j_L_law b_L_law 18 [(0, .ref b), (1, rf G.1 l1), (2, rf G.1 l2), (3, .int l3)] [] M (u + 2) (w + 8)) {M : Mm} {l1 : Option Nat} {l2 : Option Nat} {l3 : Int32} (h : f_L_law_344 L xs k18 M l1 l2 l3 = some ans) : Wt G X j_L_law b_L_law 344 [(0, .ref b), (1, rf G.1 l1), (2, rf G.1 l2), (3, .int l3)] [] M (u) (w) := by
  unfold f_L_law_344 at h
  refine wt_aload_n (pc := 344) 1 dL_law_344 rfl ?_
  refine wt_xload_n (pc := 345) 0 dL_law_345 rfl ?_
  refine wt_iload_n (pc := 346) 3 dL_law_346 rfl ?_
  refine wt_iconst (pc := 347) (v := 1) dL_law_347 (by decide) ?_
  refine wt_iadd (pc := 348) dL_law_348 ?_
  refine wt_slI (pc := 349) hX dL_law_349 h (fun v349 h => ?_)
  refine wt_xload_n (pc := 350) 0 dL_law_350 rfl ?_
  refine wt_iload_n (pc := 351) 3 dL_law_351 rfl ?_
  refine wt_iconst (pc := 352) (v := 2) dL_law_352 (by decide) ?_
  refine wt_iadd (pc := 353) dL_law_353 ?_
  refine wt_slI (pc := 354) hX dL_law_354 h (fun v354 h => ?_)
  refine wt_xload_n (pc := 355) 0 dL_law_355 rfl ?_
  refine wt_iload_n (pc := 356) 3 dL_law_356 rfl ?_
  refine wt_iconst (pc := 357) (v := 3) dL_law_357 (by decide) ?_
  refine wt_iadd (pc := 358) dL_law_358 ?_
  refine wt_slI (pc := 359) hX dL_law_359 h (fun v359 h => ?_)
  refine wt_i2l (pc := 360) dL_law_360 ?_
  refine wt_bipush (pc := 361) (v := 32) dL_law_361 (by decide) ?_
  refine wt_lshl (pc := 363) dL_law_363 ?_
  refine wt_xload_n (pc := 364) 0 dL_law_364 rfl ?_
  refine wt_iload_n (pc := 365) 3 dL_law_365 rfl ?_
  refine wt_iconst (pc := 366) (v := 4) dL_law_366 (by decide) ?_
  refine wt_iadd (pc := 367) dL_law_367 ?_
  refine wt_slI (pc := 368) hX dL_law_368 h (fun v368 h => ?_)
  refine wt_i2l (pc := 369) dL_law_369 ?_
  refine wt_ldc2 (pc := 370) dL_law_370 kc_L_32 ?_
  refine wt_land (pc := 373) dL_law_373 ?_
  refine wt_lor (pc := 374) dL_law_374 ?_
  refine wt_cVI (pc := 375) (J' := j_X11_write) (As := [.int v349, .int v354, .long (((Int32.toInt64 v359) <<< (Int32.toInt64 32 &&& 63)) ||| ((Int32.toInt64 v368) &&& 4294967295))]) (st := []) (B' := b_X11_write) (u' := u) (w' := w) dL_law_375 ml_L_34 mv_X11_write (fun v9 M9 e9 => c_X11_write e9) rfl (by decide) rfl rfl (by show _ ≤ 600000; omega) (by show _ ≤ 7302249; omega) (by decide) rfl h (fun v375 M375 h => ?_)
  refine wt_aload_n (pc := 378) 2 dL_law_378 rfl ?_
  refine wt_xload_n (pc := 379) 0 dL_law_379 rfl ?_
  refine wt_iload_n (pc := 380) 3 dL_law_380 rfl ?_
  refine wt_iconst (pc := 381) (v := 1) dL_law_381 (by decide) ?_
  refine wt_iadd (pc := 382) dL_law_382 ?_
  refine wt_slI (pc := 383) hX dL_law_383 h (fun v383 h => ?_)
  refine wt_xload_n (pc := 384) 0 dL_law_384 rfl ?_
  refine wt_iload_n (pc := 385) 3 dL_law_385 rfl ?_
  refine wt_iconst (pc := 386) (v := 2) dL_law_386 (by decide) ?_
  refine wt_iadd (pc := 387) dL_law_387 ?_
  refine wt_slI (pc := 388) hX dL_law_388 h (fun v388 h => ?_)
  refine wt_xload_n (pc := 389) 0 dL_law_389 rfl ?_
  refine wt_iload_n (pc := 390) 3 dL_law_390 rfl ?_
  refine wt_iconst (pc := 391) (v := 3) dL_law_391 (by decide) ?_
  refine wt_iadd (pc := 392) dL_law_392 ?_
  refine wt_slI (pc := 393) hX dL_law_393 h (fun v393 h => ?_)
  refine wt_i2l (pc := 394) dL_law_394 ?_
  refine wt_bipush (pc := 395) (v := 32) dL_law_395 (by decide) ?_
  refine wt_lshl (pc := 397) dL_law_397 ?_
  refine wt_xload_n (pc := 398) 0 dL_law_398 rfl ?_
  refine wt_iload_n (pc := 399) 3 dL_law_399 rfl ?_
  refine wt_iconst (pc := 400) (v := 4) dL_law_400 (by decide) ?_
  refine wt_iadd (pc := 401) dL_law_401 ?_
  refine wt_slI (pc := 402) hX dL_law_402 h (fun v402 h => ?_)
  refine wt_i2l (pc := 403) dL_law_403 ?_
  refine wt_ldc2 (pc := 404) dL_law_404 kc_L_32 ?_
  refine wt_land (pc := 407) dL_law_407 ?_
  refine wt_lor (pc := 408) dL_law_408 ?_
  refine wt_cVI (pc := 409) (J' := j_X12_write) (As := [.int v383, .int v388, .long (((Int32.toInt64 v393) <<< (Int32.toInt64 32 &&& 63)) ||| ((Int32.toInt64 v402) &&& 4294967295))]) (st := [.int v375]) (B' := b_X12_write) (u' := u) (w' := w) dL_law_409 ml_L_38 mv_X12_write (fun v9 M9 e9 => c_X12_write e9) rfl (by decide) rfl rfl (by show _ ≤ 600000; omega) (by show _ ≤ 7302249; omega) (by simp [rf_cat, cat_i, cat_l, cat_r]) rfl h (fun v409 M409 h => ?_)
  refine wt_icmp_eq (pc := 412) (tgt := 1702) dL_law_412 (by decide) (fun q => ?_) (fun q => ?_)
  · have h := ite_t q h
    refine wt_room (u' := u + 2) (w' := w + 8) (by omega) (by omega) ?_
    exact t_L_law_1702 hX he hub hwb hk18 h
  · have h := ite_f q h
    refine wt_iconst (pc := 415) (v := 0) dL_law_415 (by decide) ?_
    cases h
    exact he 416 _ _ _ dL_law_416 (by show _ ≤ 600000; omega) (by show _ ≤ 7302249; omega)
set_option maxHeartbeats 4000000 in
set_option maxRecDepth 100000 in
theorem t_L_law_417 {G : GG} {X : CX} {L b : Nat} {xs : Nat → Int32} (hX : hXs G X b L xs) {ans : Int32 × Mm} (he : EndI G X j_L_law b_L_law ans) {k18 : Mm → Option Nat → Option Nat → Int32 → Option (Int32 × Mm)} {u w : Nat} (hub : u + 2 ≤ 600000) (hwb : w + 8 ≤ 7302249) (hk18 : ∀ (M : Mm) (l1 : Option Nat) (l2 : Option Nat) (l3 : Int32), k18 M l1 l2 l3 = some ans → Wt G X j_L_law b_L_law 18 [(0, .ref b), (1, rf G.1 l1), (2, rf G.1 l2), (3, .int l3)] [] M (u + 2) (w + 8)) {M : Mm} {l1 : Option Nat} {l2 : Option Nat} {l3 : Int32} (h : f_L_law_417 L xs k18 M l1 l2 l3 = some ans) : Wt G X j_L_law b_L_law 417 [(0, .ref b), (1, rf G.1 l1), (2, rf G.1 l2), (3, .int l3)] [] M (u) (w) := by
  unfold f_L_law_417 at h
  refine wt_aload_n (pc := 417) 1 dL_law_417 rfl ?_
  refine wt_xload_n (pc := 418) 0 dL_law_418 rfl ?_
  refine wt_iload_n (pc := 419) 3 dL_law_419 rfl ?_
  refine wt_iconst (pc := 420) (v := 1) dL_law_420 (by decide) ?_
  refine wt_iadd (pc := 421) dL_law_421 ?_
  refine wt_slI (pc := 422) hX dL_law_422 h (fun v422 h => ?_)
  refine wt_xload_n (pc := 423) 0 dL_law_423 rfl ?_
  refine wt_iload_n (pc := 424) 3 dL_law_424 rfl ?_
  refine wt_iconst (pc := 425) (v := 2) dL_law_425 (by decide) ?_
  refine wt_iadd (pc := 426) dL_law_426 ?_
  refine wt_slI (pc := 427) hX dL_law_427 h (fun v427 h => ?_)
  refine wt_cVL (pc := 428) (J' := j_X11_read) (As := [.int v422, .int v427]) (st := []) (B' := b_X11_read) (u' := u) (w' := w) dL_law_428 ml_L_39 mv_X11_read (fun v9 M9 e9 => c_X11_read e9) rfl (by decide) rfl rfl (by show _ ≤ 600000; omega) (by show _ ≤ 7302249; omega) (by decide) rfl h (fun v428 M428 h => ?_)
  refine wt_aload_n (pc := 431) 2 dL_law_431 rfl ?_
  refine wt_xload_n (pc := 432) 0 dL_law_432 rfl ?_
  refine wt_iload_n (pc := 433) 3 dL_law_433 rfl ?_
  refine wt_iconst (pc := 434) (v := 1) dL_law_434 (by decide) ?_
  refine wt_iadd (pc := 435) dL_law_435 ?_
  refine wt_slI (pc := 436) hX dL_law_436 h (fun v436 h => ?_)
  refine wt_xload_n (pc := 437) 0 dL_law_437 rfl ?_
  refine wt_iload_n (pc := 438) 3 dL_law_438 rfl ?_
  refine wt_iconst (pc := 439) (v := 2) dL_law_439 (by decide) ?_
  refine wt_iadd (pc := 440) dL_law_440 ?_
  refine wt_slI (pc := 441) hX dL_law_441 h (fun v441 h => ?_)
  refine wt_cVL (pc := 442) (J' := j_X12_read) (As := [.int v436, .int v441]) (st := [.long v428]) (B' := b_X12_read) (u' := u) (w' := w) dL_law_442 ml_L_43 mv_X12_read (fun v9 M9 e9 => c_X12_read e9) rfl (by decide) rfl rfl (by show _ ≤ 600000; omega) (by show _ ≤ 7302249; omega) (by simp [rf_cat, cat_i, cat_l, cat_r]) rfl h (fun v442 M442 h => ?_)
  refine wt_lcmp (pc := 445) dL_law_445 ?_
  refine wt_if_eq (pc := 446) (tgt := 1702) dL_law_446 (by decide) (fun q => ?_) (fun q => ?_)
  · have h := ite_t q h
    refine wt_room (u' := u + 2) (w' := w + 8) (by omega) (by omega) ?_
    exact t_L_law_1702 hX he hub hwb hk18 h
  · have h := ite_f q h
    refine wt_iconst (pc := 449) (v := 0) dL_law_449 (by decide) ?_
    cases h
    exact he 450 _ _ _ dL_law_450 (by show _ ≤ 600000; omega) (by show _ ≤ 7302249; omega)
set_option maxHeartbeats 4000000 in
set_option maxRecDepth 100000 in
theorem t_L_law_451 {G : GG} {X : CX} {L b : Nat} {xs : Nat → Int32} (hX : hXs G X b L xs) {ans : Int32 × Mm} (he : EndI G X j_L_law b_L_law ans) {k18 : Mm → Option Nat → Option Nat → Int32 → Option (Int32 × Mm)} {u w : Nat} (hub : u + 2 ≤ 600000) (hwb : w + 8 ≤ 7302249) (hk18 : ∀ (M : Mm) (l1 : Option Nat) (l2 : Option Nat) (l3 : Int32), k18 M l1 l2 l3 = some ans → Wt G X j_L_law b_L_law 18 [(0, .ref b), (1, rf G.1 l1), (2, rf G.1 l2), (3, .int l3)] [] M (u + 2) (w + 8)) {M : Mm} {l1 : Option Nat} {l2 : Option Nat} {l3 : Int32} (h : f_L_law_451 L xs k18 M l1 l2 l3 = some ans) : Wt G X j_L_law b_L_law 451 [(0, .ref b), (1, rf G.1 l1), (2, rf G.1 l2), (3, .int l3)] [] M (u) (w) := by
  unfold f_L_law_451 at h
  refine wt_aload_n (pc := 451) 1 dL_law_451 rfl ?_
  refine wt_xload_n (pc := 452) 0 dL_law_452 rfl ?_
  refine wt_iload_n (pc := 453) 3 dL_law_453 rfl ?_
  refine wt_iconst (pc := 454) (v := 1) dL_law_454 (by decide) ?_
  refine wt_iadd (pc := 455) dL_law_455 ?_
  refine wt_slI (pc := 456) hX dL_law_456 h (fun v456 h => ?_)
  refine wt_xload_n (pc := 457) 0 dL_law_457 rfl ?_
  refine wt_iload_n (pc := 458) 3 dL_law_458 rfl ?_
  refine wt_iconst (pc := 459) (v := 2) dL_law_459 (by decide) ?_
  refine wt_iadd (pc := 460) dL_law_460 ?_
  refine wt_slI (pc := 461) hX dL_law_461 h (fun v461 h => ?_)
  refine wt_xload_n (pc := 462) 0 dL_law_462 rfl ?_
  refine wt_iload_n (pc := 463) 3 dL_law_463 rfl ?_
  refine wt_iconst (pc := 464) (v := 3) dL_law_464 (by decide) ?_
  refine wt_iadd (pc := 465) dL_law_465 ?_
  refine wt_slI (pc := 466) hX dL_law_466 h (fun v466 h => ?_)
  refine wt_xload_n (pc := 467) 0 dL_law_467 rfl ?_
  refine wt_iload_n (pc := 468) 3 dL_law_468 rfl ?_
  refine wt_iconst (pc := 469) (v := 4) dL_law_469 (by decide) ?_
  refine wt_iadd (pc := 470) dL_law_470 ?_
  refine wt_slI (pc := 471) hX dL_law_471 h (fun v471 h => ?_)
  refine wt_xload_n (pc := 472) 0 dL_law_472 rfl ?_
  refine wt_iload_n (pc := 473) 3 dL_law_473 rfl ?_
  refine wt_iconst (pc := 474) (v := 5) dL_law_474 (by decide) ?_
  refine wt_iadd (pc := 475) dL_law_475 ?_
  refine wt_slI (pc := 476) hX dL_law_476 h (fun v476 h => ?_)
  refine wt_cVI (pc := 477) (J' := j_X11_pour) (As := [.int v456, .int v461, .int v466, .int v471, .int v476]) (st := []) (B' := b_X11_pour) (u' := u) (w' := w) dL_law_477 ml_L_44 mv_X11_pour (fun v9 M9 e9 => c_X11_pour e9) rfl (by decide) rfl rfl (by show _ ≤ 600000; omega) (by show _ ≤ 7302249; omega) (by decide) rfl h (fun v477 M477 h => ?_)
  refine wt_aload_n (pc := 480) 2 dL_law_480 rfl ?_
  refine wt_xload_n (pc := 481) 0 dL_law_481 rfl ?_
  refine wt_iload_n (pc := 482) 3 dL_law_482 rfl ?_
  refine wt_iconst (pc := 483) (v := 1) dL_law_483 (by decide) ?_
  refine wt_iadd (pc := 484) dL_law_484 ?_
  refine wt_slI (pc := 485) hX dL_law_485 h (fun v485 h => ?_)
  refine wt_xload_n (pc := 486) 0 dL_law_486 rfl ?_
  refine wt_iload_n (pc := 487) 3 dL_law_487 rfl ?_
  refine wt_iconst (pc := 488) (v := 2) dL_law_488 (by decide) ?_
  refine wt_iadd (pc := 489) dL_law_489 ?_
  refine wt_slI (pc := 490) hX dL_law_490 h (fun v490 h => ?_)
  refine wt_xload_n (pc := 491) 0 dL_law_491 rfl ?_
  refine wt_iload_n (pc := 492) 3 dL_law_492 rfl ?_
  refine wt_iconst (pc := 493) (v := 3) dL_law_493 (by decide) ?_
  refine wt_iadd (pc := 494) dL_law_494 ?_
  refine wt_slI (pc := 495) hX dL_law_495 h (fun v495 h => ?_)
  refine wt_xload_n (pc := 496) 0 dL_law_496 rfl ?_
  refine wt_iload_n (pc := 497) 3 dL_law_497 rfl ?_
  refine wt_iconst (pc := 498) (v := 4) dL_law_498 (by decide) ?_
  refine wt_iadd (pc := 499) dL_law_499 ?_
  refine wt_slI (pc := 500) hX dL_law_500 h (fun v500 h => ?_)
  refine wt_xload_n (pc := 501) 0 dL_law_501 rfl ?_
  refine wt_iload_n (pc := 502) 3 dL_law_502 rfl ?_
  refine wt_iconst (pc := 503) (v := 5) dL_law_503 (by decide) ?_
  refine wt_iadd (pc := 504) dL_law_504 ?_
  refine wt_slI (pc := 505) hX dL_law_505 h (fun v505 h => ?_)
  refine wt_cVI (pc := 506) (J' := j_X12_pour) (As := [.int v485, .int v490, .int v495, .int v500, .int v505]) (st := [.int v477]) (B' := b_X12_pour) (u' := u) (w' := w) dL_law_506 ml_L_48 mv_X12_pour (fun v9 M9 e9 => c_X12_pour e9) rfl (by decide) rfl rfl (by show _ ≤ 600000; omega) (by show _ ≤ 7302249; omega) (by simp [rf_cat, cat_i, cat_l, cat_r]) rfl h (fun v506 M506 h => ?_)
  refine wt_icmp_eq (pc := 509) (tgt := 1702) dL_law_509 (by decide) (fun q => ?_) (fun q => ?_)
  · have h := ite_t q h
    refine wt_room (u' := u + 2) (w' := w + 8) (by omega) (by omega) ?_
    exact t_L_law_1702 hX he hub hwb hk18 h
  · have h := ite_f q h
    refine wt_iconst (pc := 512) (v := 0) dL_law_512 (by decide) ?_
    cases h
    exact he 513 _ _ _ dL_law_513 (by show _ ≤ 600000; omega) (by show _ ≤ 7302249; omega)
set_option maxHeartbeats 4000000 in
set_option maxRecDepth 100000 in
theorem t_L_law_514 {G : GG} {X : CX} {L b : Nat} {xs : Nat → Int32} (hX : hXs G X b L xs) {ans : Int32 × Mm} (he : EndI G X j_L_law b_L_law ans) {k18 : Mm → Option Nat → Option Nat → Int32 → Option (Int32 × Mm)} {u w : Nat} (hub : u + 2 ≤ 600000) (hwb : w + 8 ≤ 7302249) (hk18 : ∀ (M : Mm) (l1 : Option Nat) (l2 : Option Nat) (l3 : Int32), k18 M l1 l2 l3 = some ans → Wt G X j_L_law b_L_law 18 [(0, .ref b), (1, rf G.1 l1), (2, rf G.1 l2), (3, .int l3)] [] M (u + 2) (w + 8)) {M : Mm} {l1 : Option Nat} {l2 : Option Nat} {l3 : Int32} (h : f_L_law_514 L xs k18 M l1 l2 l3 = some ans) : Wt G X j_L_law b_L_law 514 [(0, .ref b), (1, rf G.1 l1), (2, rf G.1 l2), (3, .int l3)] [] M (u) (w) := by
  unfold f_L_law_514 at h
  refine wt_aload_n (pc := 514) 1 dL_law_514 rfl ?_
  refine wt_xload_n (pc := 515) 0 dL_law_515 rfl ?_
  refine wt_iload_n (pc := 516) 3 dL_law_516 rfl ?_
  refine wt_iconst (pc := 517) (v := 1) dL_law_517 (by decide) ?_
  refine wt_iadd (pc := 518) dL_law_518 ?_
  refine wt_slI (pc := 519) hX dL_law_519 h (fun v519 h => ?_)
  refine wt_xload_n (pc := 520) 0 dL_law_520 rfl ?_
  refine wt_iload_n (pc := 521) 3 dL_law_521 rfl ?_
  refine wt_iconst (pc := 522) (v := 2) dL_law_522 (by decide) ?_
  refine wt_iadd (pc := 523) dL_law_523 ?_
  refine wt_slI (pc := 524) hX dL_law_524 h (fun v524 h => ?_)
  refine wt_xload_n (pc := 525) 0 dL_law_525 rfl ?_
  refine wt_iload_n (pc := 526) 3 dL_law_526 rfl ?_
  refine wt_iconst (pc := 527) (v := 3) dL_law_527 (by decide) ?_
  refine wt_iadd (pc := 528) dL_law_528 ?_
  refine wt_slI (pc := 529) hX dL_law_529 h (fun v529 h => ?_)
  refine wt_xload_n (pc := 530) 0 dL_law_530 rfl ?_
  refine wt_iload_n (pc := 531) 3 dL_law_531 rfl ?_
  refine wt_iconst (pc := 532) (v := 4) dL_law_532 (by decide) ?_
  refine wt_iadd (pc := 533) dL_law_533 ?_
  refine wt_slI (pc := 534) hX dL_law_534 h (fun v534 h => ?_)
  refine wt_xload_n (pc := 535) 0 dL_law_535 rfl ?_
  refine wt_iload_n (pc := 536) 3 dL_law_536 rfl ?_
  refine wt_iconst (pc := 537) (v := 5) dL_law_537 (by decide) ?_
  refine wt_iadd (pc := 538) dL_law_538 ?_
  refine wt_slI (pc := 539) hX dL_law_539 h (fun v539 h => ?_)
  refine wt_cVI (pc := 540) (J' := j_X11_feed) (As := [.int v519, .int v524, .int v529, .int v534, .int v539]) (st := []) (B' := b_X11_feed) (u' := u) (w' := w) dL_law_540 ml_L_49 mv_X11_feed (fun v9 M9 e9 => c_X11_feed e9) rfl (by decide) rfl rfl (by show _ ≤ 600000; omega) (by show _ ≤ 7302249; omega) (by decide) rfl h (fun v540 M540 h => ?_)
  refine wt_aload_n (pc := 543) 2 dL_law_543 rfl ?_
  refine wt_xload_n (pc := 544) 0 dL_law_544 rfl ?_
  refine wt_iload_n (pc := 545) 3 dL_law_545 rfl ?_
  refine wt_iconst (pc := 546) (v := 1) dL_law_546 (by decide) ?_
  refine wt_iadd (pc := 547) dL_law_547 ?_
  refine wt_slI (pc := 548) hX dL_law_548 h (fun v548 h => ?_)
  refine wt_xload_n (pc := 549) 0 dL_law_549 rfl ?_
  refine wt_iload_n (pc := 550) 3 dL_law_550 rfl ?_
  refine wt_iconst (pc := 551) (v := 2) dL_law_551 (by decide) ?_
  refine wt_iadd (pc := 552) dL_law_552 ?_
  refine wt_slI (pc := 553) hX dL_law_553 h (fun v553 h => ?_)
  refine wt_xload_n (pc := 554) 0 dL_law_554 rfl ?_
  refine wt_iload_n (pc := 555) 3 dL_law_555 rfl ?_
  refine wt_iconst (pc := 556) (v := 3) dL_law_556 (by decide) ?_
  refine wt_iadd (pc := 557) dL_law_557 ?_
  refine wt_slI (pc := 558) hX dL_law_558 h (fun v558 h => ?_)
  refine wt_xload_n (pc := 559) 0 dL_law_559 rfl ?_
  refine wt_iload_n (pc := 560) 3 dL_law_560 rfl ?_
  refine wt_iconst (pc := 561) (v := 4) dL_law_561 (by decide) ?_
  refine wt_iadd (pc := 562) dL_law_562 ?_
  refine wt_slI (pc := 563) hX dL_law_563 h (fun v563 h => ?_)
  refine wt_xload_n (pc := 564) 0 dL_law_564 rfl ?_
  refine wt_iload_n (pc := 565) 3 dL_law_565 rfl ?_
  refine wt_iconst (pc := 566) (v := 5) dL_law_566 (by decide) ?_
  refine wt_iadd (pc := 567) dL_law_567 ?_
  refine wt_slI (pc := 568) hX dL_law_568 h (fun v568 h => ?_)
  refine wt_cVI (pc := 569) (J' := j_X12_feed) (As := [.int v548, .int v553, .int v558, .int v563, .int v568]) (st := [.int v540]) (B' := b_X12_feed) (u' := u) (w' := w) dL_law_569 ml_L_53 mv_X12_feed (fun v9 M9 e9 => c_X12_feed e9) rfl (by decide) rfl rfl (by show _ ≤ 600000; omega) (by show _ ≤ 7302249; omega) (by simp [rf_cat, cat_i, cat_l, cat_r]) rfl h (fun v569 M569 h => ?_)
  refine wt_icmp_eq (pc := 572) (tgt := 1702) dL_law_572 (by decide) (fun q => ?_) (fun q => ?_)
  · have h := ite_t q h
    refine wt_room (u' := u + 2) (w' := w + 8) (by omega) (by omega) ?_
    exact t_L_law_1702 hX he hub hwb hk18 h
  · have h := ite_f q h
    refine wt_iconst (pc := 575) (v := 0) dL_law_575 (by decide) ?_
    cases h
    exact he 576 _ _ _ dL_law_576 (by show _ ≤ 600000; omega) (by show _ ≤ 7302249; omega)
set_option maxHeartbeats 4000000 in
set_option maxRecDepth 100000 in
theorem t_L_law_577 {G : GG} {X : CX} {L b : Nat} {xs : Nat → Int32} (hX : hXs G X b L xs) {ans : Int32 × Mm} (he : EndI G X j_L_law b_L_law ans) {k18 : Mm → Option Nat → Option Nat → Int32 → Option (Int32 × Mm)} {u w : Nat} (hub : u + 2 ≤ 600000) (hwb : w + 8 ≤ 7302249) (hk18 : ∀ (M : Mm) (l1 : Option Nat) (l2 : Option Nat) (l3 : Int32), k18 M l1 l2 l3 = some ans → Wt G X j_L_law b_L_law 18 [(0, .ref b), (1, rf G.1 l1), (2, rf G.1 l2), (3, .int l3)] [] M (u + 2) (w + 8)) {M : Mm} {l1 : Option Nat} {l2 : Option Nat} {l3 : Int32} (h : f_L_law_577 L xs k18 M l1 l2 l3 = some ans) : Wt G X j_L_law b_L_law 577 [(0, .ref b), (1, rf G.1 l1), (2, rf G.1 l2), (3, .int l3)] [] M (u) (w) := by
  unfold f_L_law_577 at h
  refine wt_aload_n (pc := 577) 1 dL_law_577 rfl ?_
  refine wt_xload_n (pc := 578) 0 dL_law_578 rfl ?_
  refine wt_iload_n (pc := 579) 3 dL_law_579 rfl ?_
  refine wt_iconst (pc := 580) (v := 1) dL_law_580 (by decide) ?_
  refine wt_iadd (pc := 581) dL_law_581 ?_
  refine wt_slI (pc := 582) hX dL_law_582 h (fun v582 h => ?_)
  refine wt_cVI (pc := 583) (J' := j_X11_shore) (As := [.int v582]) (st := []) (B' := b_X11_shore) (u' := u + 1) (w' := w + 3) dL_law_583 ml_L_54 mv_X11_shore (fun v9 M9 e9 => c_X11_shore e9) rfl (by decide) rfl rfl (by show _ ≤ 600000; omega) (by show _ ≤ 7302249; omega) (by decide) rfl h (fun v583 M583 h => ?_)
  refine wt_aload_n (pc := 586) 2 dL_law_586 rfl ?_
  refine wt_xload_n (pc := 587) 0 dL_law_587 rfl ?_
  refine wt_iload_n (pc := 588) 3 dL_law_588 rfl ?_
  refine wt_iconst (pc := 589) (v := 1) dL_law_589 (by decide) ?_
  refine wt_iadd (pc := 590) dL_law_590 ?_
  refine wt_slI (pc := 591) hX dL_law_591 h (fun v591 h => ?_)
  refine wt_cVI (pc := 592) (J' := j_X12_shore) (As := [.int v591]) (st := [.int v583]) (B' := b_X12_shore) (u' := u + 1) (w' := w + 3) dL_law_592 ml_L_58 mv_X12_shore (fun v9 M9 e9 => c_X12_shore e9) rfl (by decide) rfl rfl (by show _ ≤ 600000; omega) (by show _ ≤ 7302249; omega) (by simp [rf_cat, cat_i, cat_l, cat_r]) rfl h (fun v592 M592 h => ?_)
  refine wt_icmp_eq (pc := 595) (tgt := 1702) dL_law_595 (by decide) (fun q => ?_) (fun q => ?_)
  · have h := ite_t q h
    refine wt_room (u' := u + 2) (w' := w + 8) (by omega) (by omega) ?_
    exact t_L_law_1702 hX he hub hwb hk18 h
  · have h := ite_f q h
    refine wt_iconst (pc := 598) (v := 0) dL_law_598 (by decide) ?_
    cases h
    exact he 599 _ _ _ dL_law_599 (by show _ ≤ 600000; omega) (by show _ ≤ 7302249; omega)
set_option maxHeartbeats 4000000 in
set_option maxRecDepth 100000 in
theorem t_L_law_600 {G : GG} {X : CX} {L b : Nat} {xs : Nat → Int32} (hX : hXs G X b L xs) {ans : Int32 × Mm} (he : EndI G X j_L_law b_L_law ans) {k18 : Mm → Option Nat → Option Nat → Int32 → Option (Int32 × Mm)} {u w : Nat} (hub : u + 2 ≤ 600000) (hwb : w + 8 ≤ 7302249) (hk18 : ∀ (M : Mm) (l1 : Option Nat) (l2 : Option Nat) (l3 : Int32), k18 M l1 l2 l3 = some ans → Wt G X j_L_law b_L_law 18 [(0, .ref b), (1, rf G.1 l1), (2, rf G.1 l2), (3, .int l3)] [] M (u + 2) (w + 8)) {M : Mm} {l1 : Option Nat} {l2 : Option Nat} {l3 : Int32} (h : f_L_law_600 L xs k18 M l1 l2 l3 = some ans) : Wt G X j_L_law b_L_law 600 [(0, .ref b), (1, rf G.1 l1), (2, rf G.1 l2), (3, .int l3)] [] M (u) (w) := by
  unfold f_L_law_600 at h
  refine wt_aload_n (pc := 600) 1 dL_law_600 rfl ?_
  refine wt_xload_n (pc := 601) 0 dL_law_601 rfl ?_
  refine wt_iload_n (pc := 602) 3 dL_law_602 rfl ?_
  refine wt_iconst (pc := 603) (v := 1) dL_law_603 (by decide) ?_
  refine wt_iadd (pc := 604) dL_law_604 ?_
  refine wt_slI (pc := 605) hX dL_law_605 h (fun v605 h => ?_)
  refine wt_cVI (pc := 606) (J' := j_X11_years) (As := [.int v605]) (st := []) (B' := b_X11_years) (u' := u + 2) (w' := w + 8) dL_law_606 ml_L_59 mv_X11_years (fun v9 M9 e9 => c_X11_years e9) rfl (by decide) rfl rfl (by show _ ≤ 600000; omega) (by show _ ≤ 7302249; omega) (by decide) rfl h (fun v606 M606 h => ?_)
  refine wt_aload_n (pc := 609) 2 dL_law_609 rfl ?_
  refine wt_xload_n (pc := 610) 0 dL_law_610 rfl ?_
  refine wt_iload_n (pc := 611) 3 dL_law_611 rfl ?_
  refine wt_iconst (pc := 612) (v := 1) dL_law_612 (by decide) ?_
  refine wt_iadd (pc := 613) dL_law_613 ?_
  refine wt_slI (pc := 614) hX dL_law_614 h (fun v614 h => ?_)
  refine wt_cVI (pc := 615) (J' := j_X12_years) (As := [.int v614]) (st := [.int v606]) (B' := b_X12_years) (u' := u + 2) (w' := w + 8) dL_law_615 ml_L_62 mv_X12_years (fun v9 M9 e9 => c_X12_years e9) rfl (by decide) rfl rfl (by show _ ≤ 600000; omega) (by show _ ≤ 7302249; omega) (by simp [rf_cat, cat_i, cat_l, cat_r]) rfl h (fun v615 M615 h => ?_)
  refine wt_icmp_eq (pc := 618) (tgt := 1702) dL_law_618 (by decide) (fun q => ?_) (fun q => ?_)
  · have h := ite_t q h
    exact t_L_law_1702 hX he hub hwb hk18 h
  · have h := ite_f q h
    refine wt_iconst (pc := 621) (v := 0) dL_law_621 (by decide) ?_
    cases h
    exact he 622 _ _ _ dL_law_622 (by show _ ≤ 600000; omega) (by show _ ≤ 7302249; omega)
set_option maxHeartbeats 4000000 in
set_option maxRecDepth 100000 in
theorem t_L_law_623 {G : GG} {X : CX} {L b : Nat} {xs : Nat → Int32} (hX : hXs G X b L xs) {ans : Int32 × Mm} (he : EndI G X j_L_law b_L_law ans) {k18 : Mm → Option Nat → Option Nat → Int32 → Option (Int32 × Mm)} {u w : Nat} (hub : u + 2 ≤ 600000) (hwb : w + 8 ≤ 7302249) (hk18 : ∀ (M : Mm) (l1 : Option Nat) (l2 : Option Nat) (l3 : Int32), k18 M l1 l2 l3 = some ans → Wt G X j_L_law b_L_law 18 [(0, .ref b), (1, rf G.1 l1), (2, rf G.1 l2), (3, .int l3)] [] M (u + 2) (w + 8)) {M : Mm} {l1 : Option Nat} {l2 : Option Nat} {l3 : Int32} (h : f_L_law_623 L xs k18 M l1 l2 l3 = some ans) : Wt G X j_L_law b_L_law 623 [(0, .ref b), (1, rf G.1 l1), (2, rf G.1 l2), (3, .int l3)] [] M (u) (w) := by
  unfold f_L_law_623 at h
  refine wt_aload_n (pc := 623) 1 dL_law_623 rfl ?_
  refine wt_xload_n (pc := 624) 0 dL_law_624 rfl ?_
  refine wt_iload_n (pc := 625) 3 dL_law_625 rfl ?_
  refine wt_iconst (pc := 626) (v := 1) dL_law_626 (by decide) ?_
  refine wt_iadd (pc := 627) dL_law_627 ?_
  refine wt_slI (pc := 628) hX dL_law_628 h (fun v628 h => ?_)
  refine wt_cVI (pc := 629) (J' := j_X11_fault) (As := [.int v628]) (st := []) (B' := b_X11_fault) (u' := u) (w' := w) dL_law_629 ml_L_63 mv_X11_fault (fun v9 M9 e9 => c_X11_fault e9) rfl (by decide) rfl rfl (by show _ ≤ 600000; omega) (by show _ ≤ 7302249; omega) (by decide) rfl h (fun v629 M629 h => ?_)
  refine wt_aload_n (pc := 632) 2 dL_law_632 rfl ?_
  refine wt_xload_n (pc := 633) 0 dL_law_633 rfl ?_
  refine wt_iload_n (pc := 634) 3 dL_law_634 rfl ?_
  refine wt_iconst (pc := 635) (v := 1) dL_law_635 (by decide) ?_
  refine wt_iadd (pc := 636) dL_law_636 ?_
  refine wt_slI (pc := 637) hX dL_law_637 h (fun v637 h => ?_)
  refine wt_cVI (pc := 638) (J' := j_X12_fault) (As := [.int v637]) (st := [.int v629]) (B' := b_X12_fault) (u' := u) (w' := w) dL_law_638 ml_L_66 mv_X12_fault (fun v9 M9 e9 => c_X12_fault e9) rfl (by decide) rfl rfl (by show _ ≤ 600000; omega) (by show _ ≤ 7302249; omega) (by simp [rf_cat, cat_i, cat_l, cat_r]) rfl h (fun v638 M638 h => ?_)
  refine wt_icmp_eq (pc := 641) (tgt := 1702) dL_law_641 (by decide) (fun q => ?_) (fun q => ?_)
  · have h := ite_t q h
    refine wt_room (u' := u + 2) (w' := w + 8) (by omega) (by omega) ?_
    exact t_L_law_1702 hX he hub hwb hk18 h
  · have h := ite_f q h
    refine wt_iconst (pc := 644) (v := 0) dL_law_644 (by decide) ?_
    cases h
    exact he 645 _ _ _ dL_law_645 (by show _ ≤ 600000; omega) (by show _ ≤ 7302249; omega)
set_option maxHeartbeats 4000000 in
set_option maxRecDepth 100000 in
theorem t_L_law_646 {G : GG} {X : CX} {L b : Nat} {xs : Nat → Int32} (hX : hXs G X b L xs) {ans : Int32 × Mm} (he : EndI G X j_L_law b_L_law ans) {k18 : Mm → Option Nat → Option Nat → Int32 → Option (Int32 × Mm)} {u w : Nat} (hub : u + 2 ≤ 600000) (hwb : w + 8 ≤ 7302249) (hk18 : ∀ (M : Mm) (l1 : Option Nat) (l2 : Option Nat) (l3 : Int32), k18 M l1 l2 l3 = some ans → Wt G X j_L_law b_L_law 18 [(0, .ref b), (1, rf G.1 l1), (2, rf G.1 l2), (3, .int l3)] [] M (u + 2) (w + 8)) {M : Mm} {l1 : Option Nat} {l2 : Option Nat} {l3 : Int32} (h : f_L_law_646 L xs k18 M l1 l2 l3 = some ans) : Wt G X j_L_law b_L_law 646 [(0, .ref b), (1, rf G.1 l1), (2, rf G.1 l2), (3, .int l3)] [] M (u) (w) := by
  unfold f_L_law_646 at h
  refine wt_aload_n (pc := 646) 1 dL_law_646 rfl ?_
  refine wt_xload_n (pc := 647) 0 dL_law_647 rfl ?_
  refine wt_iload_n (pc := 648) 3 dL_law_648 rfl ?_
  refine wt_iconst (pc := 649) (v := 1) dL_law_649 (by decide) ?_
  refine wt_iadd (pc := 650) dL_law_650 ?_
  refine wt_slI (pc := 651) hX dL_law_651 h (fun v651 h => ?_)
  refine wt_cVI (pc := 652) (J' := j_X11_many) (As := [.int v651]) (st := []) (B' := b_X11_many) (u' := u) (w' := w) dL_law_652 ml_L_67 mv_X11_many (fun v9 M9 e9 => c_X11_many e9) rfl (by decide) rfl rfl (by show _ ≤ 600000; omega) (by show _ ≤ 7302249; omega) (by decide) rfl h (fun v652 M652 h => ?_)
  refine wt_aload_n (pc := 655) 2 dL_law_655 rfl ?_
  refine wt_xload_n (pc := 656) 0 dL_law_656 rfl ?_
  refine wt_iload_n (pc := 657) 3 dL_law_657 rfl ?_
  refine wt_iconst (pc := 658) (v := 1) dL_law_658 (by decide) ?_
  refine wt_iadd (pc := 659) dL_law_659 ?_
  refine wt_slI (pc := 660) hX dL_law_660 h (fun v660 h => ?_)
  refine wt_cVI (pc := 661) (J' := j_X12_many) (As := [.int v660]) (st := [.int v652]) (B' := b_X12_many) (u' := u) (w' := w) dL_law_661 ml_L_70 mv_X12_many (fun v9 M9 e9 => c_X12_many e9) rfl (by decide) rfl rfl (by show _ ≤ 600000; omega) (by show _ ≤ 7302249; omega) (by simp [rf_cat, cat_i, cat_l, cat_r]) rfl h (fun v661 M661 h => ?_)
  refine wt_icmp_eq (pc := 664) (tgt := 1702) dL_law_664 (by decide) (fun q => ?_) (fun q => ?_)
  · have h := ite_t q h
    refine wt_room (u' := u + 2) (w' := w + 8) (by omega) (by omega) ?_
    exact t_L_law_1702 hX he hub hwb hk18 h
  · have h := ite_f q h
    refine wt_iconst (pc := 667) (v := 0) dL_law_667 (by decide) ?_
    cases h
    exact he 668 _ _ _ dL_law_668 (by show _ ≤ 600000; omega) (by show _ ≤ 7302249; omega)
set_option maxHeartbeats 4000000 in
set_option maxRecDepth 100000 in
theorem t_L_law_669 {G : GG} {X : CX} {L b : Nat} {xs : Nat → Int32} (hX : hXs G X b L xs) {ans : Int32 × Mm} (he : EndI G X j_L_law b_L_law ans) {k18 : Mm → Option Nat → Option Nat → Int32 → Option (Int32 × Mm)} {u w : Nat} (hub : u + 2 ≤ 600000) (hwb : w + 8 ≤ 7302249) (hk18 : ∀ (M : Mm) (l1 : Option Nat) (l2 : Option Nat) (l3 : Int32), k18 M l1 l2 l3 = some ans → Wt G X j_L_law b_L_law 18 [(0, .ref b), (1, rf G.1 l1), (2, rf G.1 l2), (3, .int l3)] [] M (u + 2) (w + 8)) {M : Mm} {l1 : Option Nat} {l2 : Option Nat} {l3 : Int32} (h : f_L_law_669 L xs k18 M l1 l2 l3 = some ans) : Wt G X j_L_law b_L_law 669 [(0, .ref b), (1, rf G.1 l1), (2, rf G.1 l2), (3, .int l3)] [] M (u) (w) := by
  unfold f_L_law_669 at h
  refine wt_aload_n (pc := 669) 1 dL_law_669 rfl ?_
  refine wt_xload_n (pc := 670) 0 dL_law_670 rfl ?_
  refine wt_iload_n (pc := 671) 3 dL_law_671 rfl ?_
  refine wt_iconst (pc := 672) (v := 1) dL_law_672 (by decide) ?_
  refine wt_iadd (pc := 673) dL_law_673 ?_
  refine wt_slI (pc := 674) hX dL_law_674 h (fun v674 h => ?_)
  refine wt_xload_n (pc := 675) 0 dL_law_675 rfl ?_
  refine wt_iload_n (pc := 676) 3 dL_law_676 rfl ?_
  refine wt_iconst (pc := 677) (v := 2) dL_law_677 (by decide) ?_
  refine wt_iadd (pc := 678) dL_law_678 ?_
  refine wt_slI (pc := 679) hX dL_law_679 h (fun v679 h => ?_)
  refine wt_cVI (pc := 680) (J' := j_X11_house) (As := [.int v674, .int v679]) (st := []) (B' := b_X11_house) (u' := u) (w' := w) dL_law_680 ml_L_71 mv_X11_house (fun v9 M9 e9 => c_X11_house e9) rfl (by decide) rfl rfl (by show _ ≤ 600000; omega) (by show _ ≤ 7302249; omega) (by decide) rfl h (fun v680 M680 h => ?_)
  refine wt_aload_n (pc := 683) 2 dL_law_683 rfl ?_
  refine wt_xload_n (pc := 684) 0 dL_law_684 rfl ?_
  refine wt_iload_n (pc := 685) 3 dL_law_685 rfl ?_
  refine wt_iconst (pc := 686) (v := 1) dL_law_686 (by decide) ?_
  refine wt_iadd (pc := 687) dL_law_687 ?_
  refine wt_slI (pc := 688) hX dL_law_688 h (fun v688 h => ?_)
  refine wt_xload_n (pc := 689) 0 dL_law_689 rfl ?_
  refine wt_iload_n (pc := 690) 3 dL_law_690 rfl ?_
  refine wt_iconst (pc := 691) (v := 2) dL_law_691 (by decide) ?_
  refine wt_iadd (pc := 692) dL_law_692 ?_
  refine wt_slI (pc := 693) hX dL_law_693 h (fun v693 h => ?_)
  refine wt_cVI (pc := 694) (J' := j_X12_house) (As := [.int v688, .int v693]) (st := [.int v680]) (B' := b_X12_house) (u' := u) (w' := w) dL_law_694 ml_L_75 mv_X12_house (fun v9 M9 e9 => c_X12_house e9) rfl (by decide) rfl rfl (by show _ ≤ 600000; omega) (by show _ ≤ 7302249; omega) (by simp [rf_cat, cat_i, cat_l, cat_r]) rfl h (fun v694 M694 h => ?_)
  refine wt_icmp_eq (pc := 697) (tgt := 1702) dL_law_697 (by decide) (fun q => ?_) (fun q => ?_)
  · have h := ite_t q h
    refine wt_room (u' := u + 2) (w' := w + 8) (by omega) (by omega) ?_
    exact t_L_law_1702 hX he hub hwb hk18 h
  · have h := ite_f q h
    refine wt_iconst (pc := 700) (v := 0) dL_law_700 (by decide) ?_
    cases h
    exact he 701 _ _ _ dL_law_701 (by show _ ≤ 600000; omega) (by show _ ≤ 7302249; omega)
set_option maxHeartbeats 4000000 in
set_option maxRecDepth 100000 in
theorem t_L_law_702 {G : GG} {X : CX} {L b : Nat} {xs : Nat → Int32} (hX : hXs G X b L xs) {ans : Int32 × Mm} (he : EndI G X j_L_law b_L_law ans) {k18 : Mm → Option Nat → Option Nat → Int32 → Option (Int32 × Mm)} {u w : Nat} (hub : u + 2 ≤ 600000) (hwb : w + 8 ≤ 7302249) (hk18 : ∀ (M : Mm) (l1 : Option Nat) (l2 : Option Nat) (l3 : Int32), k18 M l1 l2 l3 = some ans → Wt G X j_L_law b_L_law 18 [(0, .ref b), (1, rf G.1 l1), (2, rf G.1 l2), (3, .int l3)] [] M (u + 2) (w + 8)) {M : Mm} {l1 : Option Nat} {l2 : Option Nat} {l3 : Int32} (h : f_L_law_702 L xs k18 M l1 l2 l3 = some ans) : Wt G X j_L_law b_L_law 702 [(0, .ref b), (1, rf G.1 l1), (2, rf G.1 l2), (3, .int l3)] [] M (u) (w) := by
  unfold f_L_law_702 at h
  refine wt_aload_n (pc := 702) 1 dL_law_702 rfl ?_
  refine wt_xload_n (pc := 703) 0 dL_law_703 rfl ?_
  refine wt_iload_n (pc := 704) 3 dL_law_704 rfl ?_
  refine wt_iconst (pc := 705) (v := 1) dL_law_705 (by decide) ?_
  refine wt_iadd (pc := 706) dL_law_706 ?_
  refine wt_slI (pc := 707) hX dL_law_707 h (fun v707 h => ?_)
  refine wt_xload_n (pc := 708) 0 dL_law_708 rfl ?_
  refine wt_iload_n (pc := 709) 3 dL_law_709 rfl ?_
  refine wt_iconst (pc := 710) (v := 2) dL_law_710 (by decide) ?_
  refine wt_iadd (pc := 711) dL_law_711 ?_
  refine wt_slI (pc := 712) hX dL_law_712 h (fun v712 h => ?_)
  refine wt_cVI (pc := 713) (J' := j_X11_gang) (As := [.int v707, .int v712]) (st := []) (B' := b_X11_gang) (u' := u) (w' := w) dL_law_713 ml_L_76 mv_X11_gang (fun v9 M9 e9 => c_X11_gang e9) rfl (by decide) rfl rfl (by show _ ≤ 600000; omega) (by show _ ≤ 7302249; omega) (by decide) rfl h (fun v713 M713 h => ?_)
  refine wt_aload_n (pc := 716) 2 dL_law_716 rfl ?_
  refine wt_xload_n (pc := 717) 0 dL_law_717 rfl ?_
  refine wt_iload_n (pc := 718) 3 dL_law_718 rfl ?_
  refine wt_iconst (pc := 719) (v := 1) dL_law_719 (by decide) ?_
  refine wt_iadd (pc := 720) dL_law_720 ?_
  refine wt_slI (pc := 721) hX dL_law_721 h (fun v721 h => ?_)
  refine wt_xload_n (pc := 722) 0 dL_law_722 rfl ?_
  refine wt_iload_n (pc := 723) 3 dL_law_723 rfl ?_
  refine wt_iconst (pc := 724) (v := 2) dL_law_724 (by decide) ?_
  refine wt_iadd (pc := 725) dL_law_725 ?_
  refine wt_slI (pc := 726) hX dL_law_726 h (fun v726 h => ?_)
  refine wt_cVI (pc := 727) (J' := j_X12_gang) (As := [.int v721, .int v726]) (st := [.int v713]) (B' := b_X12_gang) (u' := u) (w' := w) dL_law_727 ml_L_79 mv_X12_gang (fun v9 M9 e9 => c_X12_gang e9) rfl (by decide) rfl rfl (by show _ ≤ 600000; omega) (by show _ ≤ 7302249; omega) (by simp [rf_cat, cat_i, cat_l, cat_r]) rfl h (fun v727 M727 h => ?_)
  refine wt_icmp_eq (pc := 730) (tgt := 1702) dL_law_730 (by decide) (fun q => ?_) (fun q => ?_)
  · have h := ite_t q h
    refine wt_room (u' := u + 2) (w' := w + 8) (by omega) (by omega) ?_
    exact t_L_law_1702 hX he hub hwb hk18 h
  · have h := ite_f q h
    refine wt_iconst (pc := 733) (v := 0) dL_law_733 (by decide) ?_
    cases h
    exact he 734 _ _ _ dL_law_734 (by show _ ≤ 600000; omega) (by show _ ≤ 7302249; omega)
set_option maxHeartbeats 4000000 in
set_option maxRecDepth 100000 in
theorem t_L_law_735 {G : GG} {X : CX} {L b : Nat} {xs : Nat → Int32} (hX : hXs G X b L xs) {ans : Int32 × Mm} (he : EndI G X j_L_law b_L_law ans) {k18 : Mm → Option Nat → Option Nat → Int32 → Option (Int32 × Mm)} {u w : Nat} (hub : u + 2 ≤ 600000) (hwb : w + 8 ≤ 7302249) (hk18 : ∀ (M : Mm) (l1 : Option Nat) (l2 : Option Nat) (l3 : Int32), k18 M l1 l2 l3 = some ans → Wt G X j_L_law b_L_law 18 [(0, .ref b), (1, rf G.1 l1), (2, rf G.1 l2), (3, .int l3)] [] M (u + 2) (w + 8)) {M : Mm} {l1 : Option Nat} {l2 : Option Nat} {l3 : Int32} (h : f_L_law_735 L xs k18 M l1 l2 l3 = some ans) : Wt G X j_L_law b_L_law 735 [(0, .ref b), (1, rf G.1 l1), (2, rf G.1 l2), (3, .int l3)] [] M (u) (w) := by
  unfold f_L_law_735 at h
  refine wt_aload_n (pc := 735) 1 dL_law_735 rfl ?_
  refine wt_xload_n (pc := 736) 0 dL_law_736 rfl ?_
  refine wt_iload_n (pc := 737) 3 dL_law_737 rfl ?_
  refine wt_iconst (pc := 738) (v := 1) dL_law_738 (by decide) ?_
  refine wt_iadd (pc := 739) dL_law_739 ?_
  refine wt_slI (pc := 740) hX dL_law_740 h (fun v740 h => ?_)
  refine wt_xload_n (pc := 741) 0 dL_law_741 rfl ?_
  refine wt_iload_n (pc := 742) 3 dL_law_742 rfl ?_
  refine wt_iconst (pc := 743) (v := 2) dL_law_743 (by decide) ?_
  refine wt_iadd (pc := 744) dL_law_744 ?_
  refine wt_slI (pc := 745) hX dL_law_745 h (fun v745 h => ?_)
  refine wt_cVI (pc := 746) (J' := j_X11_wind) (As := [.int v740, .int v745]) (st := []) (B' := b_X11_wind) (u' := u) (w' := w) dL_law_746 ml_L_80 mv_X11_wind (fun v9 M9 e9 => c_X11_wind e9) rfl (by decide) rfl rfl (by show _ ≤ 600000; omega) (by show _ ≤ 7302249; omega) (by decide) rfl h (fun v746 M746 h => ?_)
  refine wt_aload_n (pc := 749) 2 dL_law_749 rfl ?_
  refine wt_xload_n (pc := 750) 0 dL_law_750 rfl ?_
  refine wt_iload_n (pc := 751) 3 dL_law_751 rfl ?_
  refine wt_iconst (pc := 752) (v := 1) dL_law_752 (by decide) ?_
  refine wt_iadd (pc := 753) dL_law_753 ?_
  refine wt_slI (pc := 754) hX dL_law_754 h (fun v754 h => ?_)
  refine wt_xload_n (pc := 755) 0 dL_law_755 rfl ?_
  refine wt_iload_n (pc := 756) 3 dL_law_756 rfl ?_
  refine wt_iconst (pc := 757) (v := 2) dL_law_757 (by decide) ?_
  refine wt_iadd (pc := 758) dL_law_758 ?_
  refine wt_slI (pc := 759) hX dL_law_759 h (fun v759 h => ?_)
  refine wt_cVI (pc := 760) (J' := j_X12_wind) (As := [.int v754, .int v759]) (st := [.int v746]) (B' := b_X12_wind) (u' := u) (w' := w) dL_law_760 ml_L_83 mv_X12_wind (fun v9 M9 e9 => c_X12_wind e9) rfl (by decide) rfl rfl (by show _ ≤ 600000; omega) (by show _ ≤ 7302249; omega) (by simp [rf_cat, cat_i, cat_l, cat_r]) rfl h (fun v760 M760 h => ?_)
  refine wt_icmp_eq (pc := 763) (tgt := 1702) dL_law_763 (by decide) (fun q => ?_) (fun q => ?_)
  · have h := ite_t q h
    refine wt_room (u' := u + 2) (w' := w + 8) (by omega) (by omega) ?_
    exact t_L_law_1702 hX he hub hwb hk18 h
  · have h := ite_f q h
    refine wt_iconst (pc := 766) (v := 0) dL_law_766 (by decide) ?_
    cases h
    exact he 767 _ _ _ dL_law_767 (by show _ ≤ 600000; omega) (by show _ ≤ 7302249; omega)
set_option maxHeartbeats 4000000 in
set_option maxRecDepth 100000 in
theorem t_L_law_768 {G : GG} {X : CX} {L b : Nat} {xs : Nat → Int32} (hX : hXs G X b L xs) {ans : Int32 × Mm} (he : EndI G X j_L_law b_L_law ans) {k18 : Mm → Option Nat → Option Nat → Int32 → Option (Int32 × Mm)} {u w : Nat} (hub : u + 2 ≤ 600000) (hwb : w + 8 ≤ 7302249) (hk18 : ∀ (M : Mm) (l1 : Option Nat) (l2 : Option Nat) (l3 : Int32), k18 M l1 l2 l3 = some ans → Wt G X j_L_law b_L_law 18 [(0, .ref b), (1, rf G.1 l1), (2, rf G.1 l2), (3, .int l3)] [] M (u + 2) (w + 8)) {M : Mm} {l1 : Option Nat} {l2 : Option Nat} {l3 : Int32} (h : f_L_law_768 L xs k18 M l1 l2 l3 = some ans) : Wt G X j_L_law b_L_law 768 [(0, .ref b), (1, rf G.1 l1), (2, rf G.1 l2), (3, .int l3)] [] M (u) (w) := by
  unfold f_L_law_768 at h
  refine wt_aload_n (pc := 768) 1 dL_law_768 rfl ?_
  refine wt_xload_n (pc := 769) 0 dL_law_769 rfl ?_
  refine wt_iload_n (pc := 770) 3 dL_law_770 rfl ?_
  refine wt_iconst (pc := 771) (v := 1) dL_law_771 (by decide) ?_
  refine wt_iadd (pc := 772) dL_law_772 ?_
  refine wt_slI (pc := 773) hX dL_law_773 h (fun v773 h => ?_)
  refine wt_xload_n (pc := 774) 0 dL_law_774 rfl ?_
  refine wt_iload_n (pc := 775) 3 dL_law_775 rfl ?_
  refine wt_iconst (pc := 776) (v := 2) dL_law_776 (by decide) ?_
  refine wt_iadd (pc := 777) dL_law_777 ?_
  refine wt_slI (pc := 778) hX dL_law_778 h (fun v778 h => ?_)
  refine wt_cVI (pc := 779) (J' := j_X11_helped) (As := [.int v773, .int v778]) (st := []) (B' := b_X11_helped) (u' := u) (w' := w) dL_law_779 ml_L_84 mv_X11_helped (fun v9 M9 e9 => c_X11_helped e9) rfl (by decide) rfl rfl (by show _ ≤ 600000; omega) (by show _ ≤ 7302249; omega) (by decide) rfl h (fun v779 M779 h => ?_)
  refine wt_aload_n (pc := 782) 2 dL_law_782 rfl ?_
  refine wt_xload_n (pc := 783) 0 dL_law_783 rfl ?_
  refine wt_iload_n (pc := 784) 3 dL_law_784 rfl ?_
  refine wt_iconst (pc := 785) (v := 1) dL_law_785 (by decide) ?_
  refine wt_iadd (pc := 786) dL_law_786 ?_
  refine wt_slI (pc := 787) hX dL_law_787 h (fun v787 h => ?_)
  refine wt_xload_n (pc := 788) 0 dL_law_788 rfl ?_
  refine wt_iload_n (pc := 789) 3 dL_law_789 rfl ?_
  refine wt_iconst (pc := 790) (v := 2) dL_law_790 (by decide) ?_
  refine wt_iadd (pc := 791) dL_law_791 ?_
  refine wt_slI (pc := 792) hX dL_law_792 h (fun v792 h => ?_)
  refine wt_cVI (pc := 793) (J' := j_X12_helped) (As := [.int v787, .int v792]) (st := [.int v779]) (B' := b_X12_helped) (u' := u) (w' := w) dL_law_793 ml_L_87 mv_X12_helped (fun v9 M9 e9 => c_X12_helped e9) rfl (by decide) rfl rfl (by show _ ≤ 600000; omega) (by show _ ≤ 7302249; omega) (by simp [rf_cat, cat_i, cat_l, cat_r]) rfl h (fun v793 M793 h => ?_)
  refine wt_icmp_eq (pc := 796) (tgt := 1702) dL_law_796 (by decide) (fun q => ?_) (fun q => ?_)
  · have h := ite_t q h
    refine wt_room (u' := u + 2) (w' := w + 8) (by omega) (by omega) ?_
    exact t_L_law_1702 hX he hub hwb hk18 h
  · have h := ite_f q h
    refine wt_iconst (pc := 799) (v := 0) dL_law_799 (by decide) ?_
    cases h
    exact he 800 _ _ _ dL_law_800 (by show _ ≤ 600000; omega) (by show _ ≤ 7302249; omega)
set_option maxHeartbeats 4000000 in
set_option maxRecDepth 100000 in
theorem t_L_law_801 {G : GG} {X : CX} {L b : Nat} {xs : Nat → Int32} (hX : hXs G X b L xs) {ans : Int32 × Mm} (he : EndI G X j_L_law b_L_law ans) {k18 : Mm → Option Nat → Option Nat → Int32 → Option (Int32 × Mm)} {u w : Nat} (hub : u + 2 ≤ 600000) (hwb : w + 8 ≤ 7302249) (hk18 : ∀ (M : Mm) (l1 : Option Nat) (l2 : Option Nat) (l3 : Int32), k18 M l1 l2 l3 = some ans → Wt G X j_L_law b_L_law 18 [(0, .ref b), (1, rf G.1 l1), (2, rf G.1 l2), (3, .int l3)] [] M (u + 2) (w + 8)) {M : Mm} {l1 : Option Nat} {l2 : Option Nat} {l3 : Int32} (h : f_L_law_801 L xs k18 M l1 l2 l3 = some ans) : Wt G X j_L_law b_L_law 801 [(0, .ref b), (1, rf G.1 l1), (2, rf G.1 l2), (3, .int l3)] [] M (u) (w) := by
  unfold f_L_law_801 at h
  refine wt_aload_n (pc := 801) 1 dL_law_801 rfl ?_
  refine wt_xload_n (pc := 802) 0 dL_law_802 rfl ?_
  refine wt_iload_n (pc := 803) 3 dL_law_803 rfl ?_
  refine wt_iconst (pc := 804) (v := 1) dL_law_804 (by decide) ?_
  refine wt_iadd (pc := 805) dL_law_805 ?_
  refine wt_slI (pc := 806) hX dL_law_806 h (fun v806 h => ?_)
  refine wt_xload_n (pc := 807) 0 dL_law_807 rfl ?_
  refine wt_iload_n (pc := 808) 3 dL_law_808 rfl ?_
  refine wt_iconst (pc := 809) (v := 2) dL_law_809 (by decide) ?_
  refine wt_iadd (pc := 810) dL_law_810 ?_
  refine wt_slI (pc := 811) hX dL_law_811 h (fun v811 h => ?_)
  refine wt_cVI (pc := 812) (J' := j_X11_takes) (As := [.int v806, .int v811]) (st := []) (B' := b_X11_takes) (u' := u) (w' := w) dL_law_812 ml_L_88 mv_X11_takes (fun v9 M9 e9 => c_X11_takes e9) rfl (by decide) rfl rfl (by show _ ≤ 600000; omega) (by show _ ≤ 7302249; omega) (by decide) rfl h (fun v812 M812 h => ?_)
  refine wt_aload_n (pc := 815) 2 dL_law_815 rfl ?_
  refine wt_xload_n (pc := 816) 0 dL_law_816 rfl ?_
  refine wt_iload_n (pc := 817) 3 dL_law_817 rfl ?_
  refine wt_iconst (pc := 818) (v := 1) dL_law_818 (by decide) ?_
  refine wt_iadd (pc := 819) dL_law_819 ?_
  refine wt_slI (pc := 820) hX dL_law_820 h (fun v820 h => ?_)
  refine wt_xload_n (pc := 821) 0 dL_law_821 rfl ?_
  refine wt_iload_n (pc := 822) 3 dL_law_822 rfl ?_
  refine wt_iconst (pc := 823) (v := 2) dL_law_823 (by decide) ?_
  refine wt_iadd (pc := 824) dL_law_824 ?_
  refine wt_slI (pc := 825) hX dL_law_825 h (fun v825 h => ?_)
  refine wt_cVI (pc := 826) (J' := j_X12_takes) (As := [.int v820, .int v825]) (st := [.int v812]) (B' := b_X12_takes) (u' := u) (w' := w) dL_law_826 ml_L_91 mv_X12_takes (fun v9 M9 e9 => c_X12_takes e9) rfl (by decide) rfl rfl (by show _ ≤ 600000; omega) (by show _ ≤ 7302249; omega) (by simp [rf_cat, cat_i, cat_l, cat_r]) rfl h (fun v826 M826 h => ?_)
  refine wt_icmp_eq (pc := 829) (tgt := 1702) dL_law_829 (by decide) (fun q => ?_) (fun q => ?_)
  · have h := ite_t q h
    refine wt_room (u' := u + 2) (w' := w + 8) (by omega) (by omega) ?_
    exact t_L_law_1702 hX he hub hwb hk18 h
  · have h := ite_f q h
    refine wt_iconst (pc := 832) (v := 0) dL_law_832 (by decide) ?_
    cases h
    exact he 833 _ _ _ dL_law_833 (by show _ ≤ 600000; omega) (by show _ ≤ 7302249; omega)
set_option maxHeartbeats 4000000 in
set_option maxRecDepth 100000 in
theorem t_L_law_834 {G : GG} {X : CX} {L b : Nat} {xs : Nat → Int32} (hX : hXs G X b L xs) {ans : Int32 × Mm} (he : EndI G X j_L_law b_L_law ans) {k18 : Mm → Option Nat → Option Nat → Int32 → Option (Int32 × Mm)} {u w : Nat} (hub : u + 2 ≤ 600000) (hwb : w + 8 ≤ 7302249) (hk18 : ∀ (M : Mm) (l1 : Option Nat) (l2 : Option Nat) (l3 : Int32), k18 M l1 l2 l3 = some ans → Wt G X j_L_law b_L_law 18 [(0, .ref b), (1, rf G.1 l1), (2, rf G.1 l2), (3, .int l3)] [] M (u + 2) (w + 8)) {M : Mm} {l1 : Option Nat} {l2 : Option Nat} {l3 : Int32} (h : f_L_law_834 L xs k18 M l1 l2 l3 = some ans) : Wt G X j_L_law b_L_law 834 [(0, .ref b), (1, rf G.1 l1), (2, rf G.1 l2), (3, .int l3)] [] M (u) (w) := by
  unfold f_L_law_834 at h
  refine wt_aload_n (pc := 834) 1 dL_law_834 rfl ?_
  refine wt_xload_n (pc := 835) 0 dL_law_835 rfl ?_
  refine wt_iload_n (pc := 836) 3 dL_law_836 rfl ?_
  refine wt_iconst (pc := 837) (v := 1) dL_law_837 (by decide) ?_
  refine wt_iadd (pc := 838) dL_law_838 ?_
  refine wt_slI (pc := 839) hX dL_law_839 h (fun v839 h => ?_)
  refine wt_xload_n (pc := 840) 0 dL_law_840 rfl ?_
  refine wt_iload_n (pc := 841) 3 dL_law_841 rfl ?_
  refine wt_iconst (pc := 842) (v := 2) dL_law_842 (by decide) ?_
  refine wt_iadd (pc := 843) dL_law_843 ?_
  refine wt_slI (pc := 844) hX dL_law_844 h (fun v844 h => ?_)
  refine wt_cVI (pc := 845) (J' := j_X11_walk) (As := [.int v839, .int v844]) (st := []) (B' := b_X11_walk) (u' := u) (w' := w) dL_law_845 ml_L_92 mv_X11_walk (fun v9 M9 e9 => c_X11_walk e9) rfl (by decide) rfl rfl (by show _ ≤ 600000; omega) (by show _ ≤ 7302249; omega) (by decide) rfl h (fun v845 M845 h => ?_)
  refine wt_aload_n (pc := 848) 2 dL_law_848 rfl ?_
  refine wt_xload_n (pc := 849) 0 dL_law_849 rfl ?_
  refine wt_iload_n (pc := 850) 3 dL_law_850 rfl ?_
  refine wt_iconst (pc := 851) (v := 1) dL_law_851 (by decide) ?_
  refine wt_iadd (pc := 852) dL_law_852 ?_
  refine wt_slI (pc := 853) hX dL_law_853 h (fun v853 h => ?_)
  refine wt_xload_n (pc := 854) 0 dL_law_854 rfl ?_
  refine wt_iload_n (pc := 855) 3 dL_law_855 rfl ?_
  refine wt_iconst (pc := 856) (v := 2) dL_law_856 (by decide) ?_
  refine wt_iadd (pc := 857) dL_law_857 ?_
  refine wt_slI (pc := 858) hX dL_law_858 h (fun v858 h => ?_)
  refine wt_cVI (pc := 859) (J' := j_X12_walk) (As := [.int v853, .int v858]) (st := [.int v845]) (B' := b_X12_walk) (u' := u) (w' := w) dL_law_859 ml_L_95 mv_X12_walk (fun v9 M9 e9 => c_X12_walk e9) rfl (by decide) rfl rfl (by show _ ≤ 600000; omega) (by show _ ≤ 7302249; omega) (by simp [rf_cat, cat_i, cat_l, cat_r]) rfl h (fun v859 M859 h => ?_)
  refine wt_icmp_eq (pc := 862) (tgt := 1702) dL_law_862 (by decide) (fun q => ?_) (fun q => ?_)
  · have h := ite_t q h
    refine wt_room (u' := u + 2) (w' := w + 8) (by omega) (by omega) ?_
    exact t_L_law_1702 hX he hub hwb hk18 h
  · have h := ite_f q h
    refine wt_iconst (pc := 865) (v := 0) dL_law_865 (by decide) ?_
    cases h
    exact he 866 _ _ _ dL_law_866 (by show _ ≤ 600000; omega) (by show _ ≤ 7302249; omega)
set_option maxHeartbeats 4000000 in
set_option maxRecDepth 100000 in
theorem t_L_law_867 {G : GG} {X : CX} {L b : Nat} {xs : Nat → Int32} (hX : hXs G X b L xs) {ans : Int32 × Mm} (he : EndI G X j_L_law b_L_law ans) {k18 : Mm → Option Nat → Option Nat → Int32 → Option (Int32 × Mm)} {u w : Nat} (hub : u + 2 ≤ 600000) (hwb : w + 8 ≤ 7302249) (hk18 : ∀ (M : Mm) (l1 : Option Nat) (l2 : Option Nat) (l3 : Int32), k18 M l1 l2 l3 = some ans → Wt G X j_L_law b_L_law 18 [(0, .ref b), (1, rf G.1 l1), (2, rf G.1 l2), (3, .int l3)] [] M (u + 2) (w + 8)) {M : Mm} {l1 : Option Nat} {l2 : Option Nat} {l3 : Int32} (h : f_L_law_867 L xs k18 M l1 l2 l3 = some ans) : Wt G X j_L_law b_L_law 867 [(0, .ref b), (1, rf G.1 l1), (2, rf G.1 l2), (3, .int l3)] [] M (u) (w) := by
  unfold f_L_law_867 at h
  refine wt_aload_n (pc := 867) 1 dL_law_867 rfl ?_
  refine wt_xload_n (pc := 868) 0 dL_law_868 rfl ?_
  refine wt_iload_n (pc := 869) 3 dL_law_869 rfl ?_
  refine wt_iconst (pc := 870) (v := 1) dL_law_870 (by decide) ?_
  refine wt_iadd (pc := 871) dL_law_871 ?_
  refine wt_slI (pc := 872) hX dL_law_872 h (fun v872 h => ?_)
  refine wt_cVI (pc := 873) (J' := j_X11_next) (As := [.int v872]) (st := []) (B' := b_X11_next) (u' := u) (w' := w) dL_law_873 ml_L_96 mv_X11_next (fun v9 M9 e9 => c_X11_next e9) rfl (by decide) rfl rfl (by show _ ≤ 600000; omega) (by show _ ≤ 7302249; omega) (by decide) rfl h (fun v873 M873 h => ?_)
  refine wt_aload_n (pc := 876) 2 dL_law_876 rfl ?_
  refine wt_xload_n (pc := 877) 0 dL_law_877 rfl ?_
  refine wt_iload_n (pc := 878) 3 dL_law_878 rfl ?_
  refine wt_iconst (pc := 879) (v := 1) dL_law_879 (by decide) ?_
  refine wt_iadd (pc := 880) dL_law_880 ?_
  refine wt_slI (pc := 881) hX dL_law_881 h (fun v881 h => ?_)
  refine wt_cVI (pc := 882) (J' := j_X12_next_) (As := [.int v881]) (st := [.int v873]) (B' := b_X12_next_) (u' := u) (w' := w) dL_law_882 ml_L_99 mv_X12_next_ (fun v9 M9 e9 => c_X12_next_ e9) rfl (by decide) rfl rfl (by show _ ≤ 600000; omega) (by show _ ≤ 7302249; omega) (by simp [rf_cat, cat_i, cat_l, cat_r]) rfl h (fun v882 M882 h => ?_)
  refine wt_icmp_eq (pc := 885) (tgt := 1702) dL_law_885 (by decide) (fun q => ?_) (fun q => ?_)
  · have h := ite_t q h
    refine wt_room (u' := u + 2) (w' := w + 8) (by omega) (by omega) ?_
    exact t_L_law_1702 hX he hub hwb hk18 h
  · have h := ite_f q h
    refine wt_iconst (pc := 888) (v := 0) dL_law_888 (by decide) ?_
    cases h
    exact he 889 _ _ _ dL_law_889 (by show _ ≤ 600000; omega) (by show _ ≤ 7302249; omega)
set_option maxHeartbeats 4000000 in
set_option maxRecDepth 100000 in
theorem t_L_law_890 {G : GG} {X : CX} {L b : Nat} {xs : Nat → Int32} (hX : hXs G X b L xs) {ans : Int32 × Mm} (he : EndI G X j_L_law b_L_law ans) {k18 : Mm → Option Nat → Option Nat → Int32 → Option (Int32 × Mm)} {u w : Nat} (hub : u + 2 ≤ 600000) (hwb : w + 8 ≤ 7302249) (hk18 : ∀ (M : Mm) (l1 : Option Nat) (l2 : Option Nat) (l3 : Int32), k18 M l1 l2 l3 = some ans → Wt G X j_L_law b_L_law 18 [(0, .ref b), (1, rf G.1 l1), (2, rf G.1 l2), (3, .int l3)] [] M (u + 2) (w + 8)) {M : Mm} {l1 : Option Nat} {l2 : Option Nat} {l3 : Int32} (h : f_L_law_890 L xs k18 M l1 l2 l3 = some ans) : Wt G X j_L_law b_L_law 890 [(0, .ref b), (1, rf G.1 l1), (2, rf G.1 l2), (3, .int l3)] [] M (u) (w) := by
  unfold f_L_law_890 at h
  refine wt_aload_n (pc := 890) 1 dL_law_890 rfl ?_
  refine wt_xload_n (pc := 891) 0 dL_law_891 rfl ?_
  refine wt_iload_n (pc := 892) 3 dL_law_892 rfl ?_
  refine wt_iconst (pc := 893) (v := 1) dL_law_893 (by decide) ?_
  refine wt_iadd (pc := 894) dL_law_894 ?_
  refine wt_slI (pc := 895) hX dL_law_895 h (fun v895 h => ?_)
  refine wt_xload_n (pc := 896) 0 dL_law_896 rfl ?_
  refine wt_iload_n (pc := 897) 3 dL_law_897 rfl ?_
  refine wt_iconst (pc := 898) (v := 2) dL_law_898 (by decide) ?_
  refine wt_iadd (pc := 899) dL_law_899 ?_
  refine wt_slI (pc := 900) hX dL_law_900 h (fun v900 h => ?_)
  refine wt_cVI (pc := 901) (J' := j_X11_lift) (As := [.int v895, .int v900]) (st := []) (B' := b_X11_lift) (u' := u) (w' := w) dL_law_901 ml_L_100 mv_X11_lift (fun v9 M9 e9 => c_X11_lift e9) rfl (by decide) rfl rfl (by show _ ≤ 600000; omega) (by show _ ≤ 7302249; omega) (by decide) rfl h (fun v901 M901 h => ?_)
  refine wt_aload_n (pc := 904) 2 dL_law_904 rfl ?_
  refine wt_xload_n (pc := 905) 0 dL_law_905 rfl ?_
  refine wt_iload_n (pc := 906) 3 dL_law_906 rfl ?_
  refine wt_iconst (pc := 907) (v := 1) dL_law_907 (by decide) ?_
  refine wt_iadd (pc := 908) dL_law_908 ?_
  refine wt_slI (pc := 909) hX dL_law_909 h (fun v909 h => ?_)
  refine wt_xload_n (pc := 910) 0 dL_law_910 rfl ?_
  refine wt_iload_n (pc := 911) 3 dL_law_911 rfl ?_
  refine wt_iconst (pc := 912) (v := 2) dL_law_912 (by decide) ?_
  refine wt_iadd (pc := 913) dL_law_913 ?_
  refine wt_slI (pc := 914) hX dL_law_914 h (fun v914 h => ?_)
  refine wt_cVI (pc := 915) (J' := j_X12_lift) (As := [.int v909, .int v914]) (st := [.int v901]) (B' := b_X12_lift) (u' := u) (w' := w) dL_law_915 ml_L_103 mv_X12_lift (fun v9 M9 e9 => c_X12_lift e9) rfl (by decide) rfl rfl (by show _ ≤ 600000; omega) (by show _ ≤ 7302249; omega) (by simp [rf_cat, cat_i, cat_l, cat_r]) rfl h (fun v915 M915 h => ?_)
  refine wt_icmp_eq (pc := 918) (tgt := 1702) dL_law_918 (by decide) (fun q => ?_) (fun q => ?_)
  · have h := ite_t q h
    refine wt_room (u' := u + 2) (w' := w + 8) (by omega) (by omega) ?_
    exact t_L_law_1702 hX he hub hwb hk18 h
  · have h := ite_f q h
    refine wt_iconst (pc := 921) (v := 0) dL_law_921 (by decide) ?_
    cases h
    exact he 922 _ _ _ dL_law_922 (by show _ ≤ 600000; omega) (by show _ ≤ 7302249; omega)
set_option maxHeartbeats 4000000 in
set_option maxRecDepth 100000 in
theorem t_L_law_923 {G : GG} {X : CX} {L b : Nat} {xs : Nat → Int32} (hX : hXs G X b L xs) {ans : Int32 × Mm} (he : EndI G X j_L_law b_L_law ans) {k18 : Mm → Option Nat → Option Nat → Int32 → Option (Int32 × Mm)} {u w : Nat} (hub : u + 2 ≤ 600000) (hwb : w + 8 ≤ 7302249) (hk18 : ∀ (M : Mm) (l1 : Option Nat) (l2 : Option Nat) (l3 : Int32), k18 M l1 l2 l3 = some ans → Wt G X j_L_law b_L_law 18 [(0, .ref b), (1, rf G.1 l1), (2, rf G.1 l2), (3, .int l3)] [] M (u + 2) (w + 8)) {M : Mm} {l1 : Option Nat} {l2 : Option Nat} {l3 : Int32} (h : f_L_law_923 L xs k18 M l1 l2 l3 = some ans) : Wt G X j_L_law b_L_law 923 [(0, .ref b), (1, rf G.1 l1), (2, rf G.1 l2), (3, .int l3)] [] M (u) (w) := by
  unfold f_L_law_923 at h
  refine wt_aload_n (pc := 923) 1 dL_law_923 rfl ?_
  refine wt_xload_n (pc := 924) 0 dL_law_924 rfl ?_
  refine wt_iload_n (pc := 925) 3 dL_law_925 rfl ?_
  refine wt_iconst (pc := 926) (v := 1) dL_law_926 (by decide) ?_
  refine wt_iadd (pc := 927) dL_law_927 ?_
  refine wt_slI (pc := 928) hX dL_law_928 h (fun v928 h => ?_)
  refine wt_cVI (pc := 929) (J' := j_X11_rest) (As := [.int v928]) (st := []) (B' := b_X11_rest) (u' := u) (w' := w) dL_law_929 ml_L_104 mv_X11_rest (fun v9 M9 e9 => c_X11_rest e9) rfl (by decide) rfl rfl (by show _ ≤ 600000; omega) (by show _ ≤ 7302249; omega) (by decide) rfl h (fun v929 M929 h => ?_)
  refine wt_aload_n (pc := 932) 2 dL_law_932 rfl ?_
  refine wt_xload_n (pc := 933) 0 dL_law_933 rfl ?_
  refine wt_iload_n (pc := 934) 3 dL_law_934 rfl ?_
  refine wt_iconst (pc := 935) (v := 1) dL_law_935 (by decide) ?_
  refine wt_iadd (pc := 936) dL_law_936 ?_
  refine wt_slI (pc := 937) hX dL_law_937 h (fun v937 h => ?_)
  refine wt_cVI (pc := 938) (J' := j_X12_rest) (As := [.int v937]) (st := [.int v929]) (B' := b_X12_rest) (u' := u) (w' := w) dL_law_938 ml_L_108 mv_X12_rest (fun v9 M9 e9 => c_X12_rest e9) rfl (by decide) rfl rfl (by show _ ≤ 600000; omega) (by show _ ≤ 7302249; omega) (by simp [rf_cat, cat_i, cat_l, cat_r]) rfl h (fun v938 M938 h => ?_)
  refine wt_icmp_eq (pc := 941) (tgt := 1702) dL_law_941 (by decide) (fun q => ?_) (fun q => ?_)
  · have h := ite_t q h
    refine wt_room (u' := u + 2) (w' := w + 8) (by omega) (by omega) ?_
    exact t_L_law_1702 hX he hub hwb hk18 h
  · have h := ite_f q h
    refine wt_iconst (pc := 944) (v := 0) dL_law_944 (by decide) ?_
    cases h
    exact he 945 _ _ _ dL_law_945 (by show _ ≤ 600000; omega) (by show _ ≤ 7302249; omega)
set_option maxHeartbeats 4000000 in
set_option maxRecDepth 100000 in
theorem t_L_law_946 {G : GG} {X : CX} {L b : Nat} {xs : Nat → Int32} (hX : hXs G X b L xs) {ans : Int32 × Mm} (he : EndI G X j_L_law b_L_law ans) {k18 : Mm → Option Nat → Option Nat → Int32 → Option (Int32 × Mm)} {u w : Nat} (hub : u + 2 ≤ 600000) (hwb : w + 8 ≤ 7302249) (hk18 : ∀ (M : Mm) (l1 : Option Nat) (l2 : Option Nat) (l3 : Int32), k18 M l1 l2 l3 = some ans → Wt G X j_L_law b_L_law 18 [(0, .ref b), (1, rf G.1 l1), (2, rf G.1 l2), (3, .int l3)] [] M (u + 2) (w + 8)) {M : Mm} {l1 : Option Nat} {l2 : Option Nat} {l3 : Int32} (h : f_L_law_946 L xs k18 M l1 l2 l3 = some ans) : Wt G X j_L_law b_L_law 946 [(0, .ref b), (1, rf G.1 l1), (2, rf G.1 l2), (3, .int l3)] [] M (u) (w) := by
  unfold f_L_law_946 at h
  refine wt_aload_n (pc := 946) 1 dL_law_946 rfl ?_
  refine wt_xload_n (pc := 947) 0 dL_law_947 rfl ?_
  refine wt_iload_n (pc := 948) 3 dL_law_948 rfl ?_
  refine wt_iconst (pc := 949) (v := 1) dL_law_949 (by decide) ?_
  refine wt_iadd (pc := 950) dL_law_950 ?_
  refine wt_slI (pc := 951) hX dL_law_951 h (fun v951 h => ?_)
  refine wt_cVI (pc := 952) (J' := j_X11_hour) (As := [.int v951]) (st := []) (B' := b_X11_hour) (u' := u) (w' := w) dL_law_952 ml_L_109 mv_X11_hour (fun v9 M9 e9 => c_X11_hour e9) rfl (by decide) rfl rfl (by show _ ≤ 600000; omega) (by show _ ≤ 7302249; omega) (by decide) rfl h (fun v952 M952 h => ?_)
  refine wt_aload_n (pc := 955) 2 dL_law_955 rfl ?_
  refine wt_xload_n (pc := 956) 0 dL_law_956 rfl ?_
  refine wt_iload_n (pc := 957) 3 dL_law_957 rfl ?_
  refine wt_iconst (pc := 958) (v := 1) dL_law_958 (by decide) ?_
  refine wt_iadd (pc := 959) dL_law_959 ?_
  refine wt_slI (pc := 960) hX dL_law_960 h (fun v960 h => ?_)
  refine wt_cVI (pc := 961) (J' := j_X12_hour) (As := [.int v960]) (st := [.int v952]) (B' := b_X12_hour) (u' := u) (w' := w) dL_law_961 ml_L_112 mv_X12_hour (fun v9 M9 e9 => c_X12_hour e9) rfl (by decide) rfl rfl (by show _ ≤ 600000; omega) (by show _ ≤ 7302249; omega) (by simp [rf_cat, cat_i, cat_l, cat_r]) rfl h (fun v961 M961 h => ?_)
  refine wt_icmp_eq (pc := 964) (tgt := 1702) dL_law_964 (by decide) (fun q => ?_) (fun q => ?_)
  · have h := ite_t q h
    refine wt_room (u' := u + 2) (w' := w + 8) (by omega) (by omega) ?_
    exact t_L_law_1702 hX he hub hwb hk18 h
  · have h := ite_f q h
    refine wt_iconst (pc := 967) (v := 0) dL_law_967 (by decide) ?_
    cases h
    exact he 968 _ _ _ dL_law_968 (by show _ ≤ 600000; omega) (by show _ ≤ 7302249; omega)
set_option maxHeartbeats 4000000 in
set_option maxRecDepth 100000 in
theorem t_L_law_969 {G : GG} {X : CX} {L b : Nat} {xs : Nat → Int32} (hX : hXs G X b L xs) {ans : Int32 × Mm} (he : EndI G X j_L_law b_L_law ans) {k18 : Mm → Option Nat → Option Nat → Int32 → Option (Int32 × Mm)} {u w : Nat} (hub : u + 2 ≤ 600000) (hwb : w + 8 ≤ 7302249) (hk18 : ∀ (M : Mm) (l1 : Option Nat) (l2 : Option Nat) (l3 : Int32), k18 M l1 l2 l3 = some ans → Wt G X j_L_law b_L_law 18 [(0, .ref b), (1, rf G.1 l1), (2, rf G.1 l2), (3, .int l3)] [] M (u + 2) (w + 8)) {M : Mm} {l1 : Option Nat} {l2 : Option Nat} {l3 : Int32} (h : f_L_law_969 L xs k18 M l1 l2 l3 = some ans) : Wt G X j_L_law b_L_law 969 [(0, .ref b), (1, rf G.1 l1), (2, rf G.1 l2), (3, .int l3)] [] M (u) (w) := by
  unfold f_L_law_969 at h
  refine wt_aload_n (pc := 969) 1 dL_law_969 rfl ?_
  refine wt_xload_n (pc := 970) 0 dL_law_970 rfl ?_
  refine wt_iload_n (pc := 971) 3 dL_law_971 rfl ?_
  refine wt_iconst (pc := 972) (v := 1) dL_law_972 (by decide) ?_
  refine wt_iadd (pc := 973) dL_law_973 ?_
  refine wt_slI (pc := 974) hX dL_law_974 h (fun v974 h => ?_)
  refine wt_cVI (pc := 975) (J' := j_X11_gale) (As := [.int v974]) (st := []) (B' := b_X11_gale) (u' := u) (w' := w) dL_law_975 ml_L_113 mv_X11_gale (fun v9 M9 e9 => c_X11_gale e9) rfl (by decide) rfl rfl (by show _ ≤ 600000; omega) (by show _ ≤ 7302249; omega) (by decide) rfl h (fun v975 M975 h => ?_)
  refine wt_aload_n (pc := 978) 2 dL_law_978 rfl ?_
  refine wt_xload_n (pc := 979) 0 dL_law_979 rfl ?_
  refine wt_iload_n (pc := 980) 3 dL_law_980 rfl ?_
  refine wt_iconst (pc := 981) (v := 1) dL_law_981 (by decide) ?_
  refine wt_iadd (pc := 982) dL_law_982 ?_
  refine wt_slI (pc := 983) hX dL_law_983 h (fun v983 h => ?_)
  refine wt_cVI (pc := 984) (J' := j_X12_gale) (As := [.int v983]) (st := [.int v975]) (B' := b_X12_gale) (u' := u) (w' := w) dL_law_984 ml_L_116 mv_X12_gale (fun v9 M9 e9 => c_X12_gale e9) rfl (by decide) rfl rfl (by show _ ≤ 600000; omega) (by show _ ≤ 7302249; omega) (by simp [rf_cat, cat_i, cat_l, cat_r]) rfl h (fun v984 M984 h => ?_)
  refine wt_icmp_eq (pc := 987) (tgt := 1702) dL_law_987 (by decide) (fun q => ?_) (fun q => ?_)
  · have h := ite_t q h
    refine wt_room (u' := u + 2) (w' := w + 8) (by omega) (by omega) ?_
    exact t_L_law_1702 hX he hub hwb hk18 h
  · have h := ite_f q h
    refine wt_iconst (pc := 990) (v := 0) dL_law_990 (by decide) ?_
    cases h
    exact he 991 _ _ _ dL_law_991 (by show _ ≤ 600000; omega) (by show _ ≤ 7302249; omega)
set_option maxHeartbeats 4000000 in
set_option maxRecDepth 100000 in
theorem t_L_law_992 {G : GG} {X : CX} {L b : Nat} {xs : Nat → Int32} (hX : hXs G X b L xs) {ans : Int32 × Mm} (he : EndI G X j_L_law b_L_law ans) {k18 : Mm → Option Nat → Option Nat → Int32 → Option (Int32 × Mm)} {u w : Nat} (hub : u + 2 ≤ 600000) (hwb : w + 8 ≤ 7302249) (hk18 : ∀ (M : Mm) (l1 : Option Nat) (l2 : Option Nat) (l3 : Int32), k18 M l1 l2 l3 = some ans → Wt G X j_L_law b_L_law 18 [(0, .ref b), (1, rf G.1 l1), (2, rf G.1 l2), (3, .int l3)] [] M (u + 2) (w + 8)) {M : Mm} {l1 : Option Nat} {l2 : Option Nat} {l3 : Int32} (h : f_L_law_992 L xs k18 M l1 l2 l3 = some ans) : Wt G X j_L_law b_L_law 992 [(0, .ref b), (1, rf G.1 l1), (2, rf G.1 l2), (3, .int l3)] [] M (u) (w) := by
  unfold f_L_law_992 at h
  refine wt_aload_n (pc := 992) 1 dL_law_992 rfl ?_
  refine wt_cVI (pc := 993) (J' := j_X11_dawn) (As := []) (st := []) (B' := b_X11_dawn) (u' := u) (w' := w) dL_law_993 ml_L_117 mv_X11_dawn (fun v9 M9 e9 => c_X11_dawn e9) rfl (by decide) rfl rfl (by show _ ≤ 600000; omega) (by show _ ≤ 7302249; omega) (by decide) rfl h (fun v993 M993 h => ?_)
  refine wt_aload_n (pc := 996) 2 dL_law_996 rfl ?_
  refine wt_cVI (pc := 997) (J' := j_X12_dawn) (As := []) (st := [.int v993]) (B' := b_X12_dawn) (u' := u) (w' := w) dL_law_997 ml_L_120 mv_X12_dawn (fun v9 M9 e9 => c_X12_dawn e9) rfl (by decide) rfl rfl (by show _ ≤ 600000; omega) (by show _ ≤ 7302249; omega) (by simp [rf_cat, cat_i, cat_l, cat_r]) rfl h (fun v997 M997 h => ?_)
  refine wt_icmp_eq (pc := 1000) (tgt := 1702) dL_law_1000 (by decide) (fun q => ?_) (fun q => ?_)
  · have h := ite_t q h
    refine wt_room (u' := u + 2) (w' := w + 8) (by omega) (by omega) ?_
    exact t_L_law_1702 hX he hub hwb hk18 h
  · have h := ite_f q h
    refine wt_iconst (pc := 1003) (v := 0) dL_law_1003 (by decide) ?_
    cases h
    exact he 1004 _ _ _ dL_law_1004 (by show _ ≤ 600000; omega) (by show _ ≤ 7302249; omega)
set_option maxHeartbeats 4000000 in
set_option maxRecDepth 100000 in
theorem t_L_law_1005 {G : GG} {X : CX} {L b : Nat} {xs : Nat → Int32} (hX : hXs G X b L xs) {ans : Int32 × Mm} (he : EndI G X j_L_law b_L_law ans) {k18 : Mm → Option Nat → Option Nat → Int32 → Option (Int32 × Mm)} {u w : Nat} (hub : u + 2 ≤ 600000) (hwb : w + 8 ≤ 7302249) (hk18 : ∀ (M : Mm) (l1 : Option Nat) (l2 : Option Nat) (l3 : Int32), k18 M l1 l2 l3 = some ans → Wt G X j_L_law b_L_law 18 [(0, .ref b), (1, rf G.1 l1), (2, rf G.1 l2), (3, .int l3)] [] M (u + 2) (w + 8)) {M : Mm} {l1 : Option Nat} {l2 : Option Nat} {l3 : Int32} (h : f_L_law_1005 L xs k18 M l1 l2 l3 = some ans) : Wt G X j_L_law b_L_law 1005 [(0, .ref b), (1, rf G.1 l1), (2, rf G.1 l2), (3, .int l3)] [] M (u) (w) := by
  unfold f_L_law_1005 at h
  refine wt_aload_n (pc := 1005) 1 dL_law_1005 rfl ?_
  refine wt_xload_n (pc := 1006) 0 dL_law_1006 rfl ?_
  refine wt_iload_n (pc := 1007) 3 dL_law_1007 rfl ?_
  refine wt_iconst (pc := 1008) (v := 1) dL_law_1008 (by decide) ?_
  refine wt_iadd (pc := 1009) dL_law_1009 ?_
  refine wt_slI (pc := 1010) hX dL_law_1010 h (fun v1010 h => ?_)
  refine wt_xload_n (pc := 1011) 0 dL_law_1011 rfl ?_
  refine wt_iload_n (pc := 1012) 3 dL_law_1012 rfl ?_
  refine wt_iconst (pc := 1013) (v := 2) dL_law_1013 (by decide) ?_
  refine wt_iadd (pc := 1014) dL_law_1014 ?_
  refine wt_slI (pc := 1015) hX dL_law_1015 h (fun v1015 h => ?_)
  refine wt_xload_n (pc := 1016) 0 dL_law_1016 rfl ?_
  refine wt_iload_n (pc := 1017) 3 dL_law_1017 rfl ?_
  refine wt_iconst (pc := 1018) (v := 3) dL_law_1018 (by decide) ?_
  refine wt_iadd (pc := 1019) dL_law_1019 ?_
  refine wt_slI (pc := 1020) hX dL_law_1020 h (fun v1020 h => ?_)
  refine wt_cVI (pc := 1021) (J' := j_X11_help) (As := [.int v1010, .int v1015, .int v1020]) (st := []) (B' := b_X11_help) (u' := u) (w' := w) dL_law_1021 ml_L_121 mv_X11_help (fun v9 M9 e9 => c_X11_help e9) rfl (by decide) rfl rfl (by show _ ≤ 600000; omega) (by show _ ≤ 7302249; omega) (by decide) rfl h (fun v1021 M1021 h => ?_)
  refine wt_aload_n (pc := 1024) 2 dL_law_1024 rfl ?_
  refine wt_xload_n (pc := 1025) 0 dL_law_1025 rfl ?_
  refine wt_iload_n (pc := 1026) 3 dL_law_1026 rfl ?_
  refine wt_iconst (pc := 1027) (v := 1) dL_law_1027 (by decide) ?_
  refine wt_iadd (pc := 1028) dL_law_1028 ?_
  refine wt_slI (pc := 1029) hX dL_law_1029 h (fun v1029 h => ?_)
  refine wt_xload_n (pc := 1030) 0 dL_law_1030 rfl ?_
  refine wt_iload_n (pc := 1031) 3 dL_law_1031 rfl ?_
  refine wt_iconst (pc := 1032) (v := 2) dL_law_1032 (by decide) ?_
  refine wt_iadd (pc := 1033) dL_law_1033 ?_
  refine wt_slI (pc := 1034) hX dL_law_1034 h (fun v1034 h => ?_)
  refine wt_xload_n (pc := 1035) 0 dL_law_1035 rfl ?_
  refine wt_iload_n (pc := 1036) 3 dL_law_1036 rfl ?_
  refine wt_iconst (pc := 1037) (v := 3) dL_law_1037 (by decide) ?_
  refine wt_iadd (pc := 1038) dL_law_1038 ?_
  refine wt_slI (pc := 1039) hX dL_law_1039 h (fun v1039 h => ?_)
  refine wt_cVI (pc := 1040) (J' := j_X12_help) (As := [.int v1029, .int v1034, .int v1039]) (st := [.int v1021]) (B' := b_X12_help) (u' := u) (w' := w) dL_law_1040 ml_L_125 mv_X12_help (fun v9 M9 e9 => c_X12_help e9) rfl (by decide) rfl rfl (by show _ ≤ 600000; omega) (by show _ ≤ 7302249; omega) (by simp [rf_cat, cat_i, cat_l, cat_r]) rfl h (fun v1040 M1040 h => ?_)
  refine wt_icmp_eq (pc := 1043) (tgt := 1702) dL_law_1043 (by decide) (fun q => ?_) (fun q => ?_)
  · have h := ite_t q h
    refine wt_room (u' := u + 2) (w' := w + 8) (by omega) (by omega) ?_
    exact t_L_law_1702 hX he hub hwb hk18 h
  · have h := ite_f q h
    refine wt_iconst (pc := 1046) (v := 0) dL_law_1046 (by decide) ?_
    cases h
    exact he 1047 _ _ _ dL_law_1047 (by show _ ≤ 600000; omega) (by show _ ≤ 7302249; omega)
set_option maxHeartbeats 4000000 in
set_option maxRecDepth 100000 in
theorem t_L_law_1048 {G : GG} {X : CX} {L b : Nat} {xs : Nat → Int32} (hX : hXs G X b L xs) {ans : Int32 × Mm} (he : EndI G X j_L_law b_L_law ans) {k18 : Mm → Option Nat → Option Nat → Int32 → Option (Int32 × Mm)} {u w : Nat} (hub : u + 2 ≤ 600000) (hwb : w + 8 ≤ 7302249) (hk18 : ∀ (M : Mm) (l1 : Option Nat) (l2 : Option Nat) (l3 : Int32), k18 M l1 l2 l3 = some ans → Wt G X j_L_law b_L_law 18 [(0, .ref b), (1, rf G.1 l1), (2, rf G.1 l2), (3, .int l3)] [] M (u + 2) (w + 8)) {M : Mm} {l1 : Option Nat} {l2 : Option Nat} {l3 : Int32} (h : f_L_law_1048 L xs k18 M l1 l2 l3 = some ans) : Wt G X j_L_law b_L_law 1048 [(0, .ref b), (1, rf G.1 l1), (2, rf G.1 l2), (3, .int l3)] [] M (u) (w) := by
  unfold f_L_law_1048 at h
  refine wt_aload_n (pc := 1048) 1 dL_law_1048 rfl ?_
  refine wt_xload_n (pc := 1049) 0 dL_law_1049 rfl ?_
  refine wt_iload_n (pc := 1050) 3 dL_law_1050 rfl ?_
  refine wt_iconst (pc := 1051) (v := 1) dL_law_1051 (by decide) ?_
  refine wt_iadd (pc := 1052) dL_law_1052 ?_
  refine wt_slI (pc := 1053) hX dL_law_1053 h (fun v1053 h => ?_)
  refine wt_cVI (pc := 1054) (J' := j_X11_falls) (As := [.int v1053]) (st := []) (B' := b_X11_falls) (u' := u) (w' := w) dL_law_1054 ml_L_126 mv_X11_falls (fun v9 M9 e9 => c_X11_falls e9) rfl (by decide) rfl rfl (by show _ ≤ 600000; omega) (by show _ ≤ 7302249; omega) (by decide) rfl h (fun v1054 M1054 h => ?_)
  refine wt_aload_n (pc := 1057) 2 dL_law_1057 rfl ?_
  refine wt_xload_n (pc := 1058) 0 dL_law_1058 rfl ?_
  refine wt_iload_n (pc := 1059) 3 dL_law_1059 rfl ?_
  refine wt_iconst (pc := 1060) (v := 1) dL_law_1060 (by decide) ?_
  refine wt_iadd (pc := 1061) dL_law_1061 ?_
  refine wt_slI (pc := 1062) hX dL_law_1062 h (fun v1062 h => ?_)
  refine wt_cVI (pc := 1063) (J' := j_X12_falls) (As := [.int v1062]) (st := [.int v1054]) (B' := b_X12_falls) (u' := u) (w' := w) dL_law_1063 ml_L_129 mv_X12_falls (fun v9 M9 e9 => c_X12_falls e9) rfl (by decide) rfl rfl (by show _ ≤ 600000; omega) (by show _ ≤ 7302249; omega) (by simp [rf_cat, cat_i, cat_l, cat_r]) rfl h (fun v1063 M1063 h => ?_)
  refine wt_icmp_eq (pc := 1066) (tgt := 1702) dL_law_1066 (by decide) (fun q => ?_) (fun q => ?_)
  · have h := ite_t q h
    refine wt_room (u' := u + 2) (w' := w + 8) (by omega) (by omega) ?_
    exact t_L_law_1702 hX he hub hwb hk18 h
  · have h := ite_f q h
    refine wt_iconst (pc := 1069) (v := 0) dL_law_1069 (by decide) ?_
    cases h
    exact he 1070 _ _ _ dL_law_1070 (by show _ ≤ 600000; omega) (by show _ ≤ 7302249; omega)
set_option maxHeartbeats 4000000 in
set_option maxRecDepth 100000 in
theorem t_L_law_1071 {G : GG} {X : CX} {L b : Nat} {xs : Nat → Int32} (hX : hXs G X b L xs) {ans : Int32 × Mm} (he : EndI G X j_L_law b_L_law ans) {k18 : Mm → Option Nat → Option Nat → Int32 → Option (Int32 × Mm)} {u w : Nat} (hub : u + 2 ≤ 600000) (hwb : w + 8 ≤ 7302249) (hk18 : ∀ (M : Mm) (l1 : Option Nat) (l2 : Option Nat) (l3 : Int32), k18 M l1 l2 l3 = some ans → Wt G X j_L_law b_L_law 18 [(0, .ref b), (1, rf G.1 l1), (2, rf G.1 l2), (3, .int l3)] [] M (u + 2) (w + 8)) {M : Mm} {l1 : Option Nat} {l2 : Option Nat} {l3 : Int32} (h : f_L_law_1071 L xs k18 M l1 l2 l3 = some ans) : Wt G X j_L_law b_L_law 1071 [(0, .ref b), (1, rf G.1 l1), (2, rf G.1 l2), (3, .int l3)] [] M (u) (w) := by
  unfold f_L_law_1071 at h
  refine wt_aload_n (pc := 1071) 1 dL_law_1071 rfl ?_
  refine wt_xload_n (pc := 1072) 0 dL_law_1072 rfl ?_
  refine wt_iload_n (pc := 1073) 3 dL_law_1073 rfl ?_
  refine wt_iconst (pc := 1074) (v := 1) dL_law_1074 (by decide) ?_
  refine wt_iadd (pc := 1075) dL_law_1075 ?_
  refine wt_slI (pc := 1076) hX dL_law_1076 h (fun v1076 h => ?_)
  refine wt_cVI (pc := 1077) (J' := j_X11_risk) (As := [.int v1076]) (st := []) (B' := b_X11_risk) (u' := u) (w' := w) dL_law_1077 ml_L_130 mv_X11_risk (fun v9 M9 e9 => c_X11_risk e9) rfl (by decide) rfl rfl (by show _ ≤ 600000; omega) (by show _ ≤ 7302249; omega) (by decide) rfl h (fun v1077 M1077 h => ?_)
  refine wt_aload_n (pc := 1080) 2 dL_law_1080 rfl ?_
  refine wt_xload_n (pc := 1081) 0 dL_law_1081 rfl ?_
  refine wt_iload_n (pc := 1082) 3 dL_law_1082 rfl ?_
  refine wt_iconst (pc := 1083) (v := 1) dL_law_1083 (by decide) ?_
  refine wt_iadd (pc := 1084) dL_law_1084 ?_
  refine wt_slI (pc := 1085) hX dL_law_1085 h (fun v1085 h => ?_)
  refine wt_cVI (pc := 1086) (J' := j_X12_risk) (As := [.int v1085]) (st := [.int v1077]) (B' := b_X12_risk) (u' := u) (w' := w) dL_law_1086 ml_L_133 mv_X12_risk (fun v9 M9 e9 => c_X12_risk e9) rfl (by decide) rfl rfl (by show _ ≤ 600000; omega) (by show _ ≤ 7302249; omega) (by simp [rf_cat, cat_i, cat_l, cat_r]) rfl h (fun v1086 M1086 h => ?_)
  refine wt_icmp_eq (pc := 1089) (tgt := 1702) dL_law_1089 (by decide) (fun q => ?_) (fun q => ?_)
  · have h := ite_t q h
    refine wt_room (u' := u + 2) (w' := w + 8) (by omega) (by omega) ?_
    exact t_L_law_1702 hX he hub hwb hk18 h
  · have h := ite_f q h
    refine wt_iconst (pc := 1092) (v := 0) dL_law_1092 (by decide) ?_
    cases h
    exact he 1093 _ _ _ dL_law_1093 (by show _ ≤ 600000; omega) (by show _ ≤ 7302249; omega)
set_option maxHeartbeats 4000000 in
set_option maxRecDepth 100000 in
theorem t_L_law_1094 {G : GG} {X : CX} {L b : Nat} {xs : Nat → Int32} (hX : hXs G X b L xs) {ans : Int32 × Mm} (he : EndI G X j_L_law b_L_law ans) {k18 : Mm → Option Nat → Option Nat → Int32 → Option (Int32 × Mm)} {u w : Nat} (hub : u + 2 ≤ 600000) (hwb : w + 8 ≤ 7302249) (hk18 : ∀ (M : Mm) (l1 : Option Nat) (l2 : Option Nat) (l3 : Int32), k18 M l1 l2 l3 = some ans → Wt G X j_L_law b_L_law 18 [(0, .ref b), (1, rf G.1 l1), (2, rf G.1 l2), (3, .int l3)] [] M (u + 2) (w + 8)) {M : Mm} {l1 : Option Nat} {l2 : Option Nat} {l3 : Int32} (h : f_L_law_1094 L xs k18 M l1 l2 l3 = some ans) : Wt G X j_L_law b_L_law 1094 [(0, .ref b), (1, rf G.1 l1), (2, rf G.1 l2), (3, .int l3)] [] M (u) (w) := by
  unfold f_L_law_1094 at h
  refine wt_aload_n (pc := 1094) 1 dL_law_1094 rfl ?_
  refine wt_cVI (pc := 1095) (J' := j_X11_loss) (As := []) (st := []) (B' := b_X11_loss) (u' := u) (w' := w) dL_law_1095 ml_L_134 mv_X11_loss (fun v9 M9 e9 => c_X11_loss e9) rfl (by decide) rfl rfl (by show _ ≤ 600000; omega) (by show _ ≤ 7302249; omega) (by decide) rfl h (fun v1095 M1095 h => ?_)
  refine wt_aload_n (pc := 1098) 2 dL_law_1098 rfl ?_
  refine wt_cVI (pc := 1099) (J' := j_X12_loss) (As := []) (st := [.int v1095]) (B' := b_X12_loss) (u' := u) (w' := w) dL_law_1099 ml_L_138 mv_X12_loss (fun v9 M9 e9 => c_X12_loss e9) rfl (by decide) rfl rfl (by show _ ≤ 600000; omega) (by show _ ≤ 7302249; omega) (by simp [rf_cat, cat_i, cat_l, cat_r]) rfl h (fun v1099 M1099 h => ?_)
  refine wt_icmp_eq (pc := 1102) (tgt := 1702) dL_law_1102 (by decide) (fun q => ?_) (fun q => ?_)
  · have h := ite_t q h
    refine wt_room (u' := u + 2) (w' := w + 8) (by omega) (by omega) ?_
    exact t_L_law_1702 hX he hub hwb hk18 h
  · have h := ite_f q h
    refine wt_iconst (pc := 1105) (v := 0) dL_law_1105 (by decide) ?_
    cases h
    exact he 1106 _ _ _ dL_law_1106 (by show _ ≤ 600000; omega) (by show _ ≤ 7302249; omega)
set_option maxHeartbeats 4000000 in
set_option maxRecDepth 100000 in
theorem t_L_law_1107 {G : GG} {X : CX} {L b : Nat} {xs : Nat → Int32} (hX : hXs G X b L xs) {ans : Int32 × Mm} (he : EndI G X j_L_law b_L_law ans) {k18 : Mm → Option Nat → Option Nat → Int32 → Option (Int32 × Mm)} {u w : Nat} (hub : u + 2 ≤ 600000) (hwb : w + 8 ≤ 7302249) (hk18 : ∀ (M : Mm) (l1 : Option Nat) (l2 : Option Nat) (l3 : Int32), k18 M l1 l2 l3 = some ans → Wt G X j_L_law b_L_law 18 [(0, .ref b), (1, rf G.1 l1), (2, rf G.1 l2), (3, .int l3)] [] M (u + 2) (w + 8)) {M : Mm} {l1 : Option Nat} {l2 : Option Nat} {l3 : Int32} (h : f_L_law_1107 L xs k18 M l1 l2 l3 = some ans) : Wt G X j_L_law b_L_law 1107 [(0, .ref b), (1, rf G.1 l1), (2, rf G.1 l2), (3, .int l3)] [] M (u) (w) := by
  unfold f_L_law_1107 at h
  refine wt_aload_n (pc := 1107) 1 dL_law_1107 rfl ?_
  refine wt_xload_n (pc := 1108) 0 dL_law_1108 rfl ?_
  refine wt_iload_n (pc := 1109) 3 dL_law_1109 rfl ?_
  refine wt_iconst (pc := 1110) (v := 1) dL_law_1110 (by decide) ?_
  refine wt_iadd (pc := 1111) dL_law_1111 ?_
  refine wt_slI (pc := 1112) hX dL_law_1112 h (fun v1112 h => ?_)
  refine wt_xload_n (pc := 1113) 0 dL_law_1113 rfl ?_
  refine wt_iload_n (pc := 1114) 3 dL_law_1114 rfl ?_
  refine wt_iconst (pc := 1115) (v := 2) dL_law_1115 (by decide) ?_
  refine wt_iadd (pc := 1116) dL_law_1116 ?_
  refine wt_slI (pc := 1117) hX dL_law_1117 h (fun v1117 h => ?_)
  refine wt_cVI (pc := 1118) (J' := j_X11_saves) (As := [.int v1112, .int v1117]) (st := []) (B' := b_X11_saves) (u' := u) (w' := w) dL_law_1118 ml_L_139 mv_X11_saves (fun v9 M9 e9 => c_X11_saves e9) rfl (by decide) rfl rfl (by show _ ≤ 600000; omega) (by show _ ≤ 7302249; omega) (by decide) rfl h (fun v1118 M1118 h => ?_)
  refine wt_aload_n (pc := 1121) 2 dL_law_1121 rfl ?_
  refine wt_xload_n (pc := 1122) 0 dL_law_1122 rfl ?_
  refine wt_iload_n (pc := 1123) 3 dL_law_1123 rfl ?_
  refine wt_iconst (pc := 1124) (v := 1) dL_law_1124 (by decide) ?_
  refine wt_iadd (pc := 1125) dL_law_1125 ?_
  refine wt_slI (pc := 1126) hX dL_law_1126 h (fun v1126 h => ?_)
  refine wt_xload_n (pc := 1127) 0 dL_law_1127 rfl ?_
  refine wt_iload_n (pc := 1128) 3 dL_law_1128 rfl ?_
  refine wt_iconst (pc := 1129) (v := 2) dL_law_1129 (by decide) ?_
  refine wt_iadd (pc := 1130) dL_law_1130 ?_
  refine wt_slI (pc := 1131) hX dL_law_1131 h (fun v1131 h => ?_)
  refine wt_cVI (pc := 1132) (J' := j_X12_saves) (As := [.int v1126, .int v1131]) (st := [.int v1118]) (B' := b_X12_saves) (u' := u) (w' := w) dL_law_1132 ml_L_143 mv_X12_saves (fun v9 M9 e9 => c_X12_saves e9) rfl (by decide) rfl rfl (by show _ ≤ 600000; omega) (by show _ ≤ 7302249; omega) (by simp [rf_cat, cat_i, cat_l, cat_r]) rfl h (fun v1132 M1132 h => ?_)
  refine wt_icmp_eq (pc := 1135) (tgt := 1702) dL_law_1135 (by decide) (fun q => ?_) (fun q => ?_)
  · have h := ite_t q h
    refine wt_room (u' := u + 2) (w' := w + 8) (by omega) (by omega) ?_
    exact t_L_law_1702 hX he hub hwb hk18 h
  · have h := ite_f q h
    refine wt_iconst (pc := 1138) (v := 0) dL_law_1138 (by decide) ?_
    cases h
    exact he 1139 _ _ _ dL_law_1139 (by show _ ≤ 600000; omega) (by show _ ≤ 7302249; omega)
set_option maxHeartbeats 4000000 in
set_option maxRecDepth 100000 in
theorem t_L_law_1140 {G : GG} {X : CX} {L b : Nat} {xs : Nat → Int32} (hX : hXs G X b L xs) {ans : Int32 × Mm} (he : EndI G X j_L_law b_L_law ans) {k18 : Mm → Option Nat → Option Nat → Int32 → Option (Int32 × Mm)} {u w : Nat} (hub : u + 2 ≤ 600000) (hwb : w + 8 ≤ 7302249) (hk18 : ∀ (M : Mm) (l1 : Option Nat) (l2 : Option Nat) (l3 : Int32), k18 M l1 l2 l3 = some ans → Wt G X j_L_law b_L_law 18 [(0, .ref b), (1, rf G.1 l1), (2, rf G.1 l2), (3, .int l3)] [] M (u + 2) (w + 8)) {M : Mm} {l1 : Option Nat} {l2 : Option Nat} {l3 : Int32} (h : f_L_law_1140 L xs k18 M l1 l2 l3 = some ans) : Wt G X j_L_law b_L_law 1140 [(0, .ref b), (1, rf G.1 l1), (2, rf G.1 l2), (3, .int l3)] [] M (u) (w) := by
  unfold f_L_law_1140 at h
  refine wt_aload_n (pc := 1140) 1 dL_law_1140 rfl ?_
  refine wt_cVI (pc := 1141) (J' := j_X11_dearest) (As := []) (st := []) (B' := b_X11_dearest) (u' := u) (w' := w) dL_law_1141 ml_L_144 mv_X11_dearest (fun v9 M9 e9 => c_X11_dearest e9) rfl (by decide) rfl rfl (by show _ ≤ 600000; omega) (by show _ ≤ 7302249; omega) (by decide) rfl h (fun v1141 M1141 h => ?_)
  refine wt_aload_n (pc := 1144) 2 dL_law_1144 rfl ?_
  refine wt_cVI (pc := 1145) (J' := j_X12_dearest) (As := []) (st := [.int v1141]) (B' := b_X12_dearest) (u' := u) (w' := w) dL_law_1145 ml_L_147 mv_X12_dearest (fun v9 M9 e9 => c_X12_dearest e9) rfl (by decide) rfl rfl (by show _ ≤ 600000; omega) (by show _ ≤ 7302249; omega) (by simp [rf_cat, cat_i, cat_l, cat_r]) rfl h (fun v1145 M1145 h => ?_)
  refine wt_icmp_eq (pc := 1148) (tgt := 1702) dL_law_1148 (by decide) (fun q => ?_) (fun q => ?_)
  · have h := ite_t q h
    refine wt_room (u' := u + 2) (w' := w + 8) (by omega) (by omega) ?_
    exact t_L_law_1702 hX he hub hwb hk18 h
  · have h := ite_f q h
    refine wt_iconst (pc := 1151) (v := 0) dL_law_1151 (by decide) ?_
    cases h
    exact he 1152 _ _ _ dL_law_1152 (by show _ ≤ 600000; omega) (by show _ ≤ 7302249; omega)
set_option maxHeartbeats 4000000 in
set_option maxRecDepth 100000 in
theorem t_L_law_1153 {G : GG} {X : CX} {L b : Nat} {xs : Nat → Int32} (hX : hXs G X b L xs) {ans : Int32 × Mm} (he : EndI G X j_L_law b_L_law ans) {k18 : Mm → Option Nat → Option Nat → Int32 → Option (Int32 × Mm)} {u w : Nat} (hub : u + 2 ≤ 600000) (hwb : w + 8 ≤ 7302249) (hk18 : ∀ (M : Mm) (l1 : Option Nat) (l2 : Option Nat) (l3 : Int32), k18 M l1 l2 l3 = some ans → Wt G X j_L_law b_L_law 18 [(0, .ref b), (1, rf G.1 l1), (2, rf G.1 l2), (3, .int l3)] [] M (u + 2) (w + 8)) {M : Mm} {l1 : Option Nat} {l2 : Option Nat} {l3 : Int32} (h : f_L_law_1153 L xs k18 M l1 l2 l3 = some ans) : Wt G X j_L_law b_L_law 1153 [(0, .ref b), (1, rf G.1 l1), (2, rf G.1 l2), (3, .int l3)] [] M (u) (w) := by
  unfold f_L_law_1153 at h
  refine wt_aload_n (pc := 1153) 1 dL_law_1153 rfl ?_
  refine wt_cVI (pc := 1154) (J' := j_X11_worstWind) (As := []) (st := []) (B' := b_X11_worstWind) (u' := u) (w' := w) dL_law_1154 ml_L_148 mv_X11_worstWind (fun v9 M9 e9 => c_X11_worstWind e9) rfl (by decide) rfl rfl (by show _ ≤ 600000; omega) (by show _ ≤ 7302249; omega) (by decide) rfl h (fun v1154 M1154 h => ?_)
  refine wt_aload_n (pc := 1157) 2 dL_law_1157 rfl ?_
  refine wt_cVI (pc := 1158) (J' := j_X12_worstWind) (As := []) (st := [.int v1154]) (B' := b_X12_worstWind) (u' := u) (w' := w) dL_law_1158 ml_L_151 mv_X12_worstWind (fun v9 M9 e9 => c_X12_worstWind e9) rfl (by decide) rfl rfl (by show _ ≤ 600000; omega) (by show _ ≤ 7302249; omega) (by simp [rf_cat, cat_i, cat_l, cat_r]) rfl h (fun v1158 M1158 h => ?_)
  refine wt_icmp_eq (pc := 1161) (tgt := 1702) dL_law_1161 (by decide) (fun q => ?_) (fun q => ?_)
  · have h := ite_t q h
    refine wt_room (u' := u + 2) (w' := w + 8) (by omega) (by omega) ?_
    exact t_L_law_1702 hX he hub hwb hk18 h
  · have h := ite_f q h
    refine wt_iconst (pc := 1164) (v := 0) dL_law_1164 (by decide) ?_
    cases h
    exact he 1165 _ _ _ dL_law_1165 (by show _ ≤ 600000; omega) (by show _ ≤ 7302249; omega)
set_option maxHeartbeats 4000000 in
set_option maxRecDepth 100000 in
theorem t_L_law_1166 {G : GG} {X : CX} {L b : Nat} {xs : Nat → Int32} (hX : hXs G X b L xs) {ans : Int32 × Mm} (he : EndI G X j_L_law b_L_law ans) {k18 : Mm → Option Nat → Option Nat → Int32 → Option (Int32 × Mm)} {u w : Nat} (hub : u + 2 ≤ 600000) (hwb : w + 8 ≤ 7302249) (hk18 : ∀ (M : Mm) (l1 : Option Nat) (l2 : Option Nat) (l3 : Int32), k18 M l1 l2 l3 = some ans → Wt G X j_L_law b_L_law 18 [(0, .ref b), (1, rf G.1 l1), (2, rf G.1 l2), (3, .int l3)] [] M (u + 2) (w + 8)) {M : Mm} {l1 : Option Nat} {l2 : Option Nat} {l3 : Int32} (h : f_L_law_1166 L xs k18 M l1 l2 l3 = some ans) : Wt G X j_L_law b_L_law 1166 [(0, .ref b), (1, rf G.1 l1), (2, rf G.1 l2), (3, .int l3)] [] M (u) (w) := by
  unfold f_L_law_1166 at h
  refine wt_aload_n (pc := 1166) 1 dL_law_1166 rfl ?_
  refine wt_xload_n (pc := 1167) 0 dL_law_1167 rfl ?_
  refine wt_iload_n (pc := 1168) 3 dL_law_1168 rfl ?_
  refine wt_iconst (pc := 1169) (v := 1) dL_law_1169 (by decide) ?_
  refine wt_iadd (pc := 1170) dL_law_1170 ?_
  refine wt_slI (pc := 1171) hX dL_law_1171 h (fun v1171 h => ?_)
  refine wt_xload_n (pc := 1172) 0 dL_law_1172 rfl ?_
  refine wt_iload_n (pc := 1173) 3 dL_law_1173 rfl ?_
  refine wt_iconst (pc := 1174) (v := 2) dL_law_1174 (by decide) ?_
  refine wt_iadd (pc := 1175) dL_law_1175 ?_
  refine wt_slI (pc := 1176) hX dL_law_1176 h (fun v1176 h => ?_)
  refine wt_cVI (pc := 1177) (J' := j_X11_best) (As := [.int v1171, .int v1176]) (st := []) (B' := b_X11_best) (u' := u) (w' := w) dL_law_1177 ml_L_152 mv_X11_best (fun v9 M9 e9 => c_X11_best e9) rfl (by decide) rfl rfl (by show _ ≤ 600000; omega) (by show _ ≤ 7302249; omega) (by decide) rfl h (fun v1177 M1177 h => ?_)
  refine wt_aload_n (pc := 1180) 2 dL_law_1180 rfl ?_
  refine wt_xload_n (pc := 1181) 0 dL_law_1181 rfl ?_
  refine wt_iload_n (pc := 1182) 3 dL_law_1182 rfl ?_
  refine wt_iconst (pc := 1183) (v := 1) dL_law_1183 (by decide) ?_
  refine wt_iadd (pc := 1184) dL_law_1184 ?_
  refine wt_slI (pc := 1185) hX dL_law_1185 h (fun v1185 h => ?_)
  refine wt_xload_n (pc := 1186) 0 dL_law_1186 rfl ?_
  refine wt_iload_n (pc := 1187) 3 dL_law_1187 rfl ?_
  refine wt_iconst (pc := 1188) (v := 2) dL_law_1188 (by decide) ?_
  refine wt_iadd (pc := 1189) dL_law_1189 ?_
  refine wt_slI (pc := 1190) hX dL_law_1190 h (fun v1190 h => ?_)
  refine wt_cVI (pc := 1191) (J' := j_X12_best) (As := [.int v1185, .int v1190]) (st := [.int v1177]) (B' := b_X12_best) (u' := u) (w' := w) dL_law_1191 ml_L_155 mv_X12_best (fun v9 M9 e9 => c_X12_best e9) rfl (by decide) rfl rfl (by show _ ≤ 600000; omega) (by show _ ≤ 7302249; omega) (by simp [rf_cat, cat_i, cat_l, cat_r]) rfl h (fun v1191 M1191 h => ?_)
  refine wt_icmp_eq (pc := 1194) (tgt := 1702) dL_law_1194 (by decide) (fun q => ?_) (fun q => ?_)
  · have h := ite_t q h
    refine wt_room (u' := u + 2) (w' := w + 8) (by omega) (by omega) ?_
    exact t_L_law_1702 hX he hub hwb hk18 h
  · have h := ite_f q h
    refine wt_iconst (pc := 1197) (v := 0) dL_law_1197 (by decide) ?_
    cases h
    exact he 1198 _ _ _ dL_law_1198 (by show _ ≤ 600000; omega) (by show _ ≤ 7302249; omega)
set_option maxHeartbeats 4000000 in
set_option maxRecDepth 100000 in
theorem t_L_law_1199 {G : GG} {X : CX} {L b : Nat} {xs : Nat → Int32} (hX : hXs G X b L xs) {ans : Int32 × Mm} (he : EndI G X j_L_law b_L_law ans) {k18 : Mm → Option Nat → Option Nat → Int32 → Option (Int32 × Mm)} {u w : Nat} (hub : u + 2 ≤ 600000) (hwb : w + 8 ≤ 7302249) (hk18 : ∀ (M : Mm) (l1 : Option Nat) (l2 : Option Nat) (l3 : Int32), k18 M l1 l2 l3 = some ans → Wt G X j_L_law b_L_law 18 [(0, .ref b), (1, rf G.1 l1), (2, rf G.1 l2), (3, .int l3)] [] M (u + 2) (w + 8)) {M : Mm} {l1 : Option Nat} {l2 : Option Nat} {l3 : Int32} (h : f_L_law_1199 L xs k18 M l1 l2 l3 = some ans) : Wt G X j_L_law b_L_law 1199 [(0, .ref b), (1, rf G.1 l1), (2, rf G.1 l2), (3, .int l3)] [] M (u) (w) := by
  unfold f_L_law_1199 at h
  refine wt_aload_n (pc := 1199) 1 dL_law_1199 rfl ?_
  refine wt_cVI (pc := 1200) (J' := j_X11_bestSet) (As := []) (st := []) (B' := b_X11_bestSet) (u' := u) (w' := w) dL_law_1200 ml_L_156 mv_X11_bestSet (fun v9 M9 e9 => c_X11_bestSet e9) rfl (by decide) rfl rfl (by show _ ≤ 600000; omega) (by show _ ≤ 7302249; omega) (by decide) rfl h (fun v1200 M1200 h => ?_)
  refine wt_aload_n (pc := 1203) 2 dL_law_1203 rfl ?_
  refine wt_cVI (pc := 1204) (J' := j_X12_bestSet) (As := []) (st := [.int v1200]) (B' := b_X12_bestSet) (u' := u) (w' := w) dL_law_1204 ml_L_159 mv_X12_bestSet (fun v9 M9 e9 => c_X12_bestSet e9) rfl (by decide) rfl rfl (by show _ ≤ 600000; omega) (by show _ ≤ 7302249; omega) (by simp [rf_cat, cat_i, cat_l, cat_r]) rfl h (fun v1204 M1204 h => ?_)
  refine wt_icmp_eq (pc := 1207) (tgt := 1702) dL_law_1207 (by decide) (fun q => ?_) (fun q => ?_)
  · have h := ite_t q h
    refine wt_room (u' := u + 2) (w' := w + 8) (by omega) (by omega) ?_
    exact t_L_law_1702 hX he hub hwb hk18 h
  · have h := ite_f q h
    refine wt_iconst (pc := 1210) (v := 0) dL_law_1210 (by decide) ?_
    cases h
    exact he 1211 _ _ _ dL_law_1211 (by show _ ≤ 600000; omega) (by show _ ≤ 7302249; omega)
set_option maxHeartbeats 4000000 in
set_option maxRecDepth 100000 in
theorem t_L_law_1212 {G : GG} {X : CX} {L b : Nat} {xs : Nat → Int32} (hX : hXs G X b L xs) {ans : Int32 × Mm} (he : EndI G X j_L_law b_L_law ans) {k18 : Mm → Option Nat → Option Nat → Int32 → Option (Int32 × Mm)} {u w : Nat} (hub : u + 2 ≤ 600000) (hwb : w + 8 ≤ 7302249) (hk18 : ∀ (M : Mm) (l1 : Option Nat) (l2 : Option Nat) (l3 : Int32), k18 M l1 l2 l3 = some ans → Wt G X j_L_law b_L_law 18 [(0, .ref b), (1, rf G.1 l1), (2, rf G.1 l2), (3, .int l3)] [] M (u + 2) (w + 8)) {M : Mm} {l1 : Option Nat} {l2 : Option Nat} {l3 : Int32} (h : f_L_law_1212 L xs k18 M l1 l2 l3 = some ans) : Wt G X j_L_law b_L_law 1212 [(0, .ref b), (1, rf G.1 l1), (2, rf G.1 l2), (3, .int l3)] [] M (u) (w) := by
  unfold f_L_law_1212 at h
  refine wt_aload_n (pc := 1212) 1 dL_law_1212 rfl ?_
  refine wt_xload_n (pc := 1213) 0 dL_law_1213 rfl ?_
  refine wt_iload_n (pc := 1214) 3 dL_law_1214 rfl ?_
  refine wt_iconst (pc := 1215) (v := 1) dL_law_1215 (by decide) ?_
  refine wt_iadd (pc := 1216) dL_law_1216 ?_
  refine wt_slI (pc := 1217) hX dL_law_1217 h (fun v1217 h => ?_)
  refine wt_xload_n (pc := 1218) 0 dL_law_1218 rfl ?_
  refine wt_iload_n (pc := 1219) 3 dL_law_1219 rfl ?_
  refine wt_iconst (pc := 1220) (v := 2) dL_law_1220 (by decide) ?_
  refine wt_iadd (pc := 1221) dL_law_1221 ?_
  refine wt_slI (pc := 1222) hX dL_law_1222 h (fun v1222 h => ?_)
  refine wt_cVI (pc := 1223) (J' := j_X11_soonest) (As := [.int v1217, .int v1222]) (st := []) (B' := b_X11_soonest) (u' := u) (w' := w) dL_law_1223 ml_L_160 mv_X11_soonest (fun v9 M9 e9 => c_X11_soonest e9) rfl (by decide) rfl rfl (by show _ ≤ 600000; omega) (by show _ ≤ 7302249; omega) (by decide) rfl h (fun v1223 M1223 h => ?_)
  refine wt_aload_n (pc := 1226) 2 dL_law_1226 rfl ?_
  refine wt_xload_n (pc := 1227) 0 dL_law_1227 rfl ?_
  refine wt_iload_n (pc := 1228) 3 dL_law_1228 rfl ?_
  refine wt_iconst (pc := 1229) (v := 1) dL_law_1229 (by decide) ?_
  refine wt_iadd (pc := 1230) dL_law_1230 ?_
  refine wt_slI (pc := 1231) hX dL_law_1231 h (fun v1231 h => ?_)
  refine wt_xload_n (pc := 1232) 0 dL_law_1232 rfl ?_
  refine wt_iload_n (pc := 1233) 3 dL_law_1233 rfl ?_
  refine wt_iconst (pc := 1234) (v := 2) dL_law_1234 (by decide) ?_
  refine wt_iadd (pc := 1235) dL_law_1235 ?_
  refine wt_slI (pc := 1236) hX dL_law_1236 h (fun v1236 h => ?_)
  refine wt_cVI (pc := 1237) (J' := j_X12_soonest) (As := [.int v1231, .int v1236]) (st := [.int v1223]) (B' := b_X12_soonest) (u' := u) (w' := w) dL_law_1237 ml_L_163 mv_X12_soonest (fun v9 M9 e9 => c_X12_soonest e9) rfl (by decide) rfl rfl (by show _ ≤ 600000; omega) (by show _ ≤ 7302249; omega) (by simp [rf_cat, cat_i, cat_l, cat_r]) rfl h (fun v1237 M1237 h => ?_)
  refine wt_icmp_eq (pc := 1240) (tgt := 1702) dL_law_1240 (by decide) (fun q => ?_) (fun q => ?_)
  · have h := ite_t q h
    refine wt_room (u' := u + 2) (w' := w + 8) (by omega) (by omega) ?_
    exact t_L_law_1702 hX he hub hwb hk18 h
  · have h := ite_f q h
    refine wt_iconst (pc := 1243) (v := 0) dL_law_1243 (by decide) ?_
    cases h
    exact he 1244 _ _ _ dL_law_1244 (by show _ ≤ 600000; omega) (by show _ ≤ 7302249; omega)
set_option maxHeartbeats 4000000 in
set_option maxRecDepth 100000 in
theorem t_L_law_1245 {G : GG} {X : CX} {L b : Nat} {xs : Nat → Int32} (hX : hXs G X b L xs) {ans : Int32 × Mm} (he : EndI G X j_L_law b_L_law ans) {k18 : Mm → Option Nat → Option Nat → Int32 → Option (Int32 × Mm)} {u w : Nat} (hub : u + 2 ≤ 600000) (hwb : w + 8 ≤ 7302249) (hk18 : ∀ (M : Mm) (l1 : Option Nat) (l2 : Option Nat) (l3 : Int32), k18 M l1 l2 l3 = some ans → Wt G X j_L_law b_L_law 18 [(0, .ref b), (1, rf G.1 l1), (2, rf G.1 l2), (3, .int l3)] [] M (u + 2) (w + 8)) {M : Mm} {l1 : Option Nat} {l2 : Option Nat} {l3 : Int32} (h : f_L_law_1245 L xs k18 M l1 l2 l3 = some ans) : Wt G X j_L_law b_L_law 1245 [(0, .ref b), (1, rf G.1 l1), (2, rf G.1 l2), (3, .int l3)] [] M (u) (w) := by
  unfold f_L_law_1245 at h
  refine wt_aload_n (pc := 1245) 1 dL_law_1245 rfl ?_
  refine wt_xload_n (pc := 1246) 0 dL_law_1246 rfl ?_
  refine wt_iload_n (pc := 1247) 3 dL_law_1247 rfl ?_
  refine wt_iconst (pc := 1248) (v := 1) dL_law_1248 (by decide) ?_
  refine wt_iadd (pc := 1249) dL_law_1249 ?_
  refine wt_slI (pc := 1250) hX dL_law_1250 h (fun v1250 h => ?_)
  refine wt_cVI (pc := 1251) (J' := j_X11_order) (As := [.int v1250]) (st := []) (B' := b_X11_order) (u' := u) (w' := w) dL_law_1251 ml_L_164 mv_X11_order (fun v9 M9 e9 => c_X11_order e9) rfl (by decide) rfl rfl (by show _ ≤ 600000; omega) (by show _ ≤ 7302249; omega) (by decide) rfl h (fun v1251 M1251 h => ?_)
  refine wt_aload_n (pc := 1254) 2 dL_law_1254 rfl ?_
  refine wt_xload_n (pc := 1255) 0 dL_law_1255 rfl ?_
  refine wt_iload_n (pc := 1256) 3 dL_law_1256 rfl ?_
  refine wt_iconst (pc := 1257) (v := 1) dL_law_1257 (by decide) ?_
  refine wt_iadd (pc := 1258) dL_law_1258 ?_
  refine wt_slI (pc := 1259) hX dL_law_1259 h (fun v1259 h => ?_)
  refine wt_cVI (pc := 1260) (J' := j_X12_order) (As := [.int v1259]) (st := [.int v1251]) (B' := b_X12_order) (u' := u) (w' := w) dL_law_1260 ml_L_167 mv_X12_order (fun v9 M9 e9 => c_X12_order e9) rfl (by decide) rfl rfl (by show _ ≤ 600000; omega) (by show _ ≤ 7302249; omega) (by simp [rf_cat, cat_i, cat_l, cat_r]) rfl h (fun v1260 M1260 h => ?_)
  refine wt_icmp_eq (pc := 1263) (tgt := 1702) dL_law_1263 (by decide) (fun q => ?_) (fun q => ?_)
  · have h := ite_t q h
    refine wt_room (u' := u + 2) (w' := w + 8) (by omega) (by omega) ?_
    exact t_L_law_1702 hX he hub hwb hk18 h
  · have h := ite_f q h
    refine wt_iconst (pc := 1266) (v := 0) dL_law_1266 (by decide) ?_
    cases h
    exact he 1267 _ _ _ dL_law_1267 (by show _ ≤ 600000; omega) (by show _ ≤ 7302249; omega)
set_option maxHeartbeats 4000000 in
set_option maxRecDepth 100000 in
theorem t_L_law_1268 {G : GG} {X : CX} {L b : Nat} {xs : Nat → Int32} (hX : hXs G X b L xs) {ans : Int32 × Mm} (he : EndI G X j_L_law b_L_law ans) {k18 : Mm → Option Nat → Option Nat → Int32 → Option (Int32 × Mm)} {u w : Nat} (hub : u + 2 ≤ 600000) (hwb : w + 8 ≤ 7302249) (hk18 : ∀ (M : Mm) (l1 : Option Nat) (l2 : Option Nat) (l3 : Int32), k18 M l1 l2 l3 = some ans → Wt G X j_L_law b_L_law 18 [(0, .ref b), (1, rf G.1 l1), (2, rf G.1 l2), (3, .int l3)] [] M (u + 2) (w + 8)) {M : Mm} {l1 : Option Nat} {l2 : Option Nat} {l3 : Int32} (h : f_L_law_1268 L xs k18 M l1 l2 l3 = some ans) : Wt G X j_L_law b_L_law 1268 [(0, .ref b), (1, rf G.1 l1), (2, rf G.1 l2), (3, .int l3)] [] M (u) (w) := by
  unfold f_L_law_1268 at h
  refine wt_aload_n (pc := 1268) 1 dL_law_1268 rfl ?_
  refine wt_xload_n (pc := 1269) 0 dL_law_1269 rfl ?_
  refine wt_iload_n (pc := 1270) 3 dL_law_1270 rfl ?_
  refine wt_iconst (pc := 1271) (v := 1) dL_law_1271 (by decide) ?_
  refine wt_iadd (pc := 1272) dL_law_1272 ?_
  refine wt_slI (pc := 1273) hX dL_law_1273 h (fun v1273 h => ?_)
  refine wt_cVI (pc := 1274) (J' := j_X11_shared) (As := [.int v1273]) (st := []) (B' := b_X11_shared) (u' := u) (w' := w) dL_law_1274 ml_L_168 mv_X11_shared (fun v9 M9 e9 => c_X11_shared e9) rfl (by decide) rfl rfl (by show _ ≤ 600000; omega) (by show _ ≤ 7302249; omega) (by decide) rfl h (fun v1274 M1274 h => ?_)
  refine wt_aload_n (pc := 1277) 2 dL_law_1277 rfl ?_
  refine wt_xload_n (pc := 1278) 0 dL_law_1278 rfl ?_
  refine wt_iload_n (pc := 1279) 3 dL_law_1279 rfl ?_
  refine wt_iconst (pc := 1280) (v := 1) dL_law_1280 (by decide) ?_
  refine wt_iadd (pc := 1281) dL_law_1281 ?_
  refine wt_slI (pc := 1282) hX dL_law_1282 h (fun v1282 h => ?_)
  refine wt_cVI (pc := 1283) (J' := j_X12_shared) (As := [.int v1282]) (st := [.int v1274]) (B' := b_X12_shared) (u' := u) (w' := w) dL_law_1283 ml_L_171 mv_X12_shared (fun v9 M9 e9 => c_X12_shared e9) rfl (by decide) rfl rfl (by show _ ≤ 600000; omega) (by show _ ≤ 7302249; omega) (by simp [rf_cat, cat_i, cat_l, cat_r]) rfl h (fun v1283 M1283 h => ?_)
  refine wt_icmp_eq (pc := 1286) (tgt := 1702) dL_law_1286 (by decide) (fun q => ?_) (fun q => ?_)
  · have h := ite_t q h
    refine wt_room (u' := u + 2) (w' := w + 8) (by omega) (by omega) ?_
    exact t_L_law_1702 hX he hub hwb hk18 h
  · have h := ite_f q h
    refine wt_iconst (pc := 1289) (v := 0) dL_law_1289 (by decide) ?_
    cases h
    exact he 1290 _ _ _ dL_law_1290 (by show _ ≤ 600000; omega) (by show _ ≤ 7302249; omega)
set_option maxHeartbeats 4000000 in
set_option maxRecDepth 100000 in
theorem t_L_law_1291 {G : GG} {X : CX} {L b : Nat} {xs : Nat → Int32} (hX : hXs G X b L xs) {ans : Int32 × Mm} (he : EndI G X j_L_law b_L_law ans) {k18 : Mm → Option Nat → Option Nat → Int32 → Option (Int32 × Mm)} {u w : Nat} (hub : u + 2 ≤ 600000) (hwb : w + 8 ≤ 7302249) (hk18 : ∀ (M : Mm) (l1 : Option Nat) (l2 : Option Nat) (l3 : Int32), k18 M l1 l2 l3 = some ans → Wt G X j_L_law b_L_law 18 [(0, .ref b), (1, rf G.1 l1), (2, rf G.1 l2), (3, .int l3)] [] M (u + 2) (w + 8)) {M : Mm} {l1 : Option Nat} {l2 : Option Nat} {l3 : Int32} (h : f_L_law_1291 L xs k18 M l1 l2 l3 = some ans) : Wt G X j_L_law b_L_law 1291 [(0, .ref b), (1, rf G.1 l1), (2, rf G.1 l2), (3, .int l3)] [] M (u) (w) := by
  unfold f_L_law_1291 at h
  refine wt_aload_n (pc := 1291) 1 dL_law_1291 rfl ?_
  refine wt_cVI (pc := 1292) (J' := j_X11_allOff) (As := []) (st := []) (B' := b_X11_allOff) (u' := u) (w' := w) dL_law_1292 ml_L_172 mv_X11_allOff (fun v9 M9 e9 => c_X11_allOff e9) rfl (by decide) rfl rfl (by show _ ≤ 600000; omega) (by show _ ≤ 7302249; omega) (by decide) rfl h (fun v1292 M1292 h => ?_)
  refine wt_aload_n (pc := 1295) 2 dL_law_1295 rfl ?_
  refine wt_cVI (pc := 1296) (J' := j_X12_allOff) (As := []) (st := [.int v1292]) (B' := b_X12_allOff) (u' := u) (w' := w) dL_law_1296 ml_L_175 mv_X12_allOff (fun v9 M9 e9 => c_X12_allOff e9) rfl (by decide) rfl rfl (by show _ ≤ 600000; omega) (by show _ ≤ 7302249; omega) (by simp [rf_cat, cat_i, cat_l, cat_r]) rfl h (fun v1296 M1296 h => ?_)
  refine wt_icmp_eq (pc := 1299) (tgt := 1702) dL_law_1299 (by decide) (fun q => ?_) (fun q => ?_)
  · have h := ite_t q h
    refine wt_room (u' := u + 2) (w' := w + 8) (by omega) (by omega) ?_
    exact t_L_law_1702 hX he hub hwb hk18 h
  · have h := ite_f q h
    refine wt_iconst (pc := 1302) (v := 0) dL_law_1302 (by decide) ?_
    cases h
    exact he 1303 _ _ _ dL_law_1303 (by show _ ≤ 600000; omega) (by show _ ≤ 7302249; omega)
set_option maxHeartbeats 4000000 in
set_option maxRecDepth 100000 in
theorem t_L_law_1304 {G : GG} {X : CX} {L b : Nat} {xs : Nat → Int32} (hX : hXs G X b L xs) {ans : Int32 × Mm} (he : EndI G X j_L_law b_L_law ans) {k18 : Mm → Option Nat → Option Nat → Int32 → Option (Int32 × Mm)} {u w : Nat} (hub : u + 2 ≤ 600000) (hwb : w + 8 ≤ 7302249) (hk18 : ∀ (M : Mm) (l1 : Option Nat) (l2 : Option Nat) (l3 : Int32), k18 M l1 l2 l3 = some ans → Wt G X j_L_law b_L_law 18 [(0, .ref b), (1, rf G.1 l1), (2, rf G.1 l2), (3, .int l3)] [] M (u + 2) (w + 8)) {M : Mm} {l1 : Option Nat} {l2 : Option Nat} {l3 : Int32} (h : f_L_law_1304 L xs k18 M l1 l2 l3 = some ans) : Wt G X j_L_law b_L_law 1304 [(0, .ref b), (1, rf G.1 l1), (2, rf G.1 l2), (3, .int l3)] [] M (u) (w) := by
  unfold f_L_law_1304 at h
  refine wt_aload_n (pc := 1304) 1 dL_law_1304 rfl ?_
  refine wt_xload_n (pc := 1305) 0 dL_law_1305 rfl ?_
  refine wt_iload_n (pc := 1306) 3 dL_law_1306 rfl ?_
  refine wt_iconst (pc := 1307) (v := 1) dL_law_1307 (by decide) ?_
  refine wt_iadd (pc := 1308) dL_law_1308 ?_
  refine wt_slI (pc := 1309) hX dL_law_1309 h (fun v1309 h => ?_)
  refine wt_xload_n (pc := 1310) 0 dL_law_1310 rfl ?_
  refine wt_iload_n (pc := 1311) 3 dL_law_1311 rfl ?_
  refine wt_iconst (pc := 1312) (v := 2) dL_law_1312 (by decide) ?_
  refine wt_iadd (pc := 1313) dL_law_1313 ?_
  refine wt_slI (pc := 1314) hX dL_law_1314 h (fun v1314 h => ?_)
  refine wt_xload_n (pc := 1315) 0 dL_law_1315 rfl ?_
  refine wt_iload_n (pc := 1316) 3 dL_law_1316 rfl ?_
  refine wt_iconst (pc := 1317) (v := 3) dL_law_1317 (by decide) ?_
  refine wt_iadd (pc := 1318) dL_law_1318 ?_
  refine wt_slI (pc := 1319) hX dL_law_1319 h (fun v1319 h => ?_)
  refine wt_cVI (pc := 1320) (J' := j_X11_score) (As := [.int v1309, .int v1314, .int v1319]) (st := []) (B' := b_X11_score) (u' := u) (w' := w) dL_law_1320 ml_L_176 mv_X11_score (fun v9 M9 e9 => c_X11_score e9) rfl (by decide) rfl rfl (by show _ ≤ 600000; omega) (by show _ ≤ 7302249; omega) (by decide) rfl h (fun v1320 M1320 h => ?_)
  refine wt_aload_n (pc := 1323) 2 dL_law_1323 rfl ?_
  refine wt_xload_n (pc := 1324) 0 dL_law_1324 rfl ?_
  refine wt_iload_n (pc := 1325) 3 dL_law_1325 rfl ?_
  refine wt_iconst (pc := 1326) (v := 1) dL_law_1326 (by decide) ?_
  refine wt_iadd (pc := 1327) dL_law_1327 ?_
  refine wt_slI (pc := 1328) hX dL_law_1328 h (fun v1328 h => ?_)
  refine wt_xload_n (pc := 1329) 0 dL_law_1329 rfl ?_
  refine wt_iload_n (pc := 1330) 3 dL_law_1330 rfl ?_
  refine wt_iconst (pc := 1331) (v := 2) dL_law_1331 (by decide) ?_
  refine wt_iadd (pc := 1332) dL_law_1332 ?_
  refine wt_slI (pc := 1333) hX dL_law_1333 h (fun v1333 h => ?_)
  refine wt_xload_n (pc := 1334) 0 dL_law_1334 rfl ?_
  refine wt_iload_n (pc := 1335) 3 dL_law_1335 rfl ?_
  refine wt_iconst (pc := 1336) (v := 3) dL_law_1336 (by decide) ?_
  refine wt_iadd (pc := 1337) dL_law_1337 ?_
  refine wt_slI (pc := 1338) hX dL_law_1338 h (fun v1338 h => ?_)
  refine wt_cVI (pc := 1339) (J' := j_X12_score) (As := [.int v1328, .int v1333, .int v1338]) (st := [.int v1320]) (B' := b_X12_score) (u' := u) (w' := w) dL_law_1339 ml_L_179 mv_X12_score (fun v9 M9 e9 => c_X12_score e9) rfl (by decide) rfl rfl (by show _ ≤ 600000; omega) (by show _ ≤ 7302249; omega) (by simp [rf_cat, cat_i, cat_l, cat_r]) rfl h (fun v1339 M1339 h => ?_)
  refine wt_icmp_eq (pc := 1342) (tgt := 1702) dL_law_1342 (by decide) (fun q => ?_) (fun q => ?_)
  · have h := ite_t q h
    refine wt_room (u' := u + 2) (w' := w + 8) (by omega) (by omega) ?_
    exact t_L_law_1702 hX he hub hwb hk18 h
  · have h := ite_f q h
    refine wt_iconst (pc := 1345) (v := 0) dL_law_1345 (by decide) ?_
    cases h
    exact he 1346 _ _ _ dL_law_1346 (by show _ ≤ 600000; omega) (by show _ ≤ 7302249; omega)
set_option maxHeartbeats 4000000 in
set_option maxRecDepth 100000 in
theorem t_L_law_1347 {G : GG} {X : CX} {L b : Nat} {xs : Nat → Int32} (hX : hXs G X b L xs) {ans : Int32 × Mm} (he : EndI G X j_L_law b_L_law ans) {k18 : Mm → Option Nat → Option Nat → Int32 → Option (Int32 × Mm)} {u w : Nat} (hub : u + 2 ≤ 600000) (hwb : w + 8 ≤ 7302249) (hk18 : ∀ (M : Mm) (l1 : Option Nat) (l2 : Option Nat) (l3 : Int32), k18 M l1 l2 l3 = some ans → Wt G X j_L_law b_L_law 18 [(0, .ref b), (1, rf G.1 l1), (2, rf G.1 l2), (3, .int l3)] [] M (u + 2) (w + 8)) {M : Mm} {l1 : Option Nat} {l2 : Option Nat} {l3 : Int32} (h : f_L_law_1347 L xs k18 M l1 l2 l3 = some ans) : Wt G X j_L_law b_L_law 1347 [(0, .ref b), (1, rf G.1 l1), (2, rf G.1 l2), (3, .int l3)] [] M (u) (w) := by
  unfold f_L_law_1347 at h
  refine wt_aload_n (pc := 1347) 1 dL_law_1347 rfl ?_
  refine wt_xload_n (pc := 1348) 0 dL_law_1348 rfl ?_
  refine wt_iload_n (pc := 1349) 3 dL_law_1349 rfl ?_
  refine wt_iconst (pc := 1350) (v := 1) dL_law_1350 (by decide) ?_
  refine wt_iadd (pc := 1351) dL_law_1351 ?_
  refine wt_slI (pc := 1352) hX dL_law_1352 h (fun v1352 h => ?_)
  refine wt_xload_n (pc := 1353) 0 dL_law_1353 rfl ?_
  refine wt_iload_n (pc := 1354) 3 dL_law_1354 rfl ?_
  refine wt_iconst (pc := 1355) (v := 2) dL_law_1355 (by decide) ?_
  refine wt_iadd (pc := 1356) dL_law_1356 ?_
  refine wt_slI (pc := 1357) hX dL_law_1357 h (fun v1357 h => ?_)
  refine wt_xload_n (pc := 1358) 0 dL_law_1358 rfl ?_
  refine wt_iload_n (pc := 1359) 3 dL_law_1359 rfl ?_
  refine wt_iconst (pc := 1360) (v := 3) dL_law_1360 (by decide) ?_
  refine wt_iadd (pc := 1361) dL_law_1361 ?_
  refine wt_slI (pc := 1362) hX dL_law_1362 h (fun v1362 h => ?_)
  refine wt_cVI (pc := 1363) (J' := j_X11_words) (As := [.int v1352, .int v1357, .int v1362]) (st := []) (B' := b_X11_words) (u' := u) (w' := w) dL_law_1363 ml_L_180 mv_X11_words (fun v9 M9 e9 => c_X11_words e9) rfl (by decide) rfl rfl (by show _ ≤ 600000; omega) (by show _ ≤ 7302249; omega) (by decide) rfl h (fun v1363 M1363 h => ?_)
  refine wt_aload_n (pc := 1366) 2 dL_law_1366 rfl ?_
  refine wt_xload_n (pc := 1367) 0 dL_law_1367 rfl ?_
  refine wt_iload_n (pc := 1368) 3 dL_law_1368 rfl ?_
  refine wt_iconst (pc := 1369) (v := 1) dL_law_1369 (by decide) ?_
  refine wt_iadd (pc := 1370) dL_law_1370 ?_
  refine wt_slI (pc := 1371) hX dL_law_1371 h (fun v1371 h => ?_)
  refine wt_xload_n (pc := 1372) 0 dL_law_1372 rfl ?_
  refine wt_iload_n (pc := 1373) 3 dL_law_1373 rfl ?_
  refine wt_iconst (pc := 1374) (v := 2) dL_law_1374 (by decide) ?_
  refine wt_iadd (pc := 1375) dL_law_1375 ?_
  refine wt_slI (pc := 1376) hX dL_law_1376 h (fun v1376 h => ?_)
  refine wt_xload_n (pc := 1377) 0 dL_law_1377 rfl ?_
  refine wt_iload_n (pc := 1378) 3 dL_law_1378 rfl ?_
  refine wt_iconst (pc := 1379) (v := 3) dL_law_1379 (by decide) ?_
  refine wt_iadd (pc := 1380) dL_law_1380 ?_
  refine wt_slI (pc := 1381) hX dL_law_1381 h (fun v1381 h => ?_)
  refine wt_cVI (pc := 1382) (J' := j_X12_words) (As := [.int v1371, .int v1376, .int v1381]) (st := [.int v1363]) (B' := b_X12_words) (u' := u) (w' := w) dL_law_1382 ml_L_183 mv_X12_words (fun v9 M9 e9 => c_X12_words e9) rfl (by decide) rfl rfl (by show _ ≤ 600000; omega) (by show _ ≤ 7302249; omega) (by simp [rf_cat, cat_i, cat_l, cat_r]) rfl h (fun v1382 M1382 h => ?_)
  refine wt_icmp_eq (pc := 1385) (tgt := 1702) dL_law_1385 (by decide) (fun q => ?_) (fun q => ?_)
  · have h := ite_t q h
    refine wt_room (u' := u + 2) (w' := w + 8) (by omega) (by omega) ?_
    exact t_L_law_1702 hX he hub hwb hk18 h
  · have h := ite_f q h
    refine wt_iconst (pc := 1388) (v := 0) dL_law_1388 (by decide) ?_
    cases h
    exact he 1389 _ _ _ dL_law_1389 (by show _ ≤ 600000; omega) (by show _ ≤ 7302249; omega)
set_option maxHeartbeats 4000000 in
set_option maxRecDepth 100000 in
theorem t_L_law_1390 {G : GG} {X : CX} {L b : Nat} {xs : Nat → Int32} (hX : hXs G X b L xs) {ans : Int32 × Mm} (he : EndI G X j_L_law b_L_law ans) {k18 : Mm → Option Nat → Option Nat → Int32 → Option (Int32 × Mm)} {u w : Nat} (hub : u + 2 ≤ 600000) (hwb : w + 8 ≤ 7302249) (hk18 : ∀ (M : Mm) (l1 : Option Nat) (l2 : Option Nat) (l3 : Int32), k18 M l1 l2 l3 = some ans → Wt G X j_L_law b_L_law 18 [(0, .ref b), (1, rf G.1 l1), (2, rf G.1 l2), (3, .int l3)] [] M (u + 2) (w + 8)) {M : Mm} {l1 : Option Nat} {l2 : Option Nat} {l3 : Int32} (h : f_L_law_1390 L xs k18 M l1 l2 l3 = some ans) : Wt G X j_L_law b_L_law 1390 [(0, .ref b), (1, rf G.1 l1), (2, rf G.1 l2), (3, .int l3)] [] M (u) (w) := by
  unfold f_L_law_1390 at h
  refine wt_aload_n (pc := 1390) 1 dL_law_1390 rfl ?_
  refine wt_cVI (pc := 1391) (J' := j_X11_owed) (As := []) (st := []) (B' := b_X11_owed) (u' := u) (w' := w) dL_law_1391 ml_L_184 mv_X11_owed (fun v9 M9 e9 => c_X11_owed e9) rfl (by decide) rfl rfl (by show _ ≤ 600000; omega) (by show _ ≤ 7302249; omega) (by decide) rfl h (fun v1391 M1391 h => ?_)
  refine wt_aload_n (pc := 1394) 2 dL_law_1394 rfl ?_
  refine wt_cVI (pc := 1395) (J' := j_X12_owed) (As := []) (st := [.int v1391]) (B' := b_X12_owed) (u' := u) (w' := w) dL_law_1395 ml_L_187 mv_X12_owed (fun v9 M9 e9 => c_X12_owed e9) rfl (by decide) rfl rfl (by show _ ≤ 600000; omega) (by show _ ≤ 7302249; omega) (by simp [rf_cat, cat_i, cat_l, cat_r]) rfl h (fun v1395 M1395 h => ?_)
  refine wt_icmp_eq (pc := 1398) (tgt := 1702) dL_law_1398 (by decide) (fun q => ?_) (fun q => ?_)
  · have h := ite_t q h
    refine wt_room (u' := u + 2) (w' := w + 8) (by omega) (by omega) ?_
    exact t_L_law_1702 hX he hub hwb hk18 h
  · have h := ite_f q h
    refine wt_iconst (pc := 1401) (v := 0) dL_law_1401 (by decide) ?_
    cases h
    exact he 1402 _ _ _ dL_law_1402 (by show _ ≤ 600000; omega) (by show _ ≤ 7302249; omega)
set_option maxHeartbeats 4000000 in
set_option maxRecDepth 100000 in
theorem t_L_law_1403 {G : GG} {X : CX} {L b : Nat} {xs : Nat → Int32} (hX : hXs G X b L xs) {ans : Int32 × Mm} (he : EndI G X j_L_law b_L_law ans) {k18 : Mm → Option Nat → Option Nat → Int32 → Option (Int32 × Mm)} {u w : Nat} (hub : u + 2 ≤ 600000) (hwb : w + 8 ≤ 7302249) (hk18 : ∀ (M : Mm) (l1 : Option Nat) (l2 : Option Nat) (l3 : Int32), k18 M l1 l2 l3 = some ans → Wt G X j_L_law b_L_law 18 [(0, .ref b), (1, rf G.1 l1), (2, rf G.1 l2), (3, .int l3)] [] M (u + 2) (w + 8)) {M : Mm} {l1 : Option Nat} {l2 : Option Nat} {l3 : Int32} (h : f_L_law_1403 L xs k18 M l1 l2 l3 = some ans) : Wt G X j_L_law b_L_law 1403 [(0, .ref b), (1, rf G.1 l1), (2, rf G.1 l2), (3, .int l3)] [] M (u) (w) := by
  unfold f_L_law_1403 at h
  refine wt_aload_n (pc := 1403) 1 dL_law_1403 rfl ?_
  refine wt_cVI (pc := 1404) (J' := j_X11_riders) (As := []) (st := []) (B' := b_X11_riders) (u' := u) (w' := w) dL_law_1404 ml_L_188 mv_X11_riders (fun v9 M9 e9 => c_X11_riders e9) rfl (by decide) rfl rfl (by show _ ≤ 600000; omega) (by show _ ≤ 7302249; omega) (by decide) rfl h (fun v1404 M1404 h => ?_)
  refine wt_aload_n (pc := 1407) 2 dL_law_1407 rfl ?_
  refine wt_cVI (pc := 1408) (J' := j_X12_riders) (As := []) (st := [.int v1404]) (B' := b_X12_riders) (u' := u) (w' := w) dL_law_1408 ml_L_191 mv_X12_riders (fun v9 M9 e9 => c_X12_riders e9) rfl (by decide) rfl rfl (by show _ ≤ 600000; omega) (by show _ ≤ 7302249; omega) (by simp [rf_cat, cat_i, cat_l, cat_r]) rfl h (fun v1408 M1408 h => ?_)
  refine wt_icmp_eq (pc := 1411) (tgt := 1702) dL_law_1411 (by decide) (fun q => ?_) (fun q => ?_)
  · have h := ite_t q h
    refine wt_room (u' := u + 2) (w' := w + 8) (by omega) (by omega) ?_
    exact t_L_law_1702 hX he hub hwb hk18 h
  · have h := ite_f q h
    refine wt_iconst (pc := 1414) (v := 0) dL_law_1414 (by decide) ?_
    cases h
    exact he 1415 _ _ _ dL_law_1415 (by show _ ≤ 600000; omega) (by show _ ≤ 7302249; omega)
set_option maxHeartbeats 4000000 in
set_option maxRecDepth 100000 in
theorem t_L_law_1416 {G : GG} {X : CX} {L b : Nat} {xs : Nat → Int32} (hX : hXs G X b L xs) {ans : Int32 × Mm} (he : EndI G X j_L_law b_L_law ans) {k18 : Mm → Option Nat → Option Nat → Int32 → Option (Int32 × Mm)} {u w : Nat} (hub : u + 2 ≤ 600000) (hwb : w + 8 ≤ 7302249) (hk18 : ∀ (M : Mm) (l1 : Option Nat) (l2 : Option Nat) (l3 : Int32), k18 M l1 l2 l3 = some ans → Wt G X j_L_law b_L_law 18 [(0, .ref b), (1, rf G.1 l1), (2, rf G.1 l2), (3, .int l3)] [] M (u + 2) (w + 8)) {M : Mm} {l1 : Option Nat} {l2 : Option Nat} {l3 : Int32} (h : f_L_law_1416 L xs k18 M l1 l2 l3 = some ans) : Wt G X j_L_law b_L_law 1416 [(0, .ref b), (1, rf G.1 l1), (2, rf G.1 l2), (3, .int l3)] [] M (u) (w) := by
  unfold f_L_law_1416 at h
  refine wt_aload_n (pc := 1416) 1 dL_law_1416 rfl ?_
  refine wt_xload_n (pc := 1417) 0 dL_law_1417 rfl ?_
  refine wt_iload_n (pc := 1418) 3 dL_law_1418 rfl ?_
  refine wt_iconst (pc := 1419) (v := 1) dL_law_1419 (by decide) ?_
  refine wt_iadd (pc := 1420) dL_law_1420 ?_
  refine wt_slI (pc := 1421) hX dL_law_1421 h (fun v1421 h => ?_)
  refine wt_cVI (pc := 1422) (J' := j_X11_chain) (As := [.int v1421]) (st := []) (B' := b_X11_chain) (u' := u) (w' := w) dL_law_1422 ml_L_192 mv_X11_chain (fun v9 M9 e9 => c_X11_chain e9) rfl (by decide) rfl rfl (by show _ ≤ 600000; omega) (by show _ ≤ 7302249; omega) (by decide) rfl h (fun v1422 M1422 h => ?_)
  refine wt_aload_n (pc := 1425) 2 dL_law_1425 rfl ?_
  refine wt_xload_n (pc := 1426) 0 dL_law_1426 rfl ?_
  refine wt_iload_n (pc := 1427) 3 dL_law_1427 rfl ?_
  refine wt_iconst (pc := 1428) (v := 1) dL_law_1428 (by decide) ?_
  refine wt_iadd (pc := 1429) dL_law_1429 ?_
  refine wt_slI (pc := 1430) hX dL_law_1430 h (fun v1430 h => ?_)
  refine wt_cVI (pc := 1431) (J' := j_X12_chain) (As := [.int v1430]) (st := [.int v1422]) (B' := b_X12_chain) (u' := u) (w' := w) dL_law_1431 ml_L_195 mv_X12_chain (fun v9 M9 e9 => c_X12_chain e9) rfl (by decide) rfl rfl (by show _ ≤ 600000; omega) (by show _ ≤ 7302249; omega) (by simp [rf_cat, cat_i, cat_l, cat_r]) rfl h (fun v1431 M1431 h => ?_)
  refine wt_icmp_eq (pc := 1434) (tgt := 1702) dL_law_1434 (by decide) (fun q => ?_) (fun q => ?_)
  · have h := ite_t q h
    refine wt_room (u' := u + 2) (w' := w + 8) (by omega) (by omega) ?_
    exact t_L_law_1702 hX he hub hwb hk18 h
  · have h := ite_f q h
    refine wt_iconst (pc := 1437) (v := 0) dL_law_1437 (by decide) ?_
    cases h
    exact he 1438 _ _ _ dL_law_1438 (by show _ ≤ 600000; omega) (by show _ ≤ 7302249; omega)
set_option maxHeartbeats 4000000 in
set_option maxRecDepth 100000 in
theorem t_L_law_1439 {G : GG} {X : CX} {L b : Nat} {xs : Nat → Int32} (hX : hXs G X b L xs) {ans : Int32 × Mm} (he : EndI G X j_L_law b_L_law ans) {k18 : Mm → Option Nat → Option Nat → Int32 → Option (Int32 × Mm)} {u w : Nat} (hub : u + 2 ≤ 600000) (hwb : w + 8 ≤ 7302249) (hk18 : ∀ (M : Mm) (l1 : Option Nat) (l2 : Option Nat) (l3 : Int32), k18 M l1 l2 l3 = some ans → Wt G X j_L_law b_L_law 18 [(0, .ref b), (1, rf G.1 l1), (2, rf G.1 l2), (3, .int l3)] [] M (u + 2) (w + 8)) {M : Mm} {l1 : Option Nat} {l2 : Option Nat} {l3 : Int32} (h : f_L_law_1439 L xs k18 M l1 l2 l3 = some ans) : Wt G X j_L_law b_L_law 1439 [(0, .ref b), (1, rf G.1 l1), (2, rf G.1 l2), (3, .int l3)] [] M (u) (w) := by
  unfold f_L_law_1439 at h
  refine wt_aload_n (pc := 1439) 1 dL_law_1439 rfl ?_
  refine wt_xload_n (pc := 1440) 0 dL_law_1440 rfl ?_
  refine wt_iload_n (pc := 1441) 3 dL_law_1441 rfl ?_
  refine wt_iconst (pc := 1442) (v := 1) dL_law_1442 (by decide) ?_
  refine wt_iadd (pc := 1443) dL_law_1443 ?_
  refine wt_slI (pc := 1444) hX dL_law_1444 h (fun v1444 h => ?_)
  refine wt_xload_n (pc := 1445) 0 dL_law_1445 rfl ?_
  refine wt_iload_n (pc := 1446) 3 dL_law_1446 rfl ?_
  refine wt_iconst (pc := 1447) (v := 2) dL_law_1447 (by decide) ?_
  refine wt_iadd (pc := 1448) dL_law_1448 ?_
  refine wt_slI (pc := 1449) hX dL_law_1449 h (fun v1449 h => ?_)
  refine wt_cVI (pc := 1450) (J' := j_X11_quits) (As := [.int v1444, .int v1449]) (st := []) (B' := b_X11_quits) (u' := u) (w' := w) dL_law_1450 ml_L_196 mv_X11_quits (fun v9 M9 e9 => c_X11_quits e9) rfl (by decide) rfl rfl (by show _ ≤ 600000; omega) (by show _ ≤ 7302249; omega) (by decide) rfl h (fun v1450 M1450 h => ?_)
  refine wt_aload_n (pc := 1453) 2 dL_law_1453 rfl ?_
  refine wt_xload_n (pc := 1454) 0 dL_law_1454 rfl ?_
  refine wt_iload_n (pc := 1455) 3 dL_law_1455 rfl ?_
  refine wt_iconst (pc := 1456) (v := 1) dL_law_1456 (by decide) ?_
  refine wt_iadd (pc := 1457) dL_law_1457 ?_
  refine wt_slI (pc := 1458) hX dL_law_1458 h (fun v1458 h => ?_)
  refine wt_xload_n (pc := 1459) 0 dL_law_1459 rfl ?_
  refine wt_iload_n (pc := 1460) 3 dL_law_1460 rfl ?_
  refine wt_iconst (pc := 1461) (v := 2) dL_law_1461 (by decide) ?_
  refine wt_iadd (pc := 1462) dL_law_1462 ?_
  refine wt_slI (pc := 1463) hX dL_law_1463 h (fun v1463 h => ?_)
  refine wt_cVI (pc := 1464) (J' := j_X12_quits) (As := [.int v1458, .int v1463]) (st := [.int v1450]) (B' := b_X12_quits) (u' := u) (w' := w) dL_law_1464 ml_L_199 mv_X12_quits (fun v9 M9 e9 => c_X12_quits e9) rfl (by decide) rfl rfl (by show _ ≤ 600000; omega) (by show _ ≤ 7302249; omega) (by simp [rf_cat, cat_i, cat_l, cat_r]) rfl h (fun v1464 M1464 h => ?_)
  refine wt_icmp_eq (pc := 1467) (tgt := 1702) dL_law_1467 (by decide) (fun q => ?_) (fun q => ?_)
  · have h := ite_t q h
    refine wt_room (u' := u + 2) (w' := w + 8) (by omega) (by omega) ?_
    exact t_L_law_1702 hX he hub hwb hk18 h
  · have h := ite_f q h
    refine wt_iconst (pc := 1470) (v := 0) dL_law_1470 (by decide) ?_
    cases h
    exact he 1471 _ _ _ dL_law_1471 (by show _ ≤ 600000; omega) (by show _ ≤ 7302249; omega)
set_option maxHeartbeats 4000000 in
set_option maxRecDepth 100000 in
theorem t_L_law_1472 {G : GG} {X : CX} {L b : Nat} {xs : Nat → Int32} (hX : hXs G X b L xs) {ans : Int32 × Mm} (he : EndI G X j_L_law b_L_law ans) {k18 : Mm → Option Nat → Option Nat → Int32 → Option (Int32 × Mm)} {u w : Nat} (hub : u + 2 ≤ 600000) (hwb : w + 8 ≤ 7302249) (hk18 : ∀ (M : Mm) (l1 : Option Nat) (l2 : Option Nat) (l3 : Int32), k18 M l1 l2 l3 = some ans → Wt G X j_L_law b_L_law 18 [(0, .ref b), (1, rf G.1 l1), (2, rf G.1 l2), (3, .int l3)] [] M (u + 2) (w + 8)) {M : Mm} {l1 : Option Nat} {l2 : Option Nat} {l3 : Int32} (h : f_L_law_1472 L xs k18 M l1 l2 l3 = some ans) : Wt G X j_L_law b_L_law 1472 [(0, .ref b), (1, rf G.1 l1), (2, rf G.1 l2), (3, .int l3)] [] M (u) (w) := by
  unfold f_L_law_1472 at h
  refine wt_aload_n (pc := 1472) 1 dL_law_1472 rfl ?_
  refine wt_xload_n (pc := 1473) 0 dL_law_1473 rfl ?_
  refine wt_iload_n (pc := 1474) 3 dL_law_1474 rfl ?_
  refine wt_iconst (pc := 1475) (v := 1) dL_law_1475 (by decide) ?_
  refine wt_iadd (pc := 1476) dL_law_1476 ?_
  refine wt_slI (pc := 1477) hX dL_law_1477 h (fun v1477 h => ?_)
  refine wt_cVI (pc := 1478) (J' := j_X11_ground) (As := [.int v1477]) (st := []) (B' := b_X11_ground) (u' := u) (w' := w) dL_law_1478 ml_L_200 mv_X11_ground (fun v9 M9 e9 => c_X11_ground e9) rfl (by decide) rfl rfl (by show _ ≤ 600000; omega) (by show _ ≤ 7302249; omega) (by decide) rfl h (fun v1478 M1478 h => ?_)
  refine wt_aload_n (pc := 1481) 2 dL_law_1481 rfl ?_
  refine wt_xload_n (pc := 1482) 0 dL_law_1482 rfl ?_
  refine wt_iload_n (pc := 1483) 3 dL_law_1483 rfl ?_
  refine wt_iconst (pc := 1484) (v := 1) dL_law_1484 (by decide) ?_
  refine wt_iadd (pc := 1485) dL_law_1485 ?_
  refine wt_slI (pc := 1486) hX dL_law_1486 h (fun v1486 h => ?_)
  refine wt_cVI (pc := 1487) (J' := j_X12_ground) (As := [.int v1486]) (st := [.int v1478]) (B' := b_X12_ground) (u' := u) (w' := w) dL_law_1487 ml_L_203 mv_X12_ground (fun v9 M9 e9 => c_X12_ground e9) rfl (by decide) rfl rfl (by show _ ≤ 600000; omega) (by show _ ≤ 7302249; omega) (by simp [rf_cat, cat_i, cat_l, cat_r]) rfl h (fun v1487 M1487 h => ?_)
  refine wt_icmp_eq (pc := 1490) (tgt := 1702) dL_law_1490 (by decide) (fun q => ?_) (fun q => ?_)
  · have h := ite_t q h
    refine wt_room (u' := u + 2) (w' := w + 8) (by omega) (by omega) ?_
    exact t_L_law_1702 hX he hub hwb hk18 h
  · have h := ite_f q h
    refine wt_iconst (pc := 1493) (v := 0) dL_law_1493 (by decide) ?_
    cases h
    exact he 1494 _ _ _ dL_law_1494 (by show _ ≤ 600000; omega) (by show _ ≤ 7302249; omega)
set_option maxHeartbeats 4000000 in
set_option maxRecDepth 100000 in
theorem t_L_law_1495 {G : GG} {X : CX} {L b : Nat} {xs : Nat → Int32} (hX : hXs G X b L xs) {ans : Int32 × Mm} (he : EndI G X j_L_law b_L_law ans) {k18 : Mm → Option Nat → Option Nat → Int32 → Option (Int32 × Mm)} {u w : Nat} (hub : u + 2 ≤ 600000) (hwb : w + 8 ≤ 7302249) (hk18 : ∀ (M : Mm) (l1 : Option Nat) (l2 : Option Nat) (l3 : Int32), k18 M l1 l2 l3 = some ans → Wt G X j_L_law b_L_law 18 [(0, .ref b), (1, rf G.1 l1), (2, rf G.1 l2), (3, .int l3)] [] M (u + 2) (w + 8)) {M : Mm} {l1 : Option Nat} {l2 : Option Nat} {l3 : Int32} (h : f_L_law_1495 L xs k18 M l1 l2 l3 = some ans) : Wt G X j_L_law b_L_law 1495 [(0, .ref b), (1, rf G.1 l1), (2, rf G.1 l2), (3, .int l3)] [] M (u) (w) := by
  unfold f_L_law_1495 at h
  refine wt_aload_n (pc := 1495) 1 dL_law_1495 rfl ?_
  refine wt_xload_n (pc := 1496) 0 dL_law_1496 rfl ?_
  refine wt_iload_n (pc := 1497) 3 dL_law_1497 rfl ?_
  refine wt_iconst (pc := 1498) (v := 1) dL_law_1498 (by decide) ?_
  refine wt_iadd (pc := 1499) dL_law_1499 ?_
  refine wt_slI (pc := 1500) hX dL_law_1500 h (fun v1500 h => ?_)
  refine wt_xload_n (pc := 1501) 0 dL_law_1501 rfl ?_
  refine wt_iload_n (pc := 1502) 3 dL_law_1502 rfl ?_
  refine wt_iconst (pc := 1503) (v := 2) dL_law_1503 (by decide) ?_
  refine wt_iadd (pc := 1504) dL_law_1504 ?_
  refine wt_slI (pc := 1505) hX dL_law_1505 h (fun v1505 h => ?_)
  refine wt_cVI (pc := 1506) (J' := j_X11_signs) (As := [.int v1500, .int v1505]) (st := []) (B' := b_X11_signs) (u' := u) (w' := w) dL_law_1506 ml_L_204 mv_X11_signs (fun v9 M9 e9 => c_X11_signs e9) rfl (by decide) rfl rfl (by show _ ≤ 600000; omega) (by show _ ≤ 7302249; omega) (by decide) rfl h (fun v1506 M1506 h => ?_)
  refine wt_aload_n (pc := 1509) 2 dL_law_1509 rfl ?_
  refine wt_xload_n (pc := 1510) 0 dL_law_1510 rfl ?_
  refine wt_iload_n (pc := 1511) 3 dL_law_1511 rfl ?_
  refine wt_iconst (pc := 1512) (v := 1) dL_law_1512 (by decide) ?_
  refine wt_iadd (pc := 1513) dL_law_1513 ?_
  refine wt_slI (pc := 1514) hX dL_law_1514 h (fun v1514 h => ?_)
  refine wt_xload_n (pc := 1515) 0 dL_law_1515 rfl ?_
  refine wt_iload_n (pc := 1516) 3 dL_law_1516 rfl ?_
  refine wt_iconst (pc := 1517) (v := 2) dL_law_1517 (by decide) ?_
  refine wt_iadd (pc := 1518) dL_law_1518 ?_
  refine wt_slI (pc := 1519) hX dL_law_1519 h (fun v1519 h => ?_)
  refine wt_cVI (pc := 1520) (J' := j_X12_signs) (As := [.int v1514, .int v1519]) (st := [.int v1506]) (B' := b_X12_signs) (u' := u) (w' := w) dL_law_1520 ml_L_207 mv_X12_signs (fun v9 M9 e9 => c_X12_signs e9) rfl (by decide) rfl rfl (by show _ ≤ 600000; omega) (by show _ ≤ 7302249; omega) (by simp [rf_cat, cat_i, cat_l, cat_r]) rfl h (fun v1520 M1520 h => ?_)
  refine wt_icmp_eq (pc := 1523) (tgt := 1702) dL_law_1523 (by decide) (fun q => ?_) (fun q => ?_)
  · have h := ite_t q h
    refine wt_room (u' := u + 2) (w' := w + 8) (by omega) (by omega) ?_
    exact t_L_law_1702 hX he hub hwb hk18 h
  · have h := ite_f q h
    refine wt_iconst (pc := 1526) (v := 0) dL_law_1526 (by decide) ?_
    cases h
    exact he 1527 _ _ _ dL_law_1527 (by show _ ≤ 600000; omega) (by show _ ≤ 7302249; omega)
set_option maxHeartbeats 4000000 in
set_option maxRecDepth 100000 in
theorem t_L_law_1528 {G : GG} {X : CX} {L b : Nat} {xs : Nat → Int32} (hX : hXs G X b L xs) {ans : Int32 × Mm} (he : EndI G X j_L_law b_L_law ans) {k18 : Mm → Option Nat → Option Nat → Int32 → Option (Int32 × Mm)} {u w : Nat} (hub : u + 2 ≤ 600000) (hwb : w + 8 ≤ 7302249) (hk18 : ∀ (M : Mm) (l1 : Option Nat) (l2 : Option Nat) (l3 : Int32), k18 M l1 l2 l3 = some ans → Wt G X j_L_law b_L_law 18 [(0, .ref b), (1, rf G.1 l1), (2, rf G.1 l2), (3, .int l3)] [] M (u + 2) (w + 8)) {M : Mm} {l1 : Option Nat} {l2 : Option Nat} {l3 : Int32} (h : f_L_law_1528 L xs k18 M l1 l2 l3 = some ans) : Wt G X j_L_law b_L_law 1528 [(0, .ref b), (1, rf G.1 l1), (2, rf G.1 l2), (3, .int l3)] [] M (u) (w) := by
  unfold f_L_law_1528 at h
  refine wt_aload_n (pc := 1528) 1 dL_law_1528 rfl ?_
  refine wt_xload_n (pc := 1529) 0 dL_law_1529 rfl ?_
  refine wt_iload_n (pc := 1530) 3 dL_law_1530 rfl ?_
  refine wt_iconst (pc := 1531) (v := 1) dL_law_1531 (by decide) ?_
  refine wt_iadd (pc := 1532) dL_law_1532 ?_
  refine wt_slI (pc := 1533) hX dL_law_1533 h (fun v1533 h => ?_)
  refine wt_cVI (pc := 1534) (J' := j_X11_flown) (As := [.int v1533]) (st := []) (B' := b_X11_flown) (u' := u) (w' := w) dL_law_1534 ml_L_208 mv_X11_flown (fun v9 M9 e9 => c_X11_flown e9) rfl (by decide) rfl rfl (by show _ ≤ 600000; omega) (by show _ ≤ 7302249; omega) (by decide) rfl h (fun v1534 M1534 h => ?_)
  refine wt_aload_n (pc := 1537) 2 dL_law_1537 rfl ?_
  refine wt_xload_n (pc := 1538) 0 dL_law_1538 rfl ?_
  refine wt_iload_n (pc := 1539) 3 dL_law_1539 rfl ?_
  refine wt_iconst (pc := 1540) (v := 1) dL_law_1540 (by decide) ?_
  refine wt_iadd (pc := 1541) dL_law_1541 ?_
  refine wt_slI (pc := 1542) hX dL_law_1542 h (fun v1542 h => ?_)
  refine wt_cVI (pc := 1543) (J' := j_X12_flown) (As := [.int v1542]) (st := [.int v1534]) (B' := b_X12_flown) (u' := u) (w' := w) dL_law_1543 ml_L_211 mv_X12_flown (fun v9 M9 e9 => c_X12_flown e9) rfl (by decide) rfl rfl (by show _ ≤ 600000; omega) (by show _ ≤ 7302249; omega) (by simp [rf_cat, cat_i, cat_l, cat_r]) rfl h (fun v1543 M1543 h => ?_)
  refine wt_icmp_eq (pc := 1546) (tgt := 1702) dL_law_1546 (by decide) (fun q => ?_) (fun q => ?_)
  · have h := ite_t q h
    refine wt_room (u' := u + 2) (w' := w + 8) (by omega) (by omega) ?_
    exact t_L_law_1702 hX he hub hwb hk18 h
  · have h := ite_f q h
    refine wt_iconst (pc := 1549) (v := 0) dL_law_1549 (by decide) ?_
    cases h
    exact he 1550 _ _ _ dL_law_1550 (by show _ ≤ 600000; omega) (by show _ ≤ 7302249; omega)
set_option maxHeartbeats 4000000 in
set_option maxRecDepth 100000 in
theorem t_L_law_1551 {G : GG} {X : CX} {L b : Nat} {xs : Nat → Int32} (hX : hXs G X b L xs) {ans : Int32 × Mm} (he : EndI G X j_L_law b_L_law ans) {k18 : Mm → Option Nat → Option Nat → Int32 → Option (Int32 × Mm)} {u w : Nat} (hub : u + 2 ≤ 600000) (hwb : w + 8 ≤ 7302249) (hk18 : ∀ (M : Mm) (l1 : Option Nat) (l2 : Option Nat) (l3 : Int32), k18 M l1 l2 l3 = some ans → Wt G X j_L_law b_L_law 18 [(0, .ref b), (1, rf G.1 l1), (2, rf G.1 l2), (3, .int l3)] [] M (u + 2) (w + 8)) {M : Mm} {l1 : Option Nat} {l2 : Option Nat} {l3 : Int32} (h : f_L_law_1551 L xs k18 M l1 l2 l3 = some ans) : Wt G X j_L_law b_L_law 1551 [(0, .ref b), (1, rf G.1 l1), (2, rf G.1 l2), (3, .int l3)] [] M (u) (w) := by
  unfold f_L_law_1551 at h
  refine wt_aload_n (pc := 1551) 1 dL_law_1551 rfl ?_
  refine wt_xload_n (pc := 1552) 0 dL_law_1552 rfl ?_
  refine wt_iload_n (pc := 1553) 3 dL_law_1553 rfl ?_
  refine wt_iconst (pc := 1554) (v := 1) dL_law_1554 (by decide) ?_
  refine wt_iadd (pc := 1555) dL_law_1555 ?_
  refine wt_slI (pc := 1556) hX dL_law_1556 h (fun v1556 h => ?_)
  refine wt_cVI (pc := 1557) (J' := j_X11_likeliest) (As := [.int v1556]) (st := []) (B' := b_X11_likeliest) (u' := u) (w' := w) dL_law_1557 ml_L_212 mv_X11_likeliest (fun v9 M9 e9 => c_X11_likeliest e9) rfl (by decide) rfl rfl (by show _ ≤ 600000; omega) (by show _ ≤ 7302249; omega) (by decide) rfl h (fun v1557 M1557 h => ?_)
  refine wt_aload_n (pc := 1560) 2 dL_law_1560 rfl ?_
  refine wt_xload_n (pc := 1561) 0 dL_law_1561 rfl ?_
  refine wt_iload_n (pc := 1562) 3 dL_law_1562 rfl ?_
  refine wt_iconst (pc := 1563) (v := 1) dL_law_1563 (by decide) ?_
  refine wt_iadd (pc := 1564) dL_law_1564 ?_
  refine wt_slI (pc := 1565) hX dL_law_1565 h (fun v1565 h => ?_)
  refine wt_cVI (pc := 1566) (J' := j_X12_likeliest) (As := [.int v1565]) (st := [.int v1557]) (B' := b_X12_likeliest) (u' := u) (w' := w) dL_law_1566 ml_L_215 mv_X12_likeliest (fun v9 M9 e9 => c_X12_likeliest e9) rfl (by decide) rfl rfl (by show _ ≤ 600000; omega) (by show _ ≤ 7302249; omega) (by simp [rf_cat, cat_i, cat_l, cat_r]) rfl h (fun v1566 M1566 h => ?_)
  refine wt_icmp_eq (pc := 1569) (tgt := 1702) dL_law_1569 (by decide) (fun q => ?_) (fun q => ?_)
  · have h := ite_t q h
    refine wt_room (u' := u + 2) (w' := w + 8) (by omega) (by omega) ?_
    exact t_L_law_1702 hX he hub hwb hk18 h
  · have h := ite_f q h
    refine wt_iconst (pc := 1572) (v := 0) dL_law_1572 (by decide) ?_
    cases h
    exact he 1573 _ _ _ dL_law_1573 (by show _ ≤ 600000; omega) (by show _ ≤ 7302249; omega)
set_option maxHeartbeats 4000000 in
set_option maxRecDepth 100000 in
theorem t_L_law_1574 {G : GG} {X : CX} {L b : Nat} {xs : Nat → Int32} (hX : hXs G X b L xs) {ans : Int32 × Mm} (he : EndI G X j_L_law b_L_law ans) {k18 : Mm → Option Nat → Option Nat → Int32 → Option (Int32 × Mm)} {u w : Nat} (hub : u + 2 ≤ 600000) (hwb : w + 8 ≤ 7302249) (hk18 : ∀ (M : Mm) (l1 : Option Nat) (l2 : Option Nat) (l3 : Int32), k18 M l1 l2 l3 = some ans → Wt G X j_L_law b_L_law 18 [(0, .ref b), (1, rf G.1 l1), (2, rf G.1 l2), (3, .int l3)] [] M (u + 2) (w + 8)) {M : Mm} {l1 : Option Nat} {l2 : Option Nat} {l3 : Int32} (h : f_L_law_1574 L xs k18 M l1 l2 l3 = some ans) : Wt G X j_L_law b_L_law 1574 [(0, .ref b), (1, rf G.1 l1), (2, rf G.1 l2), (3, .int l3)] [] M (u) (w) := by
  unfold f_L_law_1574 at h
  refine wt_aload_n (pc := 1574) 1 dL_law_1574 rfl ?_
  refine wt_xload_n (pc := 1575) 0 dL_law_1575 rfl ?_
  refine wt_iload_n (pc := 1576) 3 dL_law_1576 rfl ?_
  refine wt_iconst (pc := 1577) (v := 1) dL_law_1577 (by decide) ?_
  refine wt_iadd (pc := 1578) dL_law_1578 ?_
  refine wt_slI (pc := 1579) hX dL_law_1579 h (fun v1579 h => ?_)
  refine wt_cVI (pc := 1580) (J' := j_X11_neighbour) (As := [.int v1579]) (st := []) (B' := b_X11_neighbour) (u' := u) (w' := w) dL_law_1580 ml_L_216 mv_X11_neighbour (fun v9 M9 e9 => c_X11_neighbour e9) rfl (by decide) rfl rfl (by show _ ≤ 600000; omega) (by show _ ≤ 7302249; omega) (by decide) rfl h (fun v1580 M1580 h => ?_)
  refine wt_aload_n (pc := 1583) 2 dL_law_1583 rfl ?_
  refine wt_xload_n (pc := 1584) 0 dL_law_1584 rfl ?_
  refine wt_iload_n (pc := 1585) 3 dL_law_1585 rfl ?_
  refine wt_iconst (pc := 1586) (v := 1) dL_law_1586 (by decide) ?_
  refine wt_iadd (pc := 1587) dL_law_1587 ?_
  refine wt_slI (pc := 1588) hX dL_law_1588 h (fun v1588 h => ?_)
  refine wt_cVI (pc := 1589) (J' := j_X12_neighbour) (As := [.int v1588]) (st := [.int v1580]) (B' := b_X12_neighbour) (u' := u) (w' := w) dL_law_1589 ml_L_219 mv_X12_neighbour (fun v9 M9 e9 => c_X12_neighbour e9) rfl (by decide) rfl rfl (by show _ ≤ 600000; omega) (by show _ ≤ 7302249; omega) (by simp [rf_cat, cat_i, cat_l, cat_r]) rfl h (fun v1589 M1589 h => ?_)
  refine wt_icmp_eq (pc := 1592) (tgt := 1702) dL_law_1592 (by decide) (fun q => ?_) (fun q => ?_)
  · have h := ite_t q h
    refine wt_room (u' := u + 2) (w' := w + 8) (by omega) (by omega) ?_
    exact t_L_law_1702 hX he hub hwb hk18 h
  · have h := ite_f q h
    refine wt_iconst (pc := 1595) (v := 0) dL_law_1595 (by decide) ?_
    cases h
    exact he 1596 _ _ _ dL_law_1596 (by show _ ≤ 600000; omega) (by show _ ≤ 7302249; omega)
set_option maxHeartbeats 4000000 in
set_option maxRecDepth 100000 in
theorem t_L_law_1597 {G : GG} {X : CX} {L b : Nat} {xs : Nat → Int32} (hX : hXs G X b L xs) {ans : Int32 × Mm} (he : EndI G X j_L_law b_L_law ans) {k18 : Mm → Option Nat → Option Nat → Int32 → Option (Int32 × Mm)} {u w : Nat} (hub : u + 2 ≤ 600000) (hwb : w + 8 ≤ 7302249) (hk18 : ∀ (M : Mm) (l1 : Option Nat) (l2 : Option Nat) (l3 : Int32), k18 M l1 l2 l3 = some ans → Wt G X j_L_law b_L_law 18 [(0, .ref b), (1, rf G.1 l1), (2, rf G.1 l2), (3, .int l3)] [] M (u + 2) (w + 8)) {M : Mm} {l1 : Option Nat} {l2 : Option Nat} {l3 : Int32} (h : f_L_law_1597 L xs k18 M l1 l2 l3 = some ans) : Wt G X j_L_law b_L_law 1597 [(0, .ref b), (1, rf G.1 l1), (2, rf G.1 l2), (3, .int l3)] [] M (u) (w) := by
  unfold f_L_law_1597 at h
  refine wt_aload_n (pc := 1597) 1 dL_law_1597 rfl ?_
  refine wt_xload_n (pc := 1598) 0 dL_law_1598 rfl ?_
  refine wt_iload_n (pc := 1599) 3 dL_law_1599 rfl ?_
  refine wt_iconst (pc := 1600) (v := 1) dL_law_1600 (by decide) ?_
  refine wt_iadd (pc := 1601) dL_law_1601 ?_
  refine wt_slI (pc := 1602) hX dL_law_1602 h (fun v1602 h => ?_)
  refine wt_cVI (pc := 1603) (J' := j_X11_live) (As := [.int v1602]) (st := []) (B' := b_X11_live) (u' := u) (w' := w) dL_law_1603 ml_L_220 mv_X11_live (fun v9 M9 e9 => c_X11_live e9) rfl (by decide) rfl rfl (by show _ ≤ 600000; omega) (by show _ ≤ 7302249; omega) (by decide) rfl h (fun v1603 M1603 h => ?_)
  refine wt_aload_n (pc := 1606) 2 dL_law_1606 rfl ?_
  refine wt_xload_n (pc := 1607) 0 dL_law_1607 rfl ?_
  refine wt_iload_n (pc := 1608) 3 dL_law_1608 rfl ?_
  refine wt_iconst (pc := 1609) (v := 1) dL_law_1609 (by decide) ?_
  refine wt_iadd (pc := 1610) dL_law_1610 ?_
  refine wt_slI (pc := 1611) hX dL_law_1611 h (fun v1611 h => ?_)
  refine wt_cVI (pc := 1612) (J' := j_X12_live) (As := [.int v1611]) (st := [.int v1603]) (B' := b_X12_live) (u' := u) (w' := w) dL_law_1612 ml_L_223 mv_X12_live (fun v9 M9 e9 => c_X12_live e9) rfl (by decide) rfl rfl (by show _ ≤ 600000; omega) (by show _ ≤ 7302249; omega) (by simp [rf_cat, cat_i, cat_l, cat_r]) rfl h (fun v1612 M1612 h => ?_)
  refine wt_icmp_eq (pc := 1615) (tgt := 1702) dL_law_1615 (by decide) (fun q => ?_) (fun q => ?_)
  · have h := ite_t q h
    refine wt_room (u' := u + 2) (w' := w + 8) (by omega) (by omega) ?_
    exact t_L_law_1702 hX he hub hwb hk18 h
  · have h := ite_f q h
    refine wt_iconst (pc := 1618) (v := 0) dL_law_1618 (by decide) ?_
    cases h
    exact he 1619 _ _ _ dL_law_1619 (by show _ ≤ 600000; omega) (by show _ ≤ 7302249; omega)
set_option maxHeartbeats 4000000 in
set_option maxRecDepth 100000 in
theorem t_L_law_1620 {G : GG} {X : CX} {L b : Nat} {xs : Nat → Int32} (hX : hXs G X b L xs) {ans : Int32 × Mm} (he : EndI G X j_L_law b_L_law ans) {k18 : Mm → Option Nat → Option Nat → Int32 → Option (Int32 × Mm)} {u w : Nat} (hub : u + 2 ≤ 600000) (hwb : w + 8 ≤ 7302249) (hk18 : ∀ (M : Mm) (l1 : Option Nat) (l2 : Option Nat) (l3 : Int32), k18 M l1 l2 l3 = some ans → Wt G X j_L_law b_L_law 18 [(0, .ref b), (1, rf G.1 l1), (2, rf G.1 l2), (3, .int l3)] [] M (u + 2) (w + 8)) {M : Mm} {l1 : Option Nat} {l2 : Option Nat} {l3 : Int32} (h : f_L_law_1620 L xs k18 M l1 l2 l3 = some ans) : Wt G X j_L_law b_L_law 1620 [(0, .ref b), (1, rf G.1 l1), (2, rf G.1 l2), (3, .int l3)] [] M (u) (w) := by
  unfold f_L_law_1620 at h
  refine wt_aload_n (pc := 1620) 1 dL_law_1620 rfl ?_
  refine wt_xload_n (pc := 1621) 0 dL_law_1621 rfl ?_
  refine wt_iload_n (pc := 1622) 3 dL_law_1622 rfl ?_
  refine wt_iconst (pc := 1623) (v := 1) dL_law_1623 (by decide) ?_
  refine wt_iadd (pc := 1624) dL_law_1624 ?_
  refine wt_slI (pc := 1625) hX dL_law_1625 h (fun v1625 h => ?_)
  refine wt_cVI (pc := 1626) (J' := j_X11_lived) (As := [.int v1625]) (st := []) (B' := b_X11_lived) (u' := u) (w' := w) dL_law_1626 ml_L_224 mv_X11_lived (fun v9 M9 e9 => c_X11_lived e9) rfl (by decide) rfl rfl (by show _ ≤ 600000; omega) (by show _ ≤ 7302249; omega) (by decide) rfl h (fun v1626 M1626 h => ?_)
  refine wt_aload_n (pc := 1629) 2 dL_law_1629 rfl ?_
  refine wt_xload_n (pc := 1630) 0 dL_law_1630 rfl ?_
  refine wt_iload_n (pc := 1631) 3 dL_law_1631 rfl ?_
  refine wt_iconst (pc := 1632) (v := 1) dL_law_1632 (by decide) ?_
  refine wt_iadd (pc := 1633) dL_law_1633 ?_
  refine wt_slI (pc := 1634) hX dL_law_1634 h (fun v1634 h => ?_)
  refine wt_cVI (pc := 1635) (J' := j_X12_lived) (As := [.int v1634]) (st := [.int v1626]) (B' := b_X12_lived) (u' := u) (w' := w) dL_law_1635 ml_L_227 mv_X12_lived (fun v9 M9 e9 => c_X12_lived e9) rfl (by decide) rfl rfl (by show _ ≤ 600000; omega) (by show _ ≤ 7302249; omega) (by simp [rf_cat, cat_i, cat_l, cat_r]) rfl h (fun v1635 M1635 h => ?_)
  refine wt_icmp_eq (pc := 1638) (tgt := 1702) dL_law_1638 (by decide) (fun q => ?_) (fun q => ?_)
  · have h := ite_t q h
    refine wt_room (u' := u + 2) (w' := w + 8) (by omega) (by omega) ?_
    exact t_L_law_1702 hX he hub hwb hk18 h
  · have h := ite_f q h
    refine wt_iconst (pc := 1641) (v := 0) dL_law_1641 (by decide) ?_
    cases h
    exact he 1642 _ _ _ dL_law_1642 (by show _ ≤ 600000; omega) (by show _ ≤ 7302249; omega)
set_option maxHeartbeats 4000000 in
set_option maxRecDepth 100000 in
theorem t_L_law_1643 {G : GG} {X : CX} {L b : Nat} {xs : Nat → Int32} (hX : hXs G X b L xs) {ans : Int32 × Mm} (he : EndI G X j_L_law b_L_law ans) {k18 : Mm → Option Nat → Option Nat → Int32 → Option (Int32 × Mm)} {u w : Nat} (hub : u + 2 ≤ 600000) (hwb : w + 8 ≤ 7302249) (hk18 : ∀ (M : Mm) (l1 : Option Nat) (l2 : Option Nat) (l3 : Int32), k18 M l1 l2 l3 = some ans → Wt G X j_L_law b_L_law 18 [(0, .ref b), (1, rf G.1 l1), (2, rf G.1 l2), (3, .int l3)] [] M (u + 2) (w + 8)) {M : Mm} {l1 : Option Nat} {l2 : Option Nat} {l3 : Int32} (h : f_L_law_1643 L xs k18 M l1 l2 l3 = some ans) : Wt G X j_L_law b_L_law 1643 [(0, .ref b), (1, rf G.1 l1), (2, rf G.1 l2), (3, .int l3)] [] M (u) (w) := by
  unfold f_L_law_1643 at h
  refine wt_aload_n (pc := 1643) 1 dL_law_1643 rfl ?_
  refine wt_xload_n (pc := 1644) 0 dL_law_1644 rfl ?_
  refine wt_iload_n (pc := 1645) 3 dL_law_1645 rfl ?_
  refine wt_iconst (pc := 1646) (v := 1) dL_law_1646 (by decide) ?_
  refine wt_iadd (pc := 1647) dL_law_1647 ?_
  refine wt_slI (pc := 1648) hX dL_law_1648 h (fun v1648 h => ?_)
  refine wt_xload_n (pc := 1649) 0 dL_law_1649 rfl ?_
  refine wt_iload_n (pc := 1650) 3 dL_law_1650 rfl ?_
  refine wt_iconst (pc := 1651) (v := 2) dL_law_1651 (by decide) ?_
  refine wt_iadd (pc := 1652) dL_law_1652 ?_
  refine wt_slI (pc := 1653) hX dL_law_1653 h (fun v1653 h => ?_)
  refine wt_cVI (pc := 1654) (J' := j_X11_mean) (As := [.int v1648, .int v1653]) (st := []) (B' := b_X11_mean) (u' := u) (w' := w) dL_law_1654 ml_L_228 mv_X11_mean (fun v9 M9 e9 => c_X11_mean e9) rfl (by decide) rfl rfl (by show _ ≤ 600000; omega) (by show _ ≤ 7302249; omega) (by decide) rfl h (fun v1654 M1654 h => ?_)
  refine wt_aload_n (pc := 1657) 2 dL_law_1657 rfl ?_
  refine wt_xload_n (pc := 1658) 0 dL_law_1658 rfl ?_
  refine wt_iload_n (pc := 1659) 3 dL_law_1659 rfl ?_
  refine wt_iconst (pc := 1660) (v := 1) dL_law_1660 (by decide) ?_
  refine wt_iadd (pc := 1661) dL_law_1661 ?_
  refine wt_slI (pc := 1662) hX dL_law_1662 h (fun v1662 h => ?_)
  refine wt_xload_n (pc := 1663) 0 dL_law_1663 rfl ?_
  refine wt_iload_n (pc := 1664) 3 dL_law_1664 rfl ?_
  refine wt_iconst (pc := 1665) (v := 2) dL_law_1665 (by decide) ?_
  refine wt_iadd (pc := 1666) dL_law_1666 ?_
  refine wt_slI (pc := 1667) hX dL_law_1667 h (fun v1667 h => ?_)
  refine wt_cVI (pc := 1668) (J' := j_X12_mean) (As := [.int v1662, .int v1667]) (st := [.int v1654]) (B' := b_X12_mean) (u' := u) (w' := w) dL_law_1668 ml_L_231 mv_X12_mean (fun v9 M9 e9 => c_X12_mean e9) rfl (by decide) rfl rfl (by show _ ≤ 600000; omega) (by show _ ≤ 7302249; omega) (by simp [rf_cat, cat_i, cat_l, cat_r]) rfl h (fun v1668 M1668 h => ?_)
  refine wt_icmp_eq (pc := 1671) (tgt := 1702) dL_law_1671 (by decide) (fun q => ?_) (fun q => ?_)
  · have h := ite_t q h
    refine wt_room (u' := u + 2) (w' := w + 8) (by omega) (by omega) ?_
    exact t_L_law_1702 hX he hub hwb hk18 h
  · have h := ite_f q h
    refine wt_iconst (pc := 1674) (v := 0) dL_law_1674 (by decide) ?_
    cases h
    exact he 1675 _ _ _ dL_law_1675 (by show _ ≤ 600000; omega) (by show _ ≤ 7302249; omega)
set_option maxHeartbeats 4000000 in
set_option maxRecDepth 100000 in
theorem t_L_law_1676 {G : GG} {X : CX} {L b : Nat} {xs : Nat → Int32} (hX : hXs G X b L xs) {ans : Int32 × Mm} (he : EndI G X j_L_law b_L_law ans) {k18 : Mm → Option Nat → Option Nat → Int32 → Option (Int32 × Mm)} {u w : Nat} (hub : u + 2 ≤ 600000) (hwb : w + 8 ≤ 7302249) (hk18 : ∀ (M : Mm) (l1 : Option Nat) (l2 : Option Nat) (l3 : Int32), k18 M l1 l2 l3 = some ans → Wt G X j_L_law b_L_law 18 [(0, .ref b), (1, rf G.1 l1), (2, rf G.1 l2), (3, .int l3)] [] M (u + 2) (w + 8)) {M : Mm} {l1 : Option Nat} {l2 : Option Nat} {l3 : Int32} (h : f_L_law_1676 L xs k18 M l1 l2 l3 = some ans) : Wt G X j_L_law b_L_law 1676 [(0, .ref b), (1, rf G.1 l1), (2, rf G.1 l2), (3, .int l3)] [] M (u) (w) := by
  unfold f_L_law_1676 at h
  refine wt_aload_n (pc := 1676) 1 dL_law_1676 rfl ?_
  refine wt_cVI (pc := 1677) (J' := j_X11_mark) (As := []) (st := []) (B' := b_X11_mark) (u' := u) (w' := w) dL_law_1677 ml_L_232 mv_X11_mark (fun v9 M9 e9 => c_X11_mark e9) rfl (by decide) rfl rfl (by show _ ≤ 600000; omega) (by show _ ≤ 7302249; omega) (by decide) rfl h (fun v1677 M1677 h => ?_)
  refine wt_aload_n (pc := 1680) 2 dL_law_1680 rfl ?_
  refine wt_cVI (pc := 1681) (J' := j_X12_mark) (As := []) (st := [.int v1677]) (B' := b_X12_mark) (u' := u) (w' := w) dL_law_1681 ml_L_235 mv_X12_mark (fun v9 M9 e9 => c_X12_mark e9) rfl (by decide) rfl rfl (by show _ ≤ 600000; omega) (by show _ ≤ 7302249; omega) (by simp [rf_cat, cat_i, cat_l, cat_r]) rfl h (fun v1681 M1681 h => ?_)
  refine wt_icmp_eq (pc := 1684) (tgt := 1702) dL_law_1684 (by decide) (fun q => ?_) (fun q => ?_)
  · have h := ite_t q h
    refine wt_room (u' := u + 2) (w' := w + 8) (by omega) (by omega) ?_
    exact t_L_law_1702 hX he hub hwb hk18 h
  · have h := ite_f q h
    refine wt_iconst (pc := 1687) (v := 0) dL_law_1687 (by decide) ?_
    cases h
    exact he 1688 _ _ _ dL_law_1688 (by show _ ≤ 600000; omega) (by show _ ≤ 7302249; omega)
set_option maxHeartbeats 4000000 in
set_option maxRecDepth 100000 in
theorem t_L_law_1689 {G : GG} {X : CX} {L b : Nat} {xs : Nat → Int32} (hX : hXs G X b L xs) {ans : Int32 × Mm} (he : EndI G X j_L_law b_L_law ans) {k18 : Mm → Option Nat → Option Nat → Int32 → Option (Int32 × Mm)} {u w : Nat} (hub : u + 2 ≤ 600000) (hwb : w + 8 ≤ 7302249) (hk18 : ∀ (M : Mm) (l1 : Option Nat) (l2 : Option Nat) (l3 : Int32), k18 M l1 l2 l3 = some ans → Wt G X j_L_law b_L_law 18 [(0, .ref b), (1, rf G.1 l1), (2, rf G.1 l2), (3, .int l3)] [] M (u + 2) (w + 8)) {M : Mm} {l1 : Option Nat} {l2 : Option Nat} {l3 : Int32} (h : f_L_law_1689 L xs k18 M l1 l2 l3 = some ans) : Wt G X j_L_law b_L_law 1689 [(0, .ref b), (1, rf G.1 l1), (2, rf G.1 l2), (3, .int l3)] [] M (u) (w) := by
  unfold f_L_law_1689 at h
  refine wt_aload_n (pc := 1689) 1 dL_law_1689 rfl ?_
  refine wt_cVI (pc := 1690) (J' := j_X11_back) (As := []) (st := []) (B' := b_X11_back) (u' := u) (w' := w) dL_law_1690 ml_L_236 mv_X11_back (fun v9 M9 e9 => c_X11_back e9) rfl (by decide) rfl rfl (by show _ ≤ 600000; omega) (by show _ ≤ 7302249; omega) (by decide) rfl h (fun v1690 M1690 h => ?_)
  refine wt_aload_n (pc := 1693) 2 dL_law_1693 rfl ?_
  refine wt_cVI (pc := 1694) (J' := j_X12_back) (As := []) (st := [.int v1690]) (B' := b_X12_back) (u' := u) (w' := w) dL_law_1694 ml_L_239 mv_X12_back (fun v9 M9 e9 => c_X12_back e9) rfl (by decide) rfl rfl (by show _ ≤ 600000; omega) (by show _ ≤ 7302249; omega) (by simp [rf_cat, cat_i, cat_l, cat_r]) rfl h (fun v1694 M1694 h => ?_)
  refine wt_icmp_eq (pc := 1697) (tgt := 1702) dL_law_1697 (by decide) (fun q => ?_) (fun q => ?_)
  · have h := ite_t q h
    refine wt_room (u' := u + 2) (w' := w + 8) (by omega) (by omega) ?_
    exact t_L_law_1702 hX he hub hwb hk18 h
  · have h := ite_f q h
    refine wt_iconst (pc := 1700) (v := 0) dL_law_1700 (by decide) ?_
    cases h
    exact he 1701 _ _ _ dL_law_1701 (by show _ ≤ 600000; omega) (by show _ ≤ 7302249; omega)
set_option maxHeartbeats 4000000 in
set_option maxRecDepth 100000 in
theorem t_L_law_18g {G : GG} {X : CX} {L b : Nat} {xs : Nat → Int32} (hX : hXs G X b L xs) {ans : Int32 × Mm} (he : EndI G X j_L_law b_L_law ans) {k18 : Mm → Option Nat → Option Nat → Int32 → Option (Int32 × Mm)} {u w : Nat} (hub : u + 2 ≤ 600000) (hwb : w + 8 ≤ 7302249) (hk18 : ∀ (M : Mm) (l1 : Option Nat) (l2 : Option Nat) (l3 : Int32), k18 M l1 l2 l3 = some ans → Wt G X j_L_law b_L_law 18 [(0, .ref b), (1, rf G.1 l1), (2, rf G.1 l2), (3, .int l3)] [] M (u + 2) (w + 8)) {M : Mm} {l1 : Option Nat} {l2 : Option Nat} {l3 : Int32} (h : g_L_law_18 L xs k18 M l1 l2 l3 = some ans) : Wt G X j_L_law b_L_law 18 [(0, .ref b), (1, rf G.1 l1), (2, rf G.1 l2), (3, .int l3)] [] M (u) (w) := by
  unfold g_L_law_18 at h
  refine wt_iload_n (pc := 18) 3 dL_law_18 rfl ?_
  refine wt_xload_n (pc := 19) 0 dL_law_19 rfl ?_
  refine wt_slen (pc := 20) hX dL_law_20 ?_
  refine wt_bipush (pc := 21) (v := 6) dL_law_21 (by decide) ?_
  refine wt_isub (pc := 23) dL_law_23 ?_
  refine wt_icmp_gt (pc := 24) (tgt := 1708) dL_law_24 (by decide) (fun q => ?_) (fun q => ?_)
  · have h := ite_t q h
    refine wt_iconst (pc := 1708) (v := 1) dL_law_1708 (by decide) ?_
    cases h
    exact he 1709 _ _ _ dL_law_1709 (by show _ ≤ 600000; omega) (by show _ ≤ 7302249; omega)
  · have h := ite_f q h
    refine wt_xload_n (pc := 27) 0 dL_law_27 rfl ?_
    refine wt_iload_n (pc := 28) 3 dL_law_28 rfl ?_
    refine wt_slI (pc := 29) hX dL_law_29 h (fun v29 h => ?_)
    refine wt_bipush (pc := 30) (v := 63) dL_law_30 (by decide) ?_
    refine wt_iand (pc := 32) dL_law_32 ?_
    rcases Decidable.em ((v29 &&& 63) = 0) with q33_0 | q33_0
    · have h := ite_t q33_0 h
      refine wt_tableIn (pc := 33) (off := 227) (tgt := 260) q33_0 dL_law_33 (by decide) (by decide) (by decide) (by decide) ?_
      exact t_L_law_260 hX he hub hwb hk18 h
    have h := ite_f q33_0 h
    rcases Decidable.em ((v29 &&& 63) = 1) with q33_1 | q33_1
    · have h := ite_t q33_1 h
      refine wt_tableIn (pc := 33) (off := 240) (tgt := 273) q33_1 dL_law_33 (by decide) (by decide) (by decide) (by decide) ?_
      exact t_L_law_273 hX he hub hwb hk18 h
    have h := ite_f q33_1 h
    rcases Decidable.em ((v29 &&& 63) = 2) with q33_2 | q33_2
    · have h := ite_t q33_2 h
      refine wt_tableIn (pc := 33) (off := 254) (tgt := 287) q33_2 dL_law_33 (by decide) (by decide) (by decide) (by decide) ?_
      exact t_L_law_287 hX he hub hwb hk18 h
    have h := ite_f q33_2 h
    rcases Decidable.em ((v29 &&& 63) = 3) with q33_3 | q33_3
    · have h := ite_t q33_3 h
      refine wt_tableIn (pc := 33) (off := 268) (tgt := 301) q33_3 dL_law_33 (by decide) (by decide) (by decide) (by decide) ?_
      exact t_L_law_301 hX he hub hwb hk18 h
    have h := ite_f q33_3 h
    rcases Decidable.em ((v29 &&& 63) = 4) with q33_4 | q33_4
    · have h := ite_t q33_4 h
      refine wt_tableIn (pc := 33) (off := 311) (tgt := 344) q33_4 dL_law_33 (by decide) (by decide) (by decide) (by decide) ?_
      exact t_L_law_344 hX he hub hwb hk18 h
    have h := ite_f q33_4 h
    rcases Decidable.em ((v29 &&& 63) = 5) with q33_5 | q33_5
    · have h := ite_t q33_5 h
      refine wt_tableIn (pc := 33) (off := 384) (tgt := 417) q33_5 dL_law_33 (by decide) (by decide) (by decide) (by decide) ?_
      exact t_L_law_417 hX he hub hwb hk18 h
    have h := ite_f q33_5 h
    rcases Decidable.em ((v29 &&& 63) = 6) with q33_6 | q33_6
    · have h := ite_t q33_6 h
      refine wt_tableIn (pc := 33) (off := 418) (tgt := 451) q33_6 dL_law_33 (by decide) (by decide) (by decide) (by decide) ?_
      exact t_L_law_451 hX he hub hwb hk18 h
    have h := ite_f q33_6 h
    rcases Decidable.em ((v29 &&& 63) = 7) with q33_7 | q33_7
    · have h := ite_t q33_7 h
      refine wt_tableIn (pc := 33) (off := 481) (tgt := 514) q33_7 dL_law_33 (by decide) (by decide) (by decide) (by decide) ?_
      exact t_L_law_514 hX he hub hwb hk18 h
    have h := ite_f q33_7 h
    rcases Decidable.em ((v29 &&& 63) = 8) with q33_8 | q33_8
    · have h := ite_t q33_8 h
      refine wt_tableIn (pc := 33) (off := 544) (tgt := 577) q33_8 dL_law_33 (by decide) (by decide) (by decide) (by decide) ?_
      exact t_L_law_577 hX he hub hwb hk18 h
    have h := ite_f q33_8 h
    rcases Decidable.em ((v29 &&& 63) = 9) with q33_9 | q33_9
    · have h := ite_t q33_9 h
      refine wt_tableIn (pc := 33) (off := 567) (tgt := 600) q33_9 dL_law_33 (by decide) (by decide) (by decide) (by decide) ?_
      exact t_L_law_600 hX he hub hwb hk18 h
    have h := ite_f q33_9 h
    rcases Decidable.em ((v29 &&& 63) = 10) with q33_10 | q33_10
    · have h := ite_t q33_10 h
      refine wt_tableIn (pc := 33) (off := 590) (tgt := 623) q33_10 dL_law_33 (by decide) (by decide) (by decide) (by decide) ?_
      exact t_L_law_623 hX he hub hwb hk18 h
    have h := ite_f q33_10 h
    rcases Decidable.em ((v29 &&& 63) = 11) with q33_11 | q33_11
    · have h := ite_t q33_11 h
      refine wt_tableIn (pc := 33) (off := 613) (tgt := 646) q33_11 dL_law_33 (by decide) (by decide) (by decide) (by decide) ?_
      exact t_L_law_646 hX he hub hwb hk18 h
    have h := ite_f q33_11 h
    rcases Decidable.em ((v29 &&& 63) = 12) with q33_12 | q33_12
    · have h := ite_t q33_12 h
      refine wt_tableIn (pc := 33) (off := 636) (tgt := 669) q33_12 dL_law_33 (by decide) (by decide) (by decide) (by decide) ?_
      exact t_L_law_669 hX he hub hwb hk18 h
    have h := ite_f q33_12 h
    rcases Decidable.em ((v29 &&& 63) = 13) with q33_13 | q33_13
    · have h := ite_t q33_13 h
      refine wt_tableIn (pc := 33) (off := 669) (tgt := 702) q33_13 dL_law_33 (by decide) (by decide) (by decide) (by decide) ?_
      exact t_L_law_702 hX he hub hwb hk18 h
    have h := ite_f q33_13 h
    rcases Decidable.em ((v29 &&& 63) = 14) with q33_14 | q33_14
    · have h := ite_t q33_14 h
      refine wt_tableIn (pc := 33) (off := 702) (tgt := 735) q33_14 dL_law_33 (by decide) (by decide) (by decide) (by decide) ?_
      exact t_L_law_735 hX he hub hwb hk18 h
    have h := ite_f q33_14 h
    rcases Decidable.em ((v29 &&& 63) = 15) with q33_15 | q33_15
    · have h := ite_t q33_15 h
      refine wt_tableIn (pc := 33) (off := 735) (tgt := 768) q33_15 dL_law_33 (by decide) (by decide) (by decide) (by decide) ?_
      exact t_L_law_768 hX he hub hwb hk18 h
    have h := ite_f q33_15 h
    rcases Decidable.em ((v29 &&& 63) = 16) with q33_16 | q33_16
    · have h := ite_t q33_16 h
      refine wt_tableIn (pc := 33) (off := 768) (tgt := 801) q33_16 dL_law_33 (by decide) (by decide) (by decide) (by decide) ?_
      exact t_L_law_801 hX he hub hwb hk18 h
    have h := ite_f q33_16 h
    rcases Decidable.em ((v29 &&& 63) = 17) with q33_17 | q33_17
    · have h := ite_t q33_17 h
      refine wt_tableIn (pc := 33) (off := 801) (tgt := 834) q33_17 dL_law_33 (by decide) (by decide) (by decide) (by decide) ?_
      exact t_L_law_834 hX he hub hwb hk18 h
    have h := ite_f q33_17 h
    rcases Decidable.em ((v29 &&& 63) = 18) with q33_18 | q33_18
    · have h := ite_t q33_18 h
      refine wt_tableIn (pc := 33) (off := 834) (tgt := 867) q33_18 dL_law_33 (by decide) (by decide) (by decide) (by decide) ?_
      exact t_L_law_867 hX he hub hwb hk18 h
    have h := ite_f q33_18 h
    rcases Decidable.em ((v29 &&& 63) = 19) with q33_19 | q33_19
    · have h := ite_t q33_19 h
      refine wt_tableIn (pc := 33) (off := 857) (tgt := 890) q33_19 dL_law_33 (by decide) (by decide) (by decide) (by decide) ?_
      exact t_L_law_890 hX he hub hwb hk18 h
    have h := ite_f q33_19 h
    rcases Decidable.em ((v29 &&& 63) = 20) with q33_20 | q33_20
    · have h := ite_t q33_20 h
      refine wt_tableIn (pc := 33) (off := 890) (tgt := 923) q33_20 dL_law_33 (by decide) (by decide) (by decide) (by decide) ?_
      exact t_L_law_923 hX he hub hwb hk18 h
    have h := ite_f q33_20 h
    rcases Decidable.em ((v29 &&& 63) = 21) with q33_21 | q33_21
    · have h := ite_t q33_21 h
      refine wt_tableIn (pc := 33) (off := 913) (tgt := 946) q33_21 dL_law_33 (by decide) (by decide) (by decide) (by decide) ?_
      exact t_L_law_946 hX he hub hwb hk18 h
    have h := ite_f q33_21 h
    rcases Decidable.em ((v29 &&& 63) = 22) with q33_22 | q33_22
    · have h := ite_t q33_22 h
      refine wt_tableIn (pc := 33) (off := 936) (tgt := 969) q33_22 dL_law_33 (by decide) (by decide) (by decide) (by decide) ?_
      exact t_L_law_969 hX he hub hwb hk18 h
    have h := ite_f q33_22 h
    rcases Decidable.em ((v29 &&& 63) = 23) with q33_23 | q33_23
    · have h := ite_t q33_23 h
      refine wt_tableIn (pc := 33) (off := 959) (tgt := 992) q33_23 dL_law_33 (by decide) (by decide) (by decide) (by decide) ?_
      exact t_L_law_992 hX he hub hwb hk18 h
    have h := ite_f q33_23 h
    rcases Decidable.em ((v29 &&& 63) = 24) with q33_24 | q33_24
    · have h := ite_t q33_24 h
      refine wt_tableIn (pc := 33) (off := 972) (tgt := 1005) q33_24 dL_law_33 (by decide) (by decide) (by decide) (by decide) ?_
      exact t_L_law_1005 hX he hub hwb hk18 h
    have h := ite_f q33_24 h
    rcases Decidable.em ((v29 &&& 63) = 25) with q33_25 | q33_25
    · have h := ite_t q33_25 h
      refine wt_tableIn (pc := 33) (off := 1015) (tgt := 1048) q33_25 dL_law_33 (by decide) (by decide) (by decide) (by decide) ?_
      exact t_L_law_1048 hX he hub hwb hk18 h
    have h := ite_f q33_25 h
    rcases Decidable.em ((v29 &&& 63) = 26) with q33_26 | q33_26
    · have h := ite_t q33_26 h
      refine wt_tableIn (pc := 33) (off := 1038) (tgt := 1071) q33_26 dL_law_33 (by decide) (by decide) (by decide) (by decide) ?_
      exact t_L_law_1071 hX he hub hwb hk18 h
    have h := ite_f q33_26 h
    rcases Decidable.em ((v29 &&& 63) = 27) with q33_27 | q33_27
    · have h := ite_t q33_27 h
      refine wt_tableIn (pc := 33) (off := 1061) (tgt := 1094) q33_27 dL_law_33 (by decide) (by decide) (by decide) (by decide) ?_
      exact t_L_law_1094 hX he hub hwb hk18 h
    have h := ite_f q33_27 h
    rcases Decidable.em ((v29 &&& 63) = 28) with q33_28 | q33_28
    · have h := ite_t q33_28 h
      refine wt_tableIn (pc := 33) (off := 1074) (tgt := 1107) q33_28 dL_law_33 (by decide) (by decide) (by decide) (by decide) ?_
      exact t_L_law_1107 hX he hub hwb hk18 h
    have h := ite_f q33_28 h
    rcases Decidable.em ((v29 &&& 63) = 29) with q33_29 | q33_29
    · have h := ite_t q33_29 h
      refine wt_tableIn (pc := 33) (off := 1107) (tgt := 1140) q33_29 dL_law_33 (by decide) (by decide) (by decide) (by decide) ?_
      exact t_L_law_1140 hX he hub hwb hk18 h
    have h := ite_f q33_29 h
    rcases Decidable.em ((v29 &&& 63) = 30) with q33_30 | q33_30
    · have h := ite_t q33_30 h
      refine wt_tableIn (pc := 33) (off := 1120) (tgt := 1153) q33_30 dL_law_33 (by decide) (by decide) (by decide) (by decide) ?_
      exact t_L_law_1153 hX he hub hwb hk18 h
    have h := ite_f q33_30 h
    rcases Decidable.em ((v29 &&& 63) = 31) with q33_31 | q33_31
    · have h := ite_t q33_31 h
      refine wt_tableIn (pc := 33) (off := 1133) (tgt := 1166) q33_31 dL_law_33 (by decide) (by decide) (by decide) (by decide) ?_
      exact t_L_law_1166 hX he hub hwb hk18 h
    have h := ite_f q33_31 h
    rcases Decidable.em ((v29 &&& 63) = 32) with q33_32 | q33_32
    · have h := ite_t q33_32 h
      refine wt_tableIn (pc := 33) (off := 1166) (tgt := 1199) q33_32 dL_law_33 (by decide) (by decide) (by decide) (by decide) ?_
      exact t_L_law_1199 hX he hub hwb hk18 h
    have h := ite_f q33_32 h
    rcases Decidable.em ((v29 &&& 63) = 33) with q33_33 | q33_33
    · have h := ite_t q33_33 h
      refine wt_tableIn (pc := 33) (off := 1179) (tgt := 1212) q33_33 dL_law_33 (by decide) (by decide) (by decide) (by decide) ?_
      exact t_L_law_1212 hX he hub hwb hk18 h
    have h := ite_f q33_33 h
    rcases Decidable.em ((v29 &&& 63) = 34) with q33_34 | q33_34
    · have h := ite_t q33_34 h
      refine wt_tableIn (pc := 33) (off := 1212) (tgt := 1245) q33_34 dL_law_33 (by decide) (by decide) (by decide) (by decide) ?_
      exact t_L_law_1245 hX he hub hwb hk18 h
    have h := ite_f q33_34 h
    rcases Decidable.em ((v29 &&& 63) = 35) with q33_35 | q33_35
    · have h := ite_t q33_35 h
      refine wt_tableIn (pc := 33) (off := 1235) (tgt := 1268) q33_35 dL_law_33 (by decide) (by decide) (by decide) (by decide) ?_
      exact t_L_law_1268 hX he hub hwb hk18 h
    have h := ite_f q33_35 h
    rcases Decidable.em ((v29 &&& 63) = 36) with q33_36 | q33_36
    · have h := ite_t q33_36 h
      refine wt_tableIn (pc := 33) (off := 1258) (tgt := 1291) q33_36 dL_law_33 (by decide) (by decide) (by decide) (by decide) ?_
      exact t_L_law_1291 hX he hub hwb hk18 h
    have h := ite_f q33_36 h
    rcases Decidable.em ((v29 &&& 63) = 37) with q33_37 | q33_37
    · have h := ite_t q33_37 h
      refine wt_tableIn (pc := 33) (off := 1271) (tgt := 1304) q33_37 dL_law_33 (by decide) (by decide) (by decide) (by decide) ?_
      exact t_L_law_1304 hX he hub hwb hk18 h
    have h := ite_f q33_37 h
    rcases Decidable.em ((v29 &&& 63) = 38) with q33_38 | q33_38
    · have h := ite_t q33_38 h
      refine wt_tableIn (pc := 33) (off := 1314) (tgt := 1347) q33_38 dL_law_33 (by decide) (by decide) (by decide) (by decide) ?_
      exact t_L_law_1347 hX he hub hwb hk18 h
    have h := ite_f q33_38 h
    rcases Decidable.em ((v29 &&& 63) = 39) with q33_39 | q33_39
    · have h := ite_t q33_39 h
      refine wt_tableIn (pc := 33) (off := 1357) (tgt := 1390) q33_39 dL_law_33 (by decide) (by decide) (by decide) (by decide) ?_
      exact t_L_law_1390 hX he hub hwb hk18 h
    have h := ite_f q33_39 h
    rcases Decidable.em ((v29 &&& 63) = 40) with q33_40 | q33_40
    · have h := ite_t q33_40 h
      refine wt_tableIn (pc := 33) (off := 1370) (tgt := 1403) q33_40 dL_law_33 (by decide) (by decide) (by decide) (by decide) ?_
      exact t_L_law_1403 hX he hub hwb hk18 h
    have h := ite_f q33_40 h
    rcases Decidable.em ((v29 &&& 63) = 41) with q33_41 | q33_41
    · have h := ite_t q33_41 h
      refine wt_tableIn (pc := 33) (off := 1383) (tgt := 1416) q33_41 dL_law_33 (by decide) (by decide) (by decide) (by decide) ?_
      exact t_L_law_1416 hX he hub hwb hk18 h
    have h := ite_f q33_41 h
    rcases Decidable.em ((v29 &&& 63) = 42) with q33_42 | q33_42
    · have h := ite_t q33_42 h
      refine wt_tableIn (pc := 33) (off := 1406) (tgt := 1439) q33_42 dL_law_33 (by decide) (by decide) (by decide) (by decide) ?_
      exact t_L_law_1439 hX he hub hwb hk18 h
    have h := ite_f q33_42 h
    rcases Decidable.em ((v29 &&& 63) = 43) with q33_43 | q33_43
    · have h := ite_t q33_43 h
      refine wt_tableIn (pc := 33) (off := 1439) (tgt := 1472) q33_43 dL_law_33 (by decide) (by decide) (by decide) (by decide) ?_
      exact t_L_law_1472 hX he hub hwb hk18 h
    have h := ite_f q33_43 h
    rcases Decidable.em ((v29 &&& 63) = 44) with q33_44 | q33_44
    · have h := ite_t q33_44 h
      refine wt_tableIn (pc := 33) (off := 1462) (tgt := 1495) q33_44 dL_law_33 (by decide) (by decide) (by decide) (by decide) ?_
      exact t_L_law_1495 hX he hub hwb hk18 h
    have h := ite_f q33_44 h
    rcases Decidable.em ((v29 &&& 63) = 45) with q33_45 | q33_45
    · have h := ite_t q33_45 h
      refine wt_tableIn (pc := 33) (off := 1495) (tgt := 1528) q33_45 dL_law_33 (by decide) (by decide) (by decide) (by decide) ?_
      exact t_L_law_1528 hX he hub hwb hk18 h
    have h := ite_f q33_45 h
    rcases Decidable.em ((v29 &&& 63) = 46) with q33_46 | q33_46
    · have h := ite_t q33_46 h
      refine wt_tableIn (pc := 33) (off := 1518) (tgt := 1551) q33_46 dL_law_33 (by decide) (by decide) (by decide) (by decide) ?_
      exact t_L_law_1551 hX he hub hwb hk18 h
    have h := ite_f q33_46 h
    rcases Decidable.em ((v29 &&& 63) = 47) with q33_47 | q33_47
    · have h := ite_t q33_47 h
      refine wt_tableIn (pc := 33) (off := 1541) (tgt := 1574) q33_47 dL_law_33 (by decide) (by decide) (by decide) (by decide) ?_
      exact t_L_law_1574 hX he hub hwb hk18 h
    have h := ite_f q33_47 h
    rcases Decidable.em ((v29 &&& 63) = 48) with q33_48 | q33_48
    · have h := ite_t q33_48 h
      refine wt_tableIn (pc := 33) (off := 1564) (tgt := 1597) q33_48 dL_law_33 (by decide) (by decide) (by decide) (by decide) ?_
      exact t_L_law_1597 hX he hub hwb hk18 h
    have h := ite_f q33_48 h
    rcases Decidable.em ((v29 &&& 63) = 49) with q33_49 | q33_49
    · have h := ite_t q33_49 h
      refine wt_tableIn (pc := 33) (off := 1587) (tgt := 1620) q33_49 dL_law_33 (by decide) (by decide) (by decide) (by decide) ?_
      exact t_L_law_1620 hX he hub hwb hk18 h
    have h := ite_f q33_49 h
    rcases Decidable.em ((v29 &&& 63) = 50) with q33_50 | q33_50
    · have h := ite_t q33_50 h
      refine wt_tableIn (pc := 33) (off := 1610) (tgt := 1643) q33_50 dL_law_33 (by decide) (by decide) (by decide) (by decide) ?_
      exact t_L_law_1643 hX he hub hwb hk18 h
    have h := ite_f q33_50 h
    rcases Decidable.em ((v29 &&& 63) = 51) with q33_51 | q33_51
    · have h := ite_t q33_51 h
      refine wt_tableIn (pc := 33) (off := 1643) (tgt := 1676) q33_51 dL_law_33 (by decide) (by decide) (by decide) (by decide) ?_
      exact t_L_law_1676 hX he hub hwb hk18 h
    have h := ite_f q33_51 h
    rcases Decidable.em ((v29 &&& 63) = 52) with q33_52 | q33_52
    · have h := ite_t q33_52 h
      refine wt_tableIn (pc := 33) (off := 1656) (tgt := 1689) q33_52 dL_law_33 (by decide) (by decide) (by decide) (by decide) ?_
      exact t_L_law_1689 hX he hub hwb hk18 h
    have h := ite_f q33_52 h
    refine wt_tableOut (pc := 33) (tgt := 1702) dL_law_33 (by have h9 := ts_out (x := (v29 &&& 63)) 0 53 (fun i hi => by match i, hi with | 0, _ => exact ts_ne (by decide) q33_0 | 1, _ => exact ts_ne (by decide) q33_1 | 2, _ => exact ts_ne (by decide) q33_2 | 3, _ => exact ts_ne (by decide) q33_3 | 4, _ => exact ts_ne (by decide) q33_4 | 5, _ => exact ts_ne (by decide) q33_5 | 6, _ => exact ts_ne (by decide) q33_6 | 7, _ => exact ts_ne (by decide) q33_7 | 8, _ => exact ts_ne (by decide) q33_8 | 9, _ => exact ts_ne (by decide) q33_9 | 10, _ => exact ts_ne (by decide) q33_10 | 11, _ => exact ts_ne (by decide) q33_11 | 12, _ => exact ts_ne (by decide) q33_12 | 13, _ => exact ts_ne (by decide) q33_13 | 14, _ => exact ts_ne (by decide) q33_14 | 15, _ => exact ts_ne (by decide) q33_15 | 16, _ => exact ts_ne (by decide) q33_16 | 17, _ => exact ts_ne (by decide) q33_17 | 18, _ => exact ts_ne (by decide) q33_18 | 19, _ => exact ts_ne (by decide) q33_19 | 20, _ => exact ts_ne (by decide) q33_20 | 21, _ => exact ts_ne (by decide) q33_21 | 22, _ => exact ts_ne (by decide) q33_22 | 23, _ => exact ts_ne (by decide) q33_23 | 24, _ => exact ts_ne (by decide) q33_24 | 25, _ => exact ts_ne (by decide) q33_25 | 26, _ => exact ts_ne (by decide) q33_26 | 27, _ => exact ts_ne (by decide) q33_27 | 28, _ => exact ts_ne (by decide) q33_28 | 29, _ => exact ts_ne (by decide) q33_29 | 30, _ => exact ts_ne (by decide) q33_30 | 31, _ => exact ts_ne (by decide) q33_31 | 32, _ => exact ts_ne (by decide) q33_32 | 33, _ => exact ts_ne (by decide) q33_33 | 34, _ => exact ts_ne (by decide) q33_34 | 35, _ => exact ts_ne (by decide) q33_35 | 36, _ => exact ts_ne (by decide) q33_36 | 37, _ => exact ts_ne (by decide) q33_37 | 38, _ => exact ts_ne (by decide) q33_38 | 39, _ => exact ts_ne (by decide) q33_39 | 40, _ => exact ts_ne (by decide) q33_40 | 41, _ => exact ts_ne (by decide) q33_41 | 42, _ => exact ts_ne (by decide) q33_42 | 43, _ => exact ts_ne (by decide) q33_43 | 44, _ => exact ts_ne (by decide) q33_44 | 45, _ => exact ts_ne (by decide) q33_45 | 46, _ => exact ts_ne (by decide) q33_46 | 47, _ => exact ts_ne (by decide) q33_47 | 48, _ => exact ts_ne (by decide) q33_48 | 49, _ => exact ts_ne (by decide) q33_49 | 50, _ => exact ts_ne (by decide) q33_50 | 51, _ => exact ts_ne (by decide) q33_51 | 52, _ => exact ts_ne (by decide) q33_52 | i + 53, hi => omega); omega) (by decide) ?_
    refine wt_room (u' := u + 2) (w' := w + 8) (by omega) (by omega) ?_
    exact t_L_law_1702 hX he hub hwb hk18 h
set_option maxHeartbeats 4000000 in
set_option maxRecDepth 100000 in
theorem t_L_law_18 {G : GG} {X : CX} {L b : Nat} {xs : Nat → Int32} (hX : hXs G X b L xs) {ans : Int32 × Mm} (he : EndI G X j_L_law b_L_law ans) : ∀ (n : Nat), n ≤ 600 → ∀ {M : Mm} {l1 : Option Nat} {l2 : Option Nat} {l3 : Int32}, f_L_law_18 L xs n M l1 l2 l3 = some ans → Wt G X j_L_law b_L_law 18 [(0, .ref b), (1, rf G.1 l1), (2, rf G.1 l2), (3, .int l3)] [] M (221 + 2 * (600 - n)) (11584 + 8 * (600 - n)) := by
  intro n
  induction n with
  | zero =>
    intro _ M l1 l2 l3 h
    rw [f_L_law_18] at h
    cases h
  | succ n ih =>
    intro hn M l1 l2 l3 h
    rw [f_L_law_18] at h
    refine t_L_law_18g hX he (by omega) (by omega) (fun M l1 l2 l3 h => ?_) h
    have K := ih (by omega) h
    have e1 : 221 + 2 * (600 - n) = 221 + 2 * (600 - (n + 1)) + 2 := by omega
    have e2 : 11584 + 8 * (600 - n) = 11584 + 8 * (600 - (n + 1)) + 8 := by omega
    rw [e1, e2] at K
    exact K
set_option maxHeartbeats 4000000 in
set_option maxRecDepth 100000 in
theorem t_L_law_e {G : GG} {X : CX} {L b : Nat} {xs : Nat → Int32} (hX : hXs G X b L xs) {ans : Int32 × Mm} (he : EndI G X j_L_law b_L_law ans) {M : Mm} (h : f_L_law L xs M = some ans) : Wt G X j_L_law b_L_law 0 [(0, .ref b)] [] M 0 0 := by
  unfold f_L_law at h
  refine wt_new (pc := 0) (n := 19) dL_law_0 cl_L_7 rfl (by decide) (by decide) h (fun q0 M0 h => ?_)
  refine wt_dup (pc := 3) dL_law_3 (rf_cat _ _) ?_
  refine wt_cI (pc := 4) (J' := j_X11_init) (As := []) (st := [rf G.1 q0]) (B' := b_X11_init) (u' := 207) (w' := 4529) dL_law_4 ml_L_9 mi_X11_init (fun M9 e9 => c_X11_init e9) rfl (by decide) rfl rfl (by decide) (by decide) (by simp [rf_cat, cat_i, cat_l, cat_r]) rfl h (fun M4 h => ?_)
  refine wt_astore_n (pc := 7) (i := 1) (ls' := [(1, rf G.1 q0), (0, .ref b)]) rfl dL_law_7 (by decide) (by simp [rf_cat, cat_i, cat_l, cat_r]) ?_
  refine wt_new (pc := 8) (n := 45) dL_law_8 cl_L_10 rfl (by decide) (by decide) h (fun q8 M8 h => ?_)
  refine wt_dup (pc := 11) dL_law_11 (rf_cat _ _) ?_
  refine wt_cI (pc := 12) (J' := j_X12_init) (As := []) (st := [rf G.1 q8]) (B' := b_X12_init) (u' := 221) (w' := 11584) dL_law_12 ml_L_12 mi_X12_init (fun M9 e9 => c_X12_init e9) rfl (by decide) rfl rfl (by decide) (by decide) (by simp [rf_cat, cat_i, cat_l, cat_r]) rfl h (fun M12 h => ?_)
  refine wt_astore_n (pc := 15) (i := 2) (ls' := [(2, rf G.1 q8), (1, rf G.1 q0), (0, .ref b)]) rfl dL_law_15 (by decide) (by simp [rf_cat, cat_i, cat_l, cat_r]) ?_
  refine wt_iconst (pc := 16) (v := 0) dL_law_16 (by decide) ?_
  refine wt_istore_n (pc := 17) (i := 3) (ls' := [(3, .int 0), (2, rf G.1 q8), (1, rf G.1 q0), (0, .ref b)]) rfl dL_law_17 (by decide) (by simp [rf_cat, cat_i, cat_l, cat_r]) ?_
  refine wt_sub (ls' := [(0, .ref b), (1, rf G.1 q0), (2, rf G.1 q8), (3, .int 0)]) [3, 2, 1, 0] rfl ?_
  exact t_L_law_18 hX he 600 (Nat.le_refl _) h
