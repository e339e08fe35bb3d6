/-! the law, case by case -/
abbrev xL_law : z_X := (yL_law, cL_law, 4, some .boolean)
theorem law_ix {i j Lx : Nat} {c : Int32} (hc : c = nI j) (hi : i + 9 ≤ Lx) (hLx : Lx ≤ 4608) (hj : j ≤ 8) : vp_in (nI i + c) Lx := by rw [hc, q_nadd]; exact q_inn (by omega) (by omega)
theorem law_cl {i j Lx : Nat} {c : Int32} (hc : c = nI j) (hi : i + 9 ≤ Lx) (hLx : Lx ≤ 4608) (hj : j ≤ 8) : (nI i + c).toNatClampNeg = i + j := by rw [hc, q_nadd, q_cl (by omega)]
theorem lg_cmp_rf (r : Int64) : lg_cmp r r = 0 := by unfold lg_cmp; simp
section LAWC
variable {G : z_G} {n0 d rc rs dc dr mc ms : Nat} {K : z_K} {I : z_I} {L : z_L} {Q : z_R} {b Lx : Nat} {xs : Nat → Int32} {i : Nat}
theorem dL_law_256 : decode cL_law 256 = .ok (.aload_n 1, 1) := by decide +kernel
theorem dL_law_257 : decode cL_law 257 = .ok (.aload_n 0, 1) := by decide +kernel
theorem dL_law_258 : decode cL_law 258 = .ok (.iload_n 3, 1) := by decide +kernel
theorem dL_law_259 : decode cL_law 259 = .ok (.iconst 1, 1) := by decide +kernel
theorem dL_law_260 : decode cL_law 260 = .ok (.iadd, 1) := by decide +kernel
theorem dL_law_261 : decode cL_law 261 = .ok (.iaload, 1) := by decide +kernel
theorem dL_law_262 : decode cL_law 262 = .ok (.invokevirtual 13, 3) := by decide +kernel
theorem dL_law_265 : decode cL_law 265 = .ok (.aload_n 2, 1) := by decide +kernel
theorem dL_law_266 : decode cL_law 266 = .ok (.aload_n 0, 1) := by decide +kernel
theorem dL_law_267 : decode cL_law 267 = .ok (.iload_n 3, 1) := by decide +kernel
theorem dL_law_268 : decode cL_law 268 = .ok (.iconst 1, 1) := by decide +kernel
theorem dL_law_269 : decode cL_law 269 = .ok (.iadd, 1) := by decide +kernel
theorem dL_law_270 : decode cL_law 270 = .ok (.iaload, 1) := by decide +kernel
theorem dL_law_271 : decode cL_law 271 = .ok (.invokevirtual 17, 3) := by decide +kernel
theorem dL_law_274 : decode cL_law 274 = .ok (.if_icmp .eq 2068, 3) := by decide +kernel
theorem dL_law_279 : decode cL_law 279 = .ok (.aload_n 1, 1) := by decide +kernel
theorem dL_law_280 : decode cL_law 280 = .ok (.aload_n 0, 1) := by decide +kernel
theorem dL_law_281 : decode cL_law 281 = .ok (.iload_n 3, 1) := by decide +kernel
theorem dL_law_282 : decode cL_law 282 = .ok (.iconst 1, 1) := by decide +kernel
theorem dL_law_283 : decode cL_law 283 = .ok (.iadd, 1) := by decide +kernel
theorem dL_law_284 : decode cL_law 284 = .ok (.iaload, 1) := by decide +kernel
theorem dL_law_285 : decode cL_law 285 = .ok (.aload_n 0, 1) := by decide +kernel
theorem dL_law_286 : decode cL_law 286 = .ok (.iload_n 3, 1) := by decide +kernel
theorem dL_law_287 : decode cL_law 287 = .ok (.iconst 2, 1) := by decide +kernel
theorem dL_law_288 : decode cL_law 288 = .ok (.iadd, 1) := by decide +kernel
theorem dL_law_289 : decode cL_law 289 = .ok (.iaload, 1) := by decide +kernel
theorem dL_law_290 : decode cL_law 290 = .ok (.aload_n 0, 1) := by decide +kernel
theorem dL_law_291 : decode cL_law 291 = .ok (.iload_n 3, 1) := by decide +kernel
theorem dL_law_292 : decode cL_law 292 = .ok (.iconst 3, 1) := by decide +kernel
theorem dL_law_293 : decode cL_law 293 = .ok (.iadd, 1) := by decide +kernel
theorem dL_law_294 : decode cL_law 294 = .ok (.iaload, 1) := by decide +kernel
theorem dL_law_295 : decode cL_law 295 = .ok (.invokevirtual 18, 3) := by decide +kernel
theorem dL_law_298 : decode cL_law 298 = .ok (.aload_n 2, 1) := by decide +kernel
theorem dL_law_299 : decode cL_law 299 = .ok (.aload_n 0, 1) := by decide +kernel
theorem dL_law_300 : decode cL_law 300 = .ok (.iload_n 3, 1) := by decide +kernel
theorem dL_law_301 : decode cL_law 301 = .ok (.iconst 1, 1) := by decide +kernel
theorem dL_law_302 : decode cL_law 302 = .ok (.iadd, 1) := by decide +kernel
theorem dL_law_303 : decode cL_law 303 = .ok (.iaload, 1) := by decide +kernel
theorem dL_law_304 : decode cL_law 304 = .ok (.aload_n 0, 1) := by decide +kernel
theorem dL_law_305 : decode cL_law 305 = .ok (.iload_n 3, 1) := by decide +kernel
theorem dL_law_306 : decode cL_law 306 = .ok (.iconst 2, 1) := by decide +kernel
theorem dL_law_307 : decode cL_law 307 = .ok (.iadd, 1) := by decide +kernel
theorem dL_law_308 : decode cL_law 308 = .ok (.iaload, 1) := by decide +kernel
theorem dL_law_309 : decode cL_law 309 = .ok (.aload_n 0, 1) := by decide +kernel
theorem dL_law_310 : decode cL_law 310 = .ok (.iload_n 3, 1) := by decide +kernel
theorem dL_law_311 : decode cL_law 311 = .ok (.iconst 3, 1) := by decide +kernel
theorem dL_law_312 : decode cL_law 312 = .ok (.iadd, 1) := by decide +kernel
theorem dL_law_313 : decode cL_law 313 = .ok (.iaload, 1) := by decide +kernel
theorem dL_law_314 : decode cL_law 314 = .ok (.invokevirtual 22, 3) := by decide +kernel
theorem dL_law_317 : decode cL_law 317 = .ok (.if_icmp .eq 2025, 3) := by decide +kernel
theorem dL_law_322 : decode cL_law 322 = .ok (.aload_n 1, 1) := by decide +kernel
theorem dL_law_323 : decode cL_law 323 = .ok (.aload_n 0, 1) := by decide +kernel
theorem dL_law_324 : decode cL_law 324 = .ok (.iload_n 3, 1) := by decide +kernel
theorem dL_law_325 : decode cL_law 325 = .ok (.iconst 1, 1) := by decide +kernel
theorem dL_law_326 : decode cL_law 326 = .ok (.iadd, 1) := by decide +kernel
theorem dL_law_327 : decode cL_law 327 = .ok (.iaload, 1) := by decide +kernel
theorem dL_law_328 : decode cL_law 328 = .ok (.aload_n 0, 1) := by decide +kernel
theorem dL_law_329 : decode cL_law 329 = .ok (.iload_n 3, 1) := by decide +kernel
theorem dL_law_330 : decode cL_law 330 = .ok (.iconst 2, 1) := by decide +kernel
theorem dL_law_331 : decode cL_law 331 = .ok (.iadd, 1) := by decide +kernel
theorem dL_law_332 : decode cL_law 332 = .ok (.iaload, 1) := by decide +kernel
theorem dL_law_333 : decode cL_law 333 = .ok (.aload_n 0, 1) := by decide +kernel
theorem dL_law_334 : decode cL_law 334 = .ok (.iload_n 3, 1) := by decide +kernel
theorem dL_law_335 : decode cL_law 335 = .ok (.iconst 3, 1) := by decide +kernel
theorem dL_law_336 : decode cL_law 336 = .ok (.iadd, 1) := by decide +kernel
theorem dL_law_337 : decode cL_law 337 = .ok (.iaload, 1) := by decide +kernel
theorem dL_law_338 : decode cL_law 338 = .ok (.invokevirtual 23, 3) := by decide +kernel
theorem dL_law_341 : decode cL_law 341 = .ok (.aload_n 2, 1) := by decide +kernel
theorem dL_law_342 : decode cL_law 342 = .ok (.aload_n 0, 1) := by decide +kernel
theorem dL_law_343 : decode cL_law 343 = .ok (.iload_n 3, 1) := by decide +kernel
theorem dL_law_344 : decode cL_law 344 = .ok (.iconst 1, 1) := by decide +kernel
theorem dL_law_345 : decode cL_law 345 = .ok (.iadd, 1) := by decide +kernel
theorem dL_law_346 : decode cL_law 346 = .ok (.iaload, 1) := by decide +kernel
theorem dL_law_347 : decode cL_law 347 = .ok (.aload_n 0, 1) := by decide +kernel
theorem dL_law_348 : decode cL_law 348 = .ok (.iload_n 3, 1) := by decide +kernel
theorem dL_law_349 : decode cL_law 349 = .ok (.iconst 2, 1) := by decide +kernel
theorem dL_law_350 : decode cL_law 350 = .ok (.iadd, 1) := by decide +kernel
theorem dL_law_351 : decode cL_law 351 = .ok (.iaload, 1) := by decide +kernel
theorem dL_law_352 : decode cL_law 352 = .ok (.aload_n 0, 1) := by decide +kernel
theorem dL_law_353 : decode cL_law 353 = .ok (.iload_n 3, 1) := by decide +kernel
theorem dL_law_354 : decode cL_law 354 = .ok (.iconst 3, 1) := by decide +kernel
theorem dL_law_355 : decode cL_law 355 = .ok (.iadd, 1) := by decide +kernel
theorem dL_law_356 : decode cL_law 356 = .ok (.iaload, 1) := by decide +kernel
theorem dL_law_357 : decode cL_law 357 = .ok (.invokevirtual 26, 3) := by decide +kernel
theorem dL_law_360 : decode cL_law 360 = .ok (.if_icmp .eq 1982, 3) := by decide +kernel
theorem dL_law_365 : decode cL_law 365 = .ok (.aload_n 1, 1) := by decide +kernel
theorem dL_law_366 : decode cL_law 366 = .ok (.aload_n 0, 1) := by decide +kernel
theorem dL_law_367 : decode cL_law 367 = .ok (.iload_n 3, 1) := by decide +kernel
theorem dL_law_368 : decode cL_law 368 = .ok (.iconst 1, 1) := by decide +kernel
theorem dL_law_369 : decode cL_law 369 = .ok (.iadd, 1) := by decide +kernel
theorem dL_law_370 : decode cL_law 370 = .ok (.iaload, 1) := by decide +kernel
theorem dL_law_371 : decode cL_law 371 = .ok (.invokevirtual 27, 3) := by decide +kernel
theorem dL_law_374 : decode cL_law 374 = .ok (.aload_n 2, 1) := by decide +kernel
theorem dL_law_375 : decode cL_law 375 = .ok (.aload_n 0, 1) := by decide +kernel
theorem dL_law_376 : decode cL_law 376 = .ok (.iload_n 3, 1) := by decide +kernel
theorem dL_law_377 : decode cL_law 377 = .ok (.iconst 1, 1) := by decide +kernel
theorem dL_law_378 : decode cL_law 378 = .ok (.iadd, 1) := by decide +kernel
theorem dL_law_379 : decode cL_law 379 = .ok (.iaload, 1) := by decide +kernel
theorem dL_law_380 : decode cL_law 380 = .ok (.invokevirtual 30, 3) := by decide +kernel
theorem dL_law_383 : decode cL_law 383 = .ok (.if_icmp .eq 1959, 3) := by decide +kernel
theorem dL_law_388 : decode cL_law 388 = .ok (.aload_n 1, 1) := by decide +kernel
theorem dL_law_389 : decode cL_law 389 = .ok (.aload_n 0, 1) := by decide +kernel
theorem dL_law_390 : decode cL_law 390 = .ok (.iload_n 3, 1) := by decide +kernel
theorem dL_law_391 : decode cL_law 391 = .ok (.iconst 1, 1) := by decide +kernel
theorem dL_law_392 : decode cL_law 392 = .ok (.iadd, 1) := by decide +kernel
theorem dL_law_393 : decode cL_law 393 = .ok (.iaload, 1) := by decide +kernel
theorem dL_law_394 : decode cL_law 394 = .ok (.aload_n 0, 1) := by decide +kernel
theorem dL_law_395 : decode cL_law 395 = .ok (.iload_n 3, 1) := by decide +kernel
theorem dL_law_396 : decode cL_law 396 = .ok (.iconst 2, 1) := by decide +kernel
theorem dL_law_397 : decode cL_law 397 = .ok (.iadd, 1) := by decide +kernel
theorem dL_law_398 : decode cL_law 398 = .ok (.iaload, 1) := by decide +kernel
theorem dL_law_399 : decode cL_law 399 = .ok (.aload_n 0, 1) := by decide +kernel
theorem dL_law_400 : decode cL_law 400 = .ok (.iload_n 3, 1) := by decide +kernel
theorem dL_law_401 : decode cL_law 401 = .ok (.iconst 3, 1) := by decide +kernel
theorem dL_law_402 : decode cL_law 402 = .ok (.iadd, 1) := by decide +kernel
theorem dL_law_403 : decode cL_law 403 = .ok (.iaload, 1) := by decide +kernel
theorem dL_law_404 : decode cL_law 404 = .ok (.invokevirtual 31, 3) := by decide +kernel
theorem dL_law_407 : decode cL_law 407 = .ok (.aload_n 2, 1) := by decide +kernel
theorem dL_law_408 : decode cL_law 408 = .ok (.aload_n 0, 1) := by decide +kernel
theorem dL_law_409 : decode cL_law 409 = .ok (.iload_n 3, 1) := by decide +kernel
theorem dL_law_410 : decode cL_law 410 = .ok (.iconst 1, 1) := by decide +kernel
theorem dL_law_411 : decode cL_law 411 = .ok (.iadd, 1) := by decide +kernel
theorem dL_law_412 : decode cL_law 412 = .ok (.iaload, 1) := by decide +kernel
theorem dL_law_413 : decode cL_law 413 = .ok (.aload_n 0, 1) := by decide +kernel
theorem dL_law_414 : decode cL_law 414 = .ok (.iload_n 3, 1) := by decide +kernel
theorem dL_law_415 : decode cL_law 415 = .ok (.iconst 2, 1) := by decide +kernel
theorem dL_law_416 : decode cL_law 416 = .ok (.iadd, 1) := by decide +kernel
theorem dL_law_417 : decode cL_law 417 = .ok (.iaload, 1) := by decide +kernel
theorem dL_law_418 : decode cL_law 418 = .ok (.aload_n 0, 1) := by decide +kernel
theorem dL_law_419 : decode cL_law 419 = .ok (.iload_n 3, 1) := by decide +kernel
theorem dL_law_420 : decode cL_law 420 = .ok (.iconst 3, 1) := by decide +kernel
theorem dL_law_421 : decode cL_law 421 = .ok (.iadd, 1) := by decide +kernel
theorem dL_law_422 : decode cL_law 422 = .ok (.iaload, 1) := by decide +kernel
theorem dL_law_423 : decode cL_law 423 = .ok (.invokevirtual 34, 3) := by decide +kernel
theorem dL_law_426 : decode cL_law 426 = .ok (.if_icmp .eq 1916, 3) := by decide +kernel
theorem dL_law_431 : decode cL_law 431 = .ok (.aload_n 1, 1) := by decide +kernel
theorem dL_law_432 : decode cL_law 432 = .ok (.aload_n 0, 1) := by decide +kernel
theorem dL_law_433 : decode cL_law 433 = .ok (.iload_n 3, 1) := by decide +kernel
theorem dL_law_434 : decode cL_law 434 = .ok (.iconst 1, 1) := by decide +kernel
theorem dL_law_435 : decode cL_law 435 = .ok (.iadd, 1) := by decide +kernel
theorem dL_law_436 : decode cL_law 436 = .ok (.iaload, 1) := by decide +kernel
theorem dL_law_437 : decode cL_law 437 = .ok (.aload_n 0, 1) := by decide +kernel
theorem dL_law_438 : decode cL_law 438 = .ok (.iload_n 3, 1) := by decide +kernel
theorem dL_law_439 : decode cL_law 439 = .ok (.iconst 2, 1) := by decide +kernel
theorem dL_law_440 : decode cL_law 440 = .ok (.iadd, 1) := by decide +kernel
theorem dL_law_441 : decode cL_law 441 = .ok (.iaload, 1) := by decide +kernel
theorem dL_law_442 : decode cL_law 442 = .ok (.invokevirtual 35, 3) := by decide +kernel
theorem dL_law_445 : decode cL_law 445 = .ok (.aload_n 2, 1) := by decide +kernel
theorem dL_law_446 : decode cL_law 446 = .ok (.aload_n 0, 1) := by decide +kernel
theorem dL_law_447 : decode cL_law 447 = .ok (.iload_n 3, 1) := by decide +kernel
theorem dL_law_448 : decode cL_law 448 = .ok (.iconst 1, 1) := by decide +kernel
theorem dL_law_449 : decode cL_law 449 = .ok (.iadd, 1) := by decide +kernel
theorem dL_law_450 : decode cL_law 450 = .ok (.iaload, 1) := by decide +kernel
theorem dL_law_451 : decode cL_law 451 = .ok (.aload_n 0, 1) := by decide +kernel
theorem dL_law_452 : decode cL_law 452 = .ok (.iload_n 3, 1) := by decide +kernel
theorem dL_law_453 : decode cL_law 453 = .ok (.iconst 2, 1) := by decide +kernel
theorem dL_law_454 : decode cL_law 454 = .ok (.iadd, 1) := by decide +kernel
theorem dL_law_455 : decode cL_law 455 = .ok (.iaload, 1) := by decide +kernel
theorem dL_law_456 : decode cL_law 456 = .ok (.invokevirtual 39, 3) := by decide +kernel
theorem dL_law_459 : decode cL_law 459 = .ok (.if_icmp .eq 1883, 3) := by decide +kernel
theorem dL_law_464 : decode cL_law 464 = .ok (.aload_n 1, 1) := by decide +kernel
theorem dL_law_465 : decode cL_law 465 = .ok (.aload_n 0, 1) := by decide +kernel
theorem dL_law_466 : decode cL_law 466 = .ok (.iload_n 3, 1) := by decide +kernel
theorem dL_law_467 : decode cL_law 467 = .ok (.iconst 1, 1) := by decide +kernel
theorem dL_law_468 : decode cL_law 468 = .ok (.iadd, 1) := by decide +kernel
theorem dL_law_469 : decode cL_law 469 = .ok (.iaload, 1) := by decide +kernel
theorem dL_law_470 : decode cL_law 470 = .ok (.aload_n 0, 1) := by decide +kernel
theorem dL_law_471 : decode cL_law 471 = .ok (.iload_n 3, 1) := by decide +kernel
theorem dL_law_472 : decode cL_law 472 = .ok (.iconst 2, 1) := by decide +kernel
theorem dL_law_473 : decode cL_law 473 = .ok (.iadd, 1) := by decide +kernel
theorem dL_law_474 : decode cL_law 474 = .ok (.iaload, 1) := by decide +kernel
theorem dL_law_475 : decode cL_law 475 = .ok (.aload_n 0, 1) := by decide +kernel
theorem dL_law_476 : decode cL_law 476 = .ok (.iload_n 3, 1) := by decide +kernel
theorem dL_law_477 : decode cL_law 477 = .ok (.iconst 3, 1) := by decide +kernel
theorem dL_law_478 : decode cL_law 478 = .ok (.iadd, 1) := by decide +kernel
theorem dL_law_479 : decode cL_law 479 = .ok (.iaload, 1) := by decide +kernel
theorem dL_law_480 : decode cL_law 480 = .ok (.invokevirtual 40, 3) := by decide +kernel
theorem dL_law_483 : decode cL_law 483 = .ok (.aload_n 2, 1) := by decide +kernel
theorem dL_law_484 : decode cL_law 484 = .ok (.aload_n 0, 1) := by decide +kernel
theorem dL_law_485 : decode cL_law 485 = .ok (.iload_n 3, 1) := by decide +kernel
theorem dL_law_486 : decode cL_law 486 = .ok (.iconst 1, 1) := by decide +kernel
theorem dL_law_487 : decode cL_law 487 = .ok (.iadd, 1) := by decide +kernel
theorem dL_law_488 : decode cL_law 488 = .ok (.iaload, 1) := by decide +kernel
theorem dL_law_489 : decode cL_law 489 = .ok (.aload_n 0, 1) := by decide +kernel
theorem dL_law_490 : decode cL_law 490 = .ok (.iload_n 3, 1) := by decide +kernel
theorem dL_law_491 : decode cL_law 491 = .ok (.iconst 2, 1) := by decide +kernel
theorem dL_law_492 : decode cL_law 492 = .ok (.iadd, 1) := by decide +kernel
theorem dL_law_493 : decode cL_law 493 = .ok (.iaload, 1) := by decide +kernel
theorem dL_law_494 : decode cL_law 494 = .ok (.aload_n 0, 1) := by decide +kernel
theorem dL_law_495 : decode cL_law 495 = .ok (.iload_n 3, 1) := by decide +kernel
theorem dL_law_496 : decode cL_law 496 = .ok (.iconst 3, 1) := by decide +kernel
theorem dL_law_497 : decode cL_law 497 = .ok (.iadd, 1) := by decide +kernel
theorem dL_law_498 : decode cL_law 498 = .ok (.iaload, 1) := by decide +kernel
theorem dL_law_499 : decode cL_law 499 = .ok (.invokevirtual 43, 3) := by decide +kernel
theorem dL_law_502 : decode cL_law 502 = .ok (.if_icmp .eq 1840, 3) := by decide +kernel
theorem dL_law_2342 : decode cL_law 2342 = .ok (.iinc 3 9, 3) := by decide +kernel
theorem dL_law_2345 : decode cL_law 2345 = .ok (.goto (-2327), 3) := by decide +kernel
theorem lw_days (hG : G.2.2.2 3 = (b, Lx, xs)) (hi : i + 9 ≤ Lx) (hLx : Lx ≤ 4608) (h0 : 0 < K.1) (h12 : (K.2.1 0).1 = 12) (hdc : dc + 1 ≤ d) (hdr : dr + 1 ≤ d)
    (hop : OpA n0 xX12_days xX13_days dc dr mc ms [.int (xs (i + 1))] K I L (fun K' I' L' => ZG G n0 xL_law d rc rs 18 [(0, .ref b), (1, .ref (n0 + 0)), (2, .ref (n0 + 59)), (3, .int (nI (i + 9)))] [] K' I' L' Q)) :
    ZH G n0 xL_law d (rc + mc) (rs + ms) 256 [(0, .ref b), (1, .ref (n0 + 0)), (2, .ref (n0 + 59)), (3, .int (nI i))] [] K I L Q := by
  refine yh_aload_n 1 dL_law_256 rfl ?_
  refine yh_aload_n 0 dL_law_257 rfl ?_
  refine yh_iload_n 3 dL_law_258 rfl ?_
  refine yh_iconst 1 dL_law_259 (by decide) ?_
  refine yh_iadd dL_law_260 ?_
  refine yh_sld hG dL_law_261 (law_ix (c := 1) (j := 1) rfl hi hLx (by omega)) ?_
  rw [law_cl (c := 1) (j := 1) rfl hi hLx (by omega)]
  refine yh_callV (rc := rc) (rs := rs) (mc1 := mc) (ms1 := ms) (k := 0) (c := 12) (As := [.int (xs (i + 1))]) dL_law_262 hy_X12_days h0 h12 (by decide) wg_458 wg_459 wg_460 hdc (Nat.le_of_ble_eq_true rfl) (RM.mono hop ?_)
  clear hop
  rintro vv K1 I1 L1 ⟨r, rfl, hop⟩
  change ZH G n0 xL_law d rc rs _ _ [.int r] K1 I1 L1 Q
  refine yh_aload_n 2 dL_law_265 rfl ?_
  refine yh_aload_n 0 dL_law_266 rfl ?_
  refine yh_iload_n 3 dL_law_267 rfl ?_
  refine yh_iconst 1 dL_law_268 (by decide) ?_
  refine yh_iadd dL_law_269 ?_
  refine yh_sld hG dL_law_270 (law_ix (c := 1) (j := 1) rfl hi hLx (by omega)) ?_
  rw [law_cl (c := 1) (j := 1) rfl hi hLx (by omega)]
  refine yh_callM (As := [.int (xs (i + 1))]) (st := [.int r]) dL_law_271 hy_X13_days wg_1774 wg_1775 wg_1776 hdr (Nat.le_of_ble_eq_true rfl) (RM0.mono hop ?_)
  clear hop
  rintro vv I2 L2 ⟨rfl, hP⟩
  change ZH G n0 xL_law d rc rs _ _ [.int r, .int r] K1 I2 L2 Q
  refine yh_icmp_eq 2342 dL_law_274 (by decide) (fun _ => ?_) (fun z => absurd rfl z)
  refine yh_iinc (j := 3) (nI (i + 9)) [1, 2, 3, 0] [(0, .ref b), (1, .ref (n0 + 0)), (2, .ref (n0 + 59)), (3, .int (nI (i + 9)))] dL_law_2342 rfl q_nadd (Nat.le_of_ble_eq_true rfl) rfl ?_
  refine yh_goto 18 dL_law_2345 (by decide) ?_
  exact ZH.ofG hP
theorem lw_table (hG : G.2.2.2 3 = (b, Lx, xs)) (hi : i + 9 ≤ Lx) (hLx : Lx ≤ 4608) (h0 : 0 < K.1) (h12 : (K.2.1 0).1 = 12) (hdc : dc + 1 ≤ d) (hdr : dr + 1 ≤ d)
    (hop : OpA n0 xX12_table xX13_table dc dr mc ms [.int (xs (i + 1)), .int (xs (i + 2)), .int (xs (i + 3))] K I L (fun K' I' L' => ZG G n0 xL_law d rc rs 18 [(0, .ref b), (1, .ref (n0 + 0)), (2, .ref (n0 + 59)), (3, .int (nI (i + 9)))] [] K' I' L' Q)) :
    ZH G n0 xL_law d (rc + mc) (rs + ms) 279 [(0, .ref b), (1, .ref (n0 + 0)), (2, .ref (n0 + 59)), (3, .int (nI i))] [] K I L Q := by
  refine yh_aload_n 1 dL_law_279 rfl ?_
  refine yh_aload_n 0 dL_law_280 rfl ?_
  refine yh_iload_n 3 dL_law_281 rfl ?_
  refine yh_iconst 1 dL_law_282 (by decide) ?_
  refine yh_iadd dL_law_283 ?_
  refine yh_sld hG dL_law_284 (law_ix (c := 1) (j := 1) rfl hi hLx (by omega)) ?_
  rw [law_cl (c := 1) (j := 1) rfl hi hLx (by omega)]
  refine yh_aload_n 0 dL_law_285 rfl ?_
  refine yh_iload_n 3 dL_law_286 rfl ?_
  refine yh_iconst 2 dL_law_287 (by decide) ?_
  refine yh_iadd dL_law_288 ?_
  refine yh_sld hG dL_law_289 (law_ix (c := 2) (j := 2) rfl hi hLx (by omega)) ?_
  rw [law_cl (c := 2) (j := 2) rfl hi hLx (by omega)]
  refine yh_aload_n 0 dL_law_290 rfl ?_
  refine yh_iload_n 3 dL_law_291 rfl ?_
  refine yh_iconst 3 dL_law_292 (by decide) ?_
  refine yh_iadd dL_law_293 ?_
  refine yh_sld hG dL_law_294 (law_ix (c := 3) (j := 3) rfl hi hLx (by omega)) ?_
  rw [law_cl (c := 3) (j := 3) rfl hi hLx (by omega)]
  refine yh_callV (rc := rc) (rs := rs) (mc1 := mc) (ms1 := ms) (k := 0) (c := 12) (As := [.int (xs (i + 1)), .int (xs (i + 2)), .int (xs (i + 3))]) dL_law_295 hy_X12_table h0 h12 (by decide) wg_466 wg_467 wg_468 hdc (Nat.le_of_ble_eq_true rfl) (RM.mono hop ?_)
  clear hop
  rintro vv K1 I1 L1 ⟨r, rfl, hop⟩
  change ZH G n0 xL_law d rc rs _ _ [.int r] K1 I1 L1 Q
  refine yh_aload_n 2 dL_law_298 rfl ?_
  refine yh_aload_n 0 dL_law_299 rfl ?_
  refine yh_iload_n 3 dL_law_300 rfl ?_
  refine yh_iconst 1 dL_law_301 (by decide) ?_
  refine yh_iadd dL_law_302 ?_
  refine yh_sld hG dL_law_303 (law_ix (c := 1) (j := 1) rfl hi hLx (by omega)) ?_
  rw [law_cl (c := 1) (j := 1) rfl hi hLx (by omega)]
  refine yh_aload_n 0 dL_law_304 rfl ?_
  refine yh_iload_n 3 dL_law_305 rfl ?_
  refine yh_iconst 2 dL_law_306 (by decide) ?_
  refine yh_iadd dL_law_307 ?_
  refine yh_sld hG dL_law_308 (law_ix (c := 2) (j := 2) rfl hi hLx (by omega)) ?_
  rw [law_cl (c := 2) (j := 2) rfl hi hLx (by omega)]
  refine yh_aload_n 0 dL_law_309 rfl ?_
  refine yh_iload_n 3 dL_law_310 rfl ?_
  refine yh_iconst 3 dL_law_311 (by decide) ?_
  refine yh_iadd dL_law_312 ?_
  refine yh_sld hG dL_law_313 (law_ix (c := 3) (j := 3) rfl hi hLx (by omega)) ?_
  rw [law_cl (c := 3) (j := 3) rfl hi hLx (by omega)]
  refine yh_callM (As := [.int (xs (i + 1)), .int (xs (i + 2)), .int (xs (i + 3))]) (st := [.int r]) dL_law_314 hy_X13_table wg_1782 wg_1783 wg_1784 hdr (Nat.le_of_ble_eq_true rfl) (RM0.mono hop ?_)
  clear hop
  rintro vv I2 L2 ⟨rfl, hP⟩
  change ZH G n0 xL_law d rc rs _ _ [.int r, .int r] K1 I2 L2 Q
  refine yh_icmp_eq 2342 dL_law_317 (by decide) (fun _ => ?_) (fun z => absurd rfl z)
  refine yh_iinc (j := 3) (nI (i + 9)) [1, 2, 3, 0] [(0, .ref b), (1, .ref (n0 + 0)), (2, .ref (n0 + 59)), (3, .int (nI (i + 9)))] dL_law_2342 rfl q_nadd (Nat.le_of_ble_eq_true rfl) rfl ?_
  refine yh_goto 18 dL_law_2345 (by decide) ?_
  exact ZH.ofG hP
theorem lw_tabled (hG : G.2.2.2 3 = (b, Lx, xs)) (hi : i + 9 ≤ Lx) (hLx : Lx ≤ 4608) (h0 : 0 < K.1) (h12 : (K.2.1 0).1 = 12) (hdc : dc + 1 ≤ d) (hdr : dr + 1 ≤ d)
    (hop : OpA n0 xX12_tabled xX13_tabled dc dr mc ms [.int (xs (i + 1)), .int (xs (i + 2)), .int (xs (i + 3))] K I L (fun K' I' L' => ZG G n0 xL_law d rc rs 18 [(0, .ref b), (1, .ref (n0 + 0)), (2, .ref (n0 + 59)), (3, .int (nI (i + 9)))] [] K' I' L' Q)) :
    ZH G n0 xL_law d (rc + mc) (rs + ms) 322 [(0, .ref b), (1, .ref (n0 + 0)), (2, .ref (n0 + 59)), (3, .int (nI i))] [] K I L Q := by
  refine yh_aload_n 1 dL_law_322 rfl ?_
  refine yh_aload_n 0 dL_law_323 rfl ?_
  refine yh_iload_n 3 dL_law_324 rfl ?_
  refine yh_iconst 1 dL_law_325 (by decide) ?_
  refine yh_iadd dL_law_326 ?_
  refine yh_sld hG dL_law_327 (law_ix (c := 1) (j := 1) rfl hi hLx (by omega)) ?_
  rw [law_cl (c := 1) (j := 1) rfl hi hLx (by omega)]
  refine yh_aload_n 0 dL_law_328 rfl ?_
  refine yh_iload_n 3 dL_law_329 rfl ?_
  refine yh_iconst 2 dL_law_330 (by decide) ?_
  refine yh_iadd dL_law_331 ?_
  refine yh_sld hG dL_law_332 (law_ix (c := 2) (j := 2) rfl hi hLx (by omega)) ?_
  rw [law_cl (c := 2) (j := 2) rfl hi hLx (by omega)]
  refine yh_aload_n 0 dL_law_333 rfl ?_
  refine yh_iload_n 3 dL_law_334 rfl ?_
  refine yh_iconst 3 dL_law_335 (by decide) ?_
  refine yh_iadd dL_law_336 ?_
  refine yh_sld hG dL_law_337 (law_ix (c := 3) (j := 3) rfl hi hLx (by omega)) ?_
  rw [law_cl (c := 3) (j := 3) rfl hi hLx (by omega)]
  refine yh_callV (rc := rc) (rs := rs) (mc1 := mc) (ms1 := ms) (k := 0) (c := 12) (As := [.int (xs (i + 1)), .int (xs (i + 2)), .int (xs (i + 3))]) dL_law_338 hy_X12_tabled h0 h12 (by decide) wg_501 wg_502 wg_503 hdc (Nat.le_of_ble_eq_true rfl) (RM.mono hop ?_)
  clear hop
  rintro vv K1 I1 L1 ⟨r, rfl, hop⟩
  change ZH G n0 xL_law d rc rs _ _ [.int r] K1 I1 L1 Q
  refine yh_aload_n 2 dL_law_341 rfl ?_
  refine yh_aload_n 0 dL_law_342 rfl ?_
  refine yh_iload_n 3 dL_law_343 rfl ?_
  refine yh_iconst 1 dL_law_344 (by decide) ?_
  refine yh_iadd dL_law_345 ?_
  refine yh_sld hG dL_law_346 (law_ix (c := 1) (j := 1) rfl hi hLx (by omega)) ?_
  rw [law_cl (c := 1) (j := 1) rfl hi hLx (by omega)]
  refine yh_aload_n 0 dL_law_347 rfl ?_
  refine yh_iload_n 3 dL_law_348 rfl ?_
  refine yh_iconst 2 dL_law_349 (by decide) ?_
  refine yh_iadd dL_law_350 ?_
  refine yh_sld hG dL_law_351 (law_ix (c := 2) (j := 2) rfl hi hLx (by omega)) ?_
  rw [law_cl (c := 2) (j := 2) rfl hi hLx (by omega)]
  refine yh_aload_n 0 dL_law_352 rfl ?_
  refine yh_iload_n 3 dL_law_353 rfl ?_
  refine yh_iconst 3 dL_law_354 (by decide) ?_
  refine yh_iadd dL_law_355 ?_
  refine yh_sld hG dL_law_356 (law_ix (c := 3) (j := 3) rfl hi hLx (by omega)) ?_
  rw [law_cl (c := 3) (j := 3) rfl hi hLx (by omega)]
  refine yh_callM (As := [.int (xs (i + 1)), .int (xs (i + 2)), .int (xs (i + 3))]) (st := [.int r]) dL_law_357 hy_X13_tabled wg_1804 wg_1805 wg_1806 hdr (Nat.le_of_ble_eq_true rfl) (RM0.mono hop ?_)
  clear hop
  rintro vv I2 L2 ⟨rfl, hP⟩
  change ZH G n0 xL_law d rc rs _ _ [.int r, .int r] K1 I2 L2 Q
  refine yh_icmp_eq 2342 dL_law_360 (by decide) (fun _ => ?_) (fun z => absurd rfl z)
  refine yh_iinc (j := 3) (nI (i + 9)) [1, 2, 3, 0] [(0, .ref b), (1, .ref (n0 + 0)), (2, .ref (n0 + 59)), (3, .int (nI (i + 9)))] dL_law_2342 rfl q_nadd (Nat.le_of_ble_eq_true rfl) rfl ?_
  refine yh_goto 18 dL_law_2345 (by decide) ?_
  exact ZH.ofG hP
theorem lw_body (hG : G.2.2.2 3 = (b, Lx, xs)) (hi : i + 9 ≤ Lx) (hLx : Lx ≤ 4608) (h0 : 0 < K.1) (h12 : (K.2.1 0).1 = 12) (hdc : dc + 1 ≤ d) (hdr : dr + 1 ≤ d)
    (hop : OpA n0 xX12_body xX13_body dc dr mc ms [.int (xs (i + 1))] K I L (fun K' I' L' => ZG G n0 xL_law d rc rs 18 [(0, .ref b), (1, .ref (n0 + 0)), (2, .ref (n0 + 59)), (3, .int (nI (i + 9)))] [] K' I' L' Q)) :
    ZH G n0 xL_law d (rc + mc) (rs + ms) 365 [(0, .ref b), (1, .ref (n0 + 0)), (2, .ref (n0 + 59)), (3, .int (nI i))] [] K I L Q := by
  refine yh_aload_n 1 dL_law_365 rfl ?_
  refine yh_aload_n 0 dL_law_366 rfl ?_
  refine yh_iload_n 3 dL_law_367 rfl ?_
  refine yh_iconst 1 dL_law_368 (by decide) ?_
  refine yh_iadd dL_law_369 ?_
  refine yh_sld hG dL_law_370 (law_ix (c := 1) (j := 1) rfl hi hLx (by omega)) ?_
  rw [law_cl (c := 1) (j := 1) rfl hi hLx (by omega)]
  refine yh_callV (rc := rc) (rs := rs) (mc1 := mc) (ms1 := ms) (k := 0) (c := 12) (As := [.int (xs (i + 1))]) dL_law_371 hy_X12_body h0 h12 (by decide) wg_505 wg_506 wg_507 hdc (Nat.le_of_ble_eq_true rfl) (RM.mono hop ?_)
  clear hop
  rintro vv K1 I1 L1 ⟨r, rfl, hop⟩
  change ZH G n0 xL_law d rc rs _ _ [.int r] K1 I1 L1 Q
  refine yh_aload_n 2 dL_law_374 rfl ?_
  refine yh_aload_n 0 dL_law_375 rfl ?_
  refine yh_iload_n 3 dL_law_376 rfl ?_
  refine yh_iconst 1 dL_law_377 (by decide) ?_
  refine yh_iadd dL_law_378 ?_
  refine yh_sld hG dL_law_379 (law_ix (c := 1) (j := 1) rfl hi hLx (by omega)) ?_
  rw [law_cl (c := 1) (j := 1) rfl hi hLx (by omega)]
  refine yh_callM (As := [.int (xs (i + 1))]) (st := [.int r]) dL_law_380 hy_X13_body wg_1808 wg_1809 wg_1810 hdr (Nat.le_of_ble_eq_true rfl) (RM0.mono hop ?_)
  clear hop
  rintro vv I2 L2 ⟨rfl, hP⟩
  change ZH G n0 xL_law d rc rs _ _ [.int r, .int r] K1 I2 L2 Q
  refine yh_icmp_eq 2342 dL_law_383 (by decide) (fun _ => ?_) (fun z => absurd rfl z)
  refine yh_iinc (j := 3) (nI (i + 9)) [1, 2, 3, 0] [(0, .ref b), (1, .ref (n0 + 0)), (2, .ref (n0 + 59)), (3, .int (nI (i + 9)))] dL_law_2342 rfl q_nadd (Nat.le_of_ble_eq_true rfl) rfl ?_
  refine yh_goto 18 dL_law_2345 (by decide) ?_
  exact ZH.ofG hP
theorem lw_measure (hG : G.2.2.2 3 = (b, Lx, xs)) (hi : i + 9 ≤ Lx) (hLx : Lx ≤ 4608) (h0 : 0 < K.1) (h12 : (K.2.1 0).1 = 12) (hdc : dc + 1 ≤ d) (hdr : dr + 1 ≤ d)
    (hop : OpA n0 xX12_measure xX13_measure dc dr mc ms [.int (xs (i + 1)), .int (xs (i + 2)), .int (xs (i + 3))] K I L (fun K' I' L' => ZG G n0 xL_law d rc rs 18 [(0, .ref b), (1, .ref (n0 + 0)), (2, .ref (n0 + 59)), (3, .int (nI (i + 9)))] [] K' I' L' Q)) :
    ZH G n0 xL_law d (rc + mc) (rs + ms) 388 [(0, .ref b), (1, .ref (n0 + 0)), (2, .ref (n0 + 59)), (3, .int (nI i))] [] K I L Q := by
  refine yh_aload_n 1 dL_law_388 rfl ?_
  refine yh_aload_n 0 dL_law_389 rfl ?_
  refine yh_iload_n 3 dL_law_390 rfl ?_
  refine yh_iconst 1 dL_law_391 (by decide) ?_
  refine yh_iadd dL_law_392 ?_
  refine yh_sld hG dL_law_393 (law_ix (c := 1) (j := 1) rfl hi hLx (by omega)) ?_
  rw [law_cl (c := 1) (j := 1) rfl hi hLx (by omega)]
  refine yh_aload_n 0 dL_law_394 rfl ?_
  refine yh_iload_n 3 dL_law_395 rfl ?_
  refine yh_iconst 2 dL_law_396 (by decide) ?_
  refine yh_iadd dL_law_397 ?_
  refine yh_sld hG dL_law_398 (law_ix (c := 2) (j := 2) rfl hi hLx (by omega)) ?_
  rw [law_cl (c := 2) (j := 2) rfl hi hLx (by omega)]
  refine yh_aload_n 0 dL_law_399 rfl ?_
  refine yh_iload_n 3 dL_law_400 rfl ?_
  refine yh_iconst 3 dL_law_401 (by decide) ?_
  refine yh_iadd dL_law_402 ?_
  refine yh_sld hG dL_law_403 (law_ix (c := 3) (j := 3) rfl hi hLx (by omega)) ?_
  rw [law_cl (c := 3) (j := 3) rfl hi hLx (by omega)]
  refine yh_callV (rc := rc) (rs := rs) (mc1 := mc) (ms1 := ms) (k := 0) (c := 12) (As := [.int (xs (i + 1)), .int (xs (i + 2)), .int (xs (i + 3))]) dL_law_404 hy_X12_measure h0 h12 (by decide) wg_547 wg_548 wg_549 hdc (Nat.le_of_ble_eq_true rfl) (RM.mono hop ?_)
  clear hop
  rintro vv K1 I1 L1 ⟨r, rfl, hop⟩
  change ZH G n0 xL_law d rc rs _ _ [.int r] K1 I1 L1 Q
  refine yh_aload_n 2 dL_law_407 rfl ?_
  refine yh_aload_n 0 dL_law_408 rfl ?_
  refine yh_iload_n 3 dL_law_409 rfl ?_
  refine yh_iconst 1 dL_law_410 (by decide) ?_
  refine yh_iadd dL_law_411 ?_
  refine yh_sld hG dL_law_412 (law_ix (c := 1) (j := 1) rfl hi hLx (by omega)) ?_
  rw [law_cl (c := 1) (j := 1) rfl hi hLx (by omega)]
  refine yh_aload_n 0 dL_law_413 rfl ?_
  refine yh_iload_n 3 dL_law_414 rfl ?_
  refine yh_iconst 2 dL_law_415 (by decide) ?_
  refine yh_iadd dL_law_416 ?_
  refine yh_sld hG dL_law_417 (law_ix (c := 2) (j := 2) rfl hi hLx (by omega)) ?_
  rw [law_cl (c := 2) (j := 2) rfl hi hLx (by omega)]
  refine yh_aload_n 0 dL_law_418 rfl ?_
  refine yh_iload_n 3 dL_law_419 rfl ?_
  refine yh_iconst 3 dL_law_420 (by decide) ?_
  refine yh_iadd dL_law_421 ?_
  refine yh_sld hG dL_law_422 (law_ix (c := 3) (j := 3) rfl hi hLx (by omega)) ?_
  rw [law_cl (c := 3) (j := 3) rfl hi hLx (by omega)]
  refine yh_callM (As := [.int (xs (i + 1)), .int (xs (i + 2)), .int (xs (i + 3))]) (st := [.int r]) dL_law_423 hy_X13_measure wg_1812 wg_1813 wg_1814 hdr (Nat.le_of_ble_eq_true rfl) (RM0.mono hop ?_)
  clear hop
  rintro vv I2 L2 ⟨rfl, hP⟩
  change ZH G n0 xL_law d rc rs _ _ [.int r, .int r] K1 I2 L2 Q
  refine yh_icmp_eq 2342 dL_law_426 (by decide) (fun _ => ?_) (fun z => absurd rfl z)
  refine yh_iinc (j := 3) (nI (i + 9)) [1, 2, 3, 0] [(0, .ref b), (1, .ref (n0 + 0)), (2, .ref (n0 + 59)), (3, .int (nI (i + 9)))] dL_law_2342 rfl q_nadd (Nat.le_of_ble_eq_true rfl) rfl ?_
  refine yh_goto 18 dL_law_2345 (by decide) ?_
  exact ZH.ofG hP
theorem lw_measured (hG : G.2.2.2 3 = (b, Lx, xs)) (hi : i + 9 ≤ Lx) (hLx : Lx ≤ 4608) (h0 : 0 < K.1) (h12 : (K.2.1 0).1 = 12) (hdc : dc + 1 ≤ d) (hdr : dr + 1 ≤ d)
    (hop : OpA n0 xX12_measured xX13_measured dc dr mc ms [.int (xs (i + 1)), .int (xs (i + 2))] K I L (fun K' I' L' => ZG G n0 xL_law d rc rs 18 [(0, .ref b), (1, .ref (n0 + 0)), (2, .ref (n0 + 59)), (3, .int (nI (i + 9)))] [] K' I' L' Q)) :
    ZH G n0 xL_law d (rc + mc) (rs + ms) 431 [(0, .ref b), (1, .ref (n0 + 0)), (2, .ref (n0 + 59)), (3, .int (nI i))] [] K I L Q := by
  refine yh_aload_n 1 dL_law_431 rfl ?_
  refine yh_aload_n 0 dL_law_432 rfl ?_
  refine yh_iload_n 3 dL_law_433 rfl ?_
  refine yh_iconst 1 dL_law_434 (by decide) ?_
  refine yh_iadd dL_law_435 ?_
  refine yh_sld hG dL_law_436 (law_ix (c := 1) (j := 1) rfl hi hLx (by omega)) ?_
  rw [law_cl (c := 1) (j := 1) rfl hi hLx (by omega)]
  refine yh_aload_n 0 dL_law_437 rfl ?_
  refine yh_iload_n 3 dL_law_438 rfl ?_
  refine yh_iconst 2 dL_law_439 (by decide) ?_
  refine yh_iadd dL_law_440 ?_
  refine yh_sld hG dL_law_441 (law_ix (c := 2) (j := 2) rfl hi hLx (by omega)) ?_
  rw [law_cl (c := 2) (j := 2) rfl hi hLx (by omega)]
  refine yh_callV (rc := rc) (rs := rs) (mc1 := mc) (ms1 := ms) (k := 0) (c := 12) (As := [.int (xs (i + 1)), .int (xs (i + 2))]) dL_law_442 hy_X12_measured h0 h12 (by decide) wg_560 wg_561 wg_562 hdc (Nat.le_of_ble_eq_true rfl) (RM.mono hop ?_)
  clear hop
  rintro vv K1 I1 L1 ⟨r, rfl, hop⟩
  change ZH G n0 xL_law d rc rs _ _ [.int r] K1 I1 L1 Q
  refine yh_aload_n 2 dL_law_445 rfl ?_
  refine yh_aload_n 0 dL_law_446 rfl ?_
  refine yh_iload_n 3 dL_law_447 rfl ?_
  refine yh_iconst 1 dL_law_448 (by decide) ?_
  refine yh_iadd dL_law_449 ?_
  refine yh_sld hG dL_law_450 (law_ix (c := 1) (j := 1) rfl hi hLx (by omega)) ?_
  rw [law_cl (c := 1) (j := 1) rfl hi hLx (by omega)]
  refine yh_aload_n 0 dL_law_451 rfl ?_
  refine yh_iload_n 3 dL_law_452 rfl ?_
  refine yh_iconst 2 dL_law_453 (by decide) ?_
  refine yh_iadd dL_law_454 ?_
  refine yh_sld hG dL_law_455 (law_ix (c := 2) (j := 2) rfl hi hLx (by omega)) ?_
  rw [law_cl (c := 2) (j := 2) rfl hi hLx (by omega)]
  refine yh_callM (As := [.int (xs (i + 1)), .int (xs (i + 2))]) (st := [.int r]) dL_law_456 hy_X13_measured wg_1825 wg_1826 wg_1827 hdr (Nat.le_of_ble_eq_true rfl) (RM0.mono hop ?_)
  clear hop
  rintro vv I2 L2 ⟨rfl, hP⟩
  change ZH G n0 xL_law d rc rs _ _ [.int r, .int r] K1 I2 L2 Q
  refine yh_icmp_eq 2342 dL_law_459 (by decide) (fun _ => ?_) (fun z => absurd rfl z)
  refine yh_iinc (j := 3) (nI (i + 9)) [1, 2, 3, 0] [(0, .ref b), (1, .ref (n0 + 0)), (2, .ref (n0 + 59)), (3, .int (nI (i + 9)))] dL_law_2342 rfl q_nadd (Nat.le_of_ble_eq_true rfl) rfl ?_
  refine yh_goto 18 dL_law_2345 (by decide) ?_
  exact ZH.ofG hP
theorem lw_piece (hG : G.2.2.2 3 = (b, Lx, xs)) (hi : i + 9 ≤ Lx) (hLx : Lx ≤ 4608) (h0 : 0 < K.1) (h12 : (K.2.1 0).1 = 12) (hdc : dc + 1 ≤ d) (hdr : dr + 1 ≤ d)
    (hop : OpA n0 xX12_piece xX13_piece dc dr mc ms [.int (xs (i + 1)), .int (xs (i + 2)), .int (xs (i + 3))] K I L (fun K' I' L' => ZG G n0 xL_law d rc rs 18 [(0, .ref b), (1, .ref (n0 + 0)), (2, .ref (n0 + 59)), (3, .int (nI (i + 9)))] [] K' I' L' Q)) :
    ZH G n0 xL_law d (rc + mc) (rs + ms) 464 [(0, .ref b), (1, .ref (n0 + 0)), (2, .ref (n0 + 59)), (3, .int (nI i))] [] K I L Q := by
  refine yh_aload_n 1 dL_law_464 rfl ?_
  refine yh_aload_n 0 dL_law_465 rfl ?_
  refine yh_iload_n 3 dL_law_466 rfl ?_
  refine yh_iconst 1 dL_law_467 (by decide) ?_
  refine yh_iadd dL_law_468 ?_
  refine yh_sld hG dL_law_469 (law_ix (c := 1) (j := 1) rfl hi hLx (by omega)) ?_
  rw [law_cl (c := 1) (j := 1) rfl hi hLx (by omega)]
  refine yh_aload_n 0 dL_law_470 rfl ?_
  refine yh_iload_n 3 dL_law_471 rfl ?_
  refine yh_iconst 2 dL_law_472 (by decide) ?_
  refine yh_iadd dL_law_473 ?_
  refine yh_sld hG dL_law_474 (law_ix (c := 2) (j := 2) rfl hi hLx (by omega)) ?_
  rw [law_cl (c := 2) (j := 2) rfl hi hLx (by omega)]
  refine yh_aload_n 0 dL_law_475 rfl ?_
  refine yh_iload_n 3 dL_law_476 rfl ?_
  refine yh_iconst 3 dL_law_477 (by decide) ?_
  refine yh_iadd dL_law_478 ?_
  refine yh_sld hG dL_law_479 (law_ix (c := 3) (j := 3) rfl hi hLx (by omega)) ?_
  rw [law_cl (c := 3) (j := 3) rfl hi hLx (by omega)]
  refine yh_callV (rc := rc) (rs := rs) (mc1 := mc) (ms1 := ms) (k := 0) (c := 12) (As := [.int (xs (i + 1)), .int (xs (i + 2)), .int (xs (i + 3))]) dL_law_480 hy_X12_piece h0 h12 (by decide) wg_568 wg_569 wg_570 hdc (Nat.le_of_ble_eq_true rfl) (RM.mono hop ?_)
  clear hop
  rintro vv K1 I1 L1 ⟨r, rfl, hop⟩
  change ZH G n0 xL_law d rc rs _ _ [.int r] K1 I1 L1 Q
  refine yh_aload_n 2 dL_law_483 rfl ?_
  refine yh_aload_n 0 dL_law_484 rfl ?_
  refine yh_iload_n 3 dL_law_485 rfl ?_
  refine yh_iconst 1 dL_law_486 (by decide) ?_
  refine yh_iadd dL_law_487 ?_
  refine yh_sld hG dL_law_488 (law_ix (c := 1) (j := 1) rfl hi hLx (by omega)) ?_
  rw [law_cl (c := 1) (j := 1) rfl hi hLx (by omega)]
  refine yh_aload_n 0 dL_law_489 rfl ?_
  refine yh_iload_n 3 dL_law_490 rfl ?_
  refine yh_iconst 2 dL_law_491 (by decide) ?_
  refine yh_iadd dL_law_492 ?_
  refine yh_sld hG dL_law_493 (law_ix (c := 2) (j := 2) rfl hi hLx (by omega)) ?_
  rw [law_cl (c := 2) (j := 2) rfl hi hLx (by omega)]
  refine yh_aload_n 0 dL_law_494 rfl ?_
  refine yh_iload_n 3 dL_law_495 rfl ?_
  refine yh_iconst 3 dL_law_496 (by decide) ?_
  refine yh_iadd dL_law_497 ?_
  refine yh_sld hG dL_law_498 (law_ix (c := 3) (j := 3) rfl hi hLx (by omega)) ?_
  rw [law_cl (c := 3) (j := 3) rfl hi hLx (by omega)]
  refine yh_callM (As := [.int (xs (i + 1)), .int (xs (i + 2)), .int (xs (i + 3))]) (st := [.int r]) dL_law_499 hy_X13_piece wg_1833 wg_1834 wg_1835 hdr (Nat.le_of_ble_eq_true rfl) (RM0.mono hop ?_)
  clear hop
  rintro vv I2 L2 ⟨rfl, hP⟩
  change ZH G n0 xL_law d rc rs _ _ [.int r, .int r] K1 I2 L2 Q
  refine yh_icmp_eq 2342 dL_law_502 (by decide) (fun _ => ?_) (fun z => absurd rfl z)
  refine yh_iinc (j := 3) (nI (i + 9)) [1, 2, 3, 0] [(0, .ref b), (1, .ref (n0 + 0)), (2, .ref (n0 + 59)), (3, .int (nI (i + 9)))] dL_law_2342 rfl q_nadd (Nat.le_of_ble_eq_true rfl) rfl ?_
  refine yh_goto 18 dL_law_2345 (by decide) ?_
  exact ZH.ofG hP
end LAWC
