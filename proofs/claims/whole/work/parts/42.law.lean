theorem dL_law_395 : decode cL_law 395 = .ok (.aload_n 1, 1) := by decide +kernel
theorem dL_law_396 : decode cL_law 396 = .ok (.aload_n 0, 1) := by decide +kernel
theorem dL_law_397 : decode cL_law 397 = .ok (.iload_n 3, 1) := by decide +kernel
theorem dL_law_398 : decode cL_law 398 = .ok (.iconst 1, 1) := by decide +kernel
theorem dL_law_399 : decode cL_law 399 = .ok (.iadd, 1) := by decide +kernel
theorem dL_law_400 : decode cL_law 400 = .ok (.iaload, 1) := by decide +kernel
theorem dL_law_401 : decode cL_law 401 = .ok (.aload_n 0, 1) := by decide +kernel
theorem dL_law_402 : decode cL_law 402 = .ok (.iload_n 3, 1) := by decide +kernel
theorem dL_law_403 : decode cL_law 403 = .ok (.iconst 2, 1) := by decide +kernel
theorem dL_law_404 : decode cL_law 404 = .ok (.iadd, 1) := by decide +kernel
theorem dL_law_405 : decode cL_law 405 = .ok (.iaload, 1) := by decide +kernel
theorem dL_law_406 : decode cL_law 406 = .ok (.i2l, 1) := by decide +kernel
theorem dL_law_407 : decode cL_law 407 = .ok (.bipush 32, 2) := by decide +kernel
theorem dL_law_409 : decode cL_law 409 = .ok (.lshl, 1) := by decide +kernel
theorem dL_law_410 : decode cL_law 410 = .ok (.aload_n 0, 1) := by decide +kernel
theorem dL_law_411 : decode cL_law 411 = .ok (.iload_n 3, 1) := by decide +kernel
theorem dL_law_412 : decode cL_law 412 = .ok (.iconst 3, 1) := by decide +kernel
theorem dL_law_413 : decode cL_law 413 = .ok (.iadd, 1) := by decide +kernel
theorem dL_law_414 : decode cL_law 414 = .ok (.iaload, 1) := by decide +kernel
theorem dL_law_415 : decode cL_law 415 = .ok (.i2l, 1) := by decide +kernel
theorem dL_law_416 : decode cL_law 416 = .ok (.ldc2_w 37, 3) := by decide +kernel
theorem dL_law_419 : decode cL_law 419 = .ok (.land, 1) := by decide +kernel
theorem dL_law_420 : decode cL_law 420 = .ok (.lor, 1) := by decide +kernel
theorem dL_law_421 : decode cL_law 421 = .ok (.invokevirtual 39, 3) := by decide +kernel
theorem dL_law_424 : decode cL_law 424 = .ok (.aload_n 2, 1) := by decide +kernel
theorem dL_law_425 : decode cL_law 425 = .ok (.aload_n 0, 1) := by decide +kernel
theorem dL_law_426 : decode cL_law 426 = .ok (.iload_n 3, 1) := by decide +kernel
theorem dL_law_427 : decode cL_law 427 = .ok (.iconst 1, 1) := by decide +kernel
theorem dL_law_428 : decode cL_law 428 = .ok (.iadd, 1) := by decide +kernel
theorem dL_law_429 : decode cL_law 429 = .ok (.iaload, 1) := by decide +kernel
theorem dL_law_430 : decode cL_law 430 = .ok (.aload_n 0, 1) := by decide +kernel
theorem dL_law_431 : decode cL_law 431 = .ok (.iload_n 3, 1) := by decide +kernel
theorem dL_law_432 : decode cL_law 432 = .ok (.iconst 2, 1) := by decide +kernel
theorem dL_law_433 : decode cL_law 433 = .ok (.iadd, 1) := by decide +kernel
theorem dL_law_434 : decode cL_law 434 = .ok (.iaload, 1) := by decide +kernel
theorem dL_law_435 : decode cL_law 435 = .ok (.i2l, 1) := by decide +kernel
theorem dL_law_436 : decode cL_law 436 = .ok (.bipush 32, 2) := by decide +kernel
theorem dL_law_438 : decode cL_law 438 = .ok (.lshl, 1) := by decide +kernel
theorem dL_law_439 : decode cL_law 439 = .ok (.aload_n 0, 1) := by decide +kernel
theorem dL_law_440 : decode cL_law 440 = .ok (.iload_n 3, 1) := by decide +kernel
theorem dL_law_441 : decode cL_law 441 = .ok (.iconst 3, 1) := by decide +kernel
theorem dL_law_442 : decode cL_law 442 = .ok (.iadd, 1) := by decide +kernel
theorem dL_law_443 : decode cL_law 443 = .ok (.iaload, 1) := by decide +kernel
theorem dL_law_444 : decode cL_law 444 = .ok (.i2l, 1) := by decide +kernel
theorem dL_law_445 : decode cL_law 445 = .ok (.ldc2_w 37, 3) := by decide +kernel
theorem dL_law_448 : decode cL_law 448 = .ok (.land, 1) := by decide +kernel
theorem dL_law_449 : decode cL_law 449 = .ok (.lor, 1) := by decide +kernel
theorem dL_law_450 : decode cL_law 450 = .ok (.invokevirtual 43, 3) := by decide +kernel
theorem dL_law_453 : decode cL_law 453 = .ok (.lcmp, 1) := by decide +kernel
theorem dL_law_454 : decode cL_law 454 = .ok (.ifCond .eq 1328, 3) := by decide +kernel
theorem dL_law_457 : decode cL_law 457 = .ok (.iconst 0, 1) := by decide +kernel
theorem dL_law_458 : decode cL_law 458 = .ok (.ireturn, 1) := by decide +kernel
set_option maxRecDepth 100000 in
set_option maxHeartbeats 4000000 in
theorem case_5 {p : Program} {l : Launch} {e : Env} {s : State} {m : MethodId} {args : Array Value} {below : List Frame} {meth : Method} {c : Code} {D : va_G} {ac : Nat → ClassId} {A : Nat → Prop} {Q : State → Prop} {adX adM : Nat → Nat} {b n nc ns : Nat} {xs : Nat → Int32} {N : Nat} {Rel : Mem → Mem → Prop} (hp : PureOk N Rel) (C : LC p s m args c D ac A adX adM b n xs) (hnc : nc ≤ 600000) (hns : ns ≤ 7302250) {x3 : Int32} (hi1 : vp_in (x3 + 1) n) (hi2 : vp_in (x3 + 2) n) (hi3 : vp_in (x3 + 3) n) (hi4 : vp_in (x3 + 4) n) (hi5 : vp_in (x3 + 5) n) (Mx Mm : Mem) (hrel : Rel Mx Mm) (next : ∀ Mx2 Mm2, Rel Mx2 Mm2 → Ac p l e room_1 s m args below meth c D A 4 Q 1782 [(0, .ref b), (1, .ref (adX 0)), (2, .ref (adM 0)), (3, .int x3)] [] (wXM ac adX adM Mx2 Mm2) nc ns) : Ac p l e room_1 s m args below meth c D A 4 Q 395 [(0, .ref b), (1, .ref (adX 0)), (2, .ref (adM 0)), (3, .int x3)] [] (wXM ac adX adM Mx Mm) nc ns := by
  obtain ⟨r, Mx2, Mm2, hx, hm, hrel2⟩ := (hp.2.2.2.2.2.2.1) Mx Mm (xs (x3 + 1).toNatClampNeg) (((xs (x3 + 2).toNatClampNeg).toInt64 <<< ((32 : Int32).toInt64 &&& 63)) ||| ((xs (x3 + 3).toNatClampNeg).toInt64 &&& 4294967295)) hrel
  refine c_aload_n (pc := 395) C.1 dL_law_395 1 rfl ?_
  refine c_aload_n (pc := 396) C.1 dL_law_396 0 rfl ?_
  refine c_iload_n (pc := 397) C.1 dL_law_397 3 rfl ?_
  refine c_iconst (pc := 398) (v := 1) C.1 dL_law_398 (by decide) ?_
  refine c_iadd (pc := 399) C.1 dL_law_399 ?_
  refine c_sld (pc := 400) C dL_law_400 hi1 ?_
  refine c_aload_n (pc := 401) C.1 dL_law_401 0 rfl ?_
  refine c_iload_n (pc := 402) C.1 dL_law_402 3 rfl ?_
  refine c_iconst (pc := 403) (v := 2) C.1 dL_law_403 (by decide) ?_
  refine c_iadd (pc := 404) C.1 dL_law_404 ?_
  refine c_sld (pc := 405) C dL_law_405 hi2 ?_
  refine c_i2l (pc := 406) C.1 dL_law_406 ?_
  refine c_bipush (pc := 407) (v := 32) C.1 dL_law_407 (by decide) ?_
  refine c_lshl (pc := 409) C.1 dL_law_409 ?_
  refine c_aload_n (pc := 410) C.1 dL_law_410 0 rfl ?_
  refine c_iload_n (pc := 411) C.1 dL_law_411 3 rfl ?_
  refine c_iconst (pc := 412) (v := 3) C.1 dL_law_412 (by decide) ?_
  refine c_iadd (pc := 413) C.1 dL_law_413 ?_
  refine c_sld (pc := 414) C dL_law_414 hi3 ?_
  refine c_i2l (pc := 415) C.1 dL_law_415 ?_
  refine c_ldc2 (pc := 416) C.1 dL_law_416 cj_L_37 ?_
  refine c_land (pc := 419) C.1 dL_law_419 ?_
  refine c_lor (pc := 420) C.1 dL_law_420 ?_
  refine l_callX_J (pc := 421) C dL_law_421 ml_L_39 mc_X7_list mv_X7_list rfl [.int (xs (x3 + 1).toNatClampNeg), .long (((xs (x3 + 2).toNatClampNeg).toInt64 <<< ((32 : Int32).toInt64 &&& 63)) ||| ((xs (x3 + 3).toNatClampNeg).toInt64 &&& 4294967295))] rfl (by decide) (by decide) rfl (Nat.le_of_ble_eq_true rfl) ⟨hnc, hns⟩ (c_X7_list N (xs (x3 + 1).toNatClampNeg) (((xs (x3 + 2).toNatClampNeg).toInt64 <<< ((32 : Int32).toInt64 &&& 63)) ||| ((xs (x3 + 3).toNatClampNeg).toInt64 &&& 4294967295)) _ _ _ hx) ?_
  refine c_aload_n (pc := 424) C.1 dL_law_424 2 rfl ?_
  refine c_aload_n (pc := 425) C.1 dL_law_425 0 rfl ?_
  refine c_iload_n (pc := 426) C.1 dL_law_426 3 rfl ?_
  refine c_iconst (pc := 427) (v := 1) C.1 dL_law_427 (by decide) ?_
  refine c_iadd (pc := 428) C.1 dL_law_428 ?_
  refine c_sld (pc := 429) C dL_law_429 hi1 ?_
  refine c_aload_n (pc := 430) C.1 dL_law_430 0 rfl ?_
  refine c_iload_n (pc := 431) C.1 dL_law_431 3 rfl ?_
  refine c_iconst (pc := 432) (v := 2) C.1 dL_law_432 (by decide) ?_
  refine c_iadd (pc := 433) C.1 dL_law_433 ?_
  refine c_sld (pc := 434) C dL_law_434 hi2 ?_
  refine c_i2l (pc := 435) C.1 dL_law_435 ?_
  refine c_bipush (pc := 436) (v := 32) C.1 dL_law_436 (by decide) ?_
  refine c_lshl (pc := 438) C.1 dL_law_438 ?_
  refine c_aload_n (pc := 439) C.1 dL_law_439 0 rfl ?_
  refine c_iload_n (pc := 440) C.1 dL_law_440 3 rfl ?_
  refine c_iconst (pc := 441) (v := 3) C.1 dL_law_441 (by decide) ?_
  refine c_iadd (pc := 442) C.1 dL_law_442 ?_
  refine c_sld (pc := 443) C dL_law_443 hi3 ?_
  refine c_i2l (pc := 444) C.1 dL_law_444 ?_
  refine c_ldc2 (pc := 445) C.1 dL_law_445 cj_L_37 ?_
  refine c_land (pc := 448) C.1 dL_law_448 ?_
  refine c_lor (pc := 449) C.1 dL_law_449 ?_
  refine l_callM_J (pc := 450) C dL_law_450 ml_L_43 mc_X8_list mv_X8_list rfl [.int (xs (x3 + 1).toNatClampNeg), .long (((xs (x3 + 2).toNatClampNeg).toInt64 <<< ((32 : Int32).toInt64 &&& 63)) ||| ((xs (x3 + 3).toNatClampNeg).toInt64 &&& 4294967295))] rfl (by decide) (by decide) rfl (Nat.le_of_ble_eq_true rfl) ⟨hnc, hns⟩ (c_X8_list N (xs (x3 + 1).toNatClampNeg) (((xs (x3 + 2).toNatClampNeg).toInt64 <<< ((32 : Int32).toInt64 &&& 63)) ||| ((xs (x3 + 3).toNatClampNeg).toInt64 &&& 4294967295)) _ _ _ hm) ?_
  refine c_lcmp (pc := 453) C.1 dL_law_453 ?_
  refine c_if_eq (pc := 454) 1782 C.1 dL_law_454 (by decide) (fun _ => ?_) (fun h => absurd (lg_same r) h)
  exact next _ _ hrel2
theorem dL_law_459 : decode cL_law 459 = .ok (.aload_n 1, 1) := by decide +kernel
theorem dL_law_460 : decode cL_law 460 = .ok (.aload_n 0, 1) := by decide +kernel
theorem dL_law_461 : decode cL_law 461 = .ok (.iload_n 3, 1) := by decide +kernel
theorem dL_law_462 : decode cL_law 462 = .ok (.iconst 1, 1) := by decide +kernel
theorem dL_law_463 : decode cL_law 463 = .ok (.iadd, 1) := by decide +kernel
theorem dL_law_464 : decode cL_law 464 = .ok (.iaload, 1) := by decide +kernel
theorem dL_law_465 : decode cL_law 465 = .ok (.invokevirtual 44, 3) := by decide +kernel
theorem dL_law_468 : decode cL_law 468 = .ok (.aload_n 2, 1) := by decide +kernel
theorem dL_law_469 : decode cL_law 469 = .ok (.aload_n 0, 1) := by decide +kernel
theorem dL_law_470 : decode cL_law 470 = .ok (.iload_n 3, 1) := by decide +kernel
theorem dL_law_471 : decode cL_law 471 = .ok (.iconst 1, 1) := by decide +kernel
theorem dL_law_472 : decode cL_law 472 = .ok (.iadd, 1) := by decide +kernel
theorem dL_law_473 : decode cL_law 473 = .ok (.iaload, 1) := by decide +kernel
theorem dL_law_474 : decode cL_law 474 = .ok (.invokevirtual 47, 3) := by decide +kernel
theorem dL_law_477 : decode cL_law 477 = .ok (.if_icmp .eq 1305, 3) := by decide +kernel
theorem dL_law_480 : decode cL_law 480 = .ok (.iconst 0, 1) := by decide +kernel
theorem dL_law_481 : decode cL_law 481 = .ok (.ireturn, 1) := by decide +kernel
set_option maxRecDepth 100000 in
set_option maxHeartbeats 4000000 in
theorem case_6 {p : Program} {l : Launch} {e : Env} {s : State} {m : MethodId} {args : Array Value} {below : List Frame} {meth : Method} {c : Code} {D : va_G} {ac : Nat → ClassId} {A : Nat → Prop} {Q : State → Prop} {adX adM : Nat → Nat} {b n nc ns : Nat} {xs : Nat → Int32} {N : Nat} {Rel : Mem → Mem → Prop} (hp : PureOk N Rel) (C : LC p s m args c D ac A adX adM b n xs) (hnc : nc ≤ 600000) (hns : ns ≤ 7302250) {x3 : Int32} (hi1 : vp_in (x3 + 1) n) (hi2 : vp_in (x3 + 2) n) (hi3 : vp_in (x3 + 3) n) (hi4 : vp_in (x3 + 4) n) (hi5 : vp_in (x3 + 5) n) (Mx Mm : Mem) (hrel : Rel Mx Mm) (next : ∀ Mx2 Mm2, Rel Mx2 Mm2 → Ac p l e room_1 s m args below meth c D A 4 Q 1782 [(0, .ref b), (1, .ref (adX 0)), (2, .ref (adM 0)), (3, .int x3)] [] (wXM ac adX adM Mx2 Mm2) nc ns) : Ac p l e room_1 s m args below meth c D A 4 Q 459 [(0, .ref b), (1, .ref (adX 0)), (2, .ref (adM 0)), (3, .int x3)] [] (wXM ac adX adM Mx Mm) nc ns := by
  obtain ⟨r, hx, hm, hrel2⟩ := (hp.2.2.2.2.2.2.2.1) Mx Mm (xs (x3 + 1).toNatClampNeg) hrel
  refine c_aload_n (pc := 459) C.1 dL_law_459 1 rfl ?_
  refine c_aload_n (pc := 460) C.1 dL_law_460 0 rfl ?_
  refine c_iload_n (pc := 461) C.1 dL_law_461 3 rfl ?_
  refine c_iconst (pc := 462) (v := 1) C.1 dL_law_462 (by decide) ?_
  refine c_iadd (pc := 463) C.1 dL_law_463 ?_
  refine c_sld (pc := 464) C dL_law_464 hi1 ?_
  refine l_callX_I (pc := 465) C dL_law_465 ml_L_44 mc_X7_count mv_X7_count rfl [.int (xs (x3 + 1).toNatClampNeg)] rfl (by decide) (by decide) rfl (Nat.le_of_ble_eq_true rfl) ⟨hnc, hns⟩ (c_X7_count N (xs (x3 + 1).toNatClampNeg) _ _ hx) ?_
  refine c_aload_n (pc := 468) C.1 dL_law_468 2 rfl ?_
  refine c_aload_n (pc := 469) C.1 dL_law_469 0 rfl ?_
  refine c_iload_n (pc := 470) C.1 dL_law_470 3 rfl ?_
  refine c_iconst (pc := 471) (v := 1) C.1 dL_law_471 (by decide) ?_
  refine c_iadd (pc := 472) C.1 dL_law_472 ?_
  refine c_sld (pc := 473) C dL_law_473 hi1 ?_
  refine l_callM_I (pc := 474) C dL_law_474 ml_L_47 mc_X8_count mv_X8_count rfl [.int (xs (x3 + 1).toNatClampNeg)] rfl (by decide) (by decide) rfl (Nat.le_of_ble_eq_true rfl) ⟨hnc, hns⟩ (c_X8_count N (xs (x3 + 1).toNatClampNeg) _ _ hm) ?_
  refine c_icmp_eq (pc := 477) 1782 C.1 dL_law_477 (by decide) (fun _ => ?_) (fun h => absurd rfl h)
  exact next _ _ hrel2
theorem dL_law_482 : decode cL_law 482 = .ok (.aload_n 1, 1) := by decide +kernel
theorem dL_law_483 : decode cL_law 483 = .ok (.aload_n 0, 1) := by decide +kernel
theorem dL_law_484 : decode cL_law 484 = .ok (.iload_n 3, 1) := by decide +kernel
theorem dL_law_485 : decode cL_law 485 = .ok (.iconst 1, 1) := by decide +kernel
theorem dL_law_486 : decode cL_law 486 = .ok (.iadd, 1) := by decide +kernel
theorem dL_law_487 : decode cL_law 487 = .ok (.iaload, 1) := by decide +kernel
theorem dL_law_488 : decode cL_law 488 = .ok (.aload_n 0, 1) := by decide +kernel
theorem dL_law_489 : decode cL_law 489 = .ok (.iload_n 3, 1) := by decide +kernel
theorem dL_law_490 : decode cL_law 490 = .ok (.iconst 2, 1) := by decide +kernel
theorem dL_law_491 : decode cL_law 491 = .ok (.iadd, 1) := by decide +kernel
theorem dL_law_492 : decode cL_law 492 = .ok (.iaload, 1) := by decide +kernel
theorem dL_law_493 : decode cL_law 493 = .ok (.aload_n 0, 1) := by decide +kernel
theorem dL_law_494 : decode cL_law 494 = .ok (.iload_n 3, 1) := by decide +kernel
theorem dL_law_495 : decode cL_law 495 = .ok (.iconst 3, 1) := by decide +kernel
theorem dL_law_496 : decode cL_law 496 = .ok (.iadd, 1) := by decide +kernel
theorem dL_law_497 : decode cL_law 497 = .ok (.iaload, 1) := by decide +kernel
theorem dL_law_498 : decode cL_law 498 = .ok (.invokevirtual 48, 3) := by decide +kernel
theorem dL_law_501 : decode cL_law 501 = .ok (.aload_n 2, 1) := by decide +kernel
theorem dL_law_502 : decode cL_law 502 = .ok (.aload_n 0, 1) := by decide +kernel
theorem dL_law_503 : decode cL_law 503 = .ok (.iload_n 3, 1) := by decide +kernel
theorem dL_law_504 : decode cL_law 504 = .ok (.iconst 1, 1) := by decide +kernel
theorem dL_law_505 : decode cL_law 505 = .ok (.iadd, 1) := by decide +kernel
theorem dL_law_506 : decode cL_law 506 = .ok (.iaload, 1) := by decide +kernel
theorem dL_law_507 : decode cL_law 507 = .ok (.aload_n 0, 1) := by decide +kernel
theorem dL_law_508 : decode cL_law 508 = .ok (.iload_n 3, 1) := by decide +kernel
theorem dL_law_509 : decode cL_law 509 = .ok (.iconst 2, 1) := by decide +kernel
theorem dL_law_510 : decode cL_law 510 = .ok (.iadd, 1) := by decide +kernel
theorem dL_law_511 : decode cL_law 511 = .ok (.iaload, 1) := by decide +kernel
theorem dL_law_512 : decode cL_law 512 = .ok (.aload_n 0, 1) := by decide +kernel
theorem dL_law_513 : decode cL_law 513 = .ok (.iload_n 3, 1) := by decide +kernel
theorem dL_law_514 : decode cL_law 514 = .ok (.iconst 3, 1) := by decide +kernel
theorem dL_law_515 : decode cL_law 515 = .ok (.iadd, 1) := by decide +kernel
theorem dL_law_516 : decode cL_law 516 = .ok (.iaload, 1) := by decide +kernel
theorem dL_law_517 : decode cL_law 517 = .ok (.invokevirtual 51, 3) := by decide +kernel
theorem dL_law_520 : decode cL_law 520 = .ok (.if_icmp .eq 1262, 3) := by decide +kernel
theorem dL_law_523 : decode cL_law 523 = .ok (.iconst 0, 1) := by decide +kernel
theorem dL_law_524 : decode cL_law 524 = .ok (.ireturn, 1) := by decide +kernel
set_option maxRecDepth 100000 in
set_option maxHeartbeats 4000000 in
theorem case_7 {p : Program} {l : Launch} {e : Env} {s : State} {m : MethodId} {args : Array Value} {below : List Frame} {meth : Method} {c : Code} {D : va_G} {ac : Nat → ClassId} {A : Nat → Prop} {Q : State → Prop} {adX adM : Nat → Nat} {b n nc ns : Nat} {xs : Nat → Int32} {N : Nat} {Rel : Mem → Mem → Prop} (hp : PureOk N Rel) (C : LC p s m args c D ac A adX adM b n xs) (hnc : nc ≤ 600000) (hns : ns ≤ 7302250) {x3 : Int32} (hi1 : vp_in (x3 + 1) n) (hi2 : vp_in (x3 + 2) n) (hi3 : vp_in (x3 + 3) n) (hi4 : vp_in (x3 + 4) n) (hi5 : vp_in (x3 + 5) n) (Mx Mm : Mem) (hrel : Rel Mx Mm) (next : ∀ Mx2 Mm2, Rel Mx2 Mm2 → Ac p l e room_1 s m args below meth c D A 4 Q 1782 [(0, .ref b), (1, .ref (adX 0)), (2, .ref (adM 0)), (3, .int x3)] [] (wXM ac adX adM Mx2 Mm2) nc ns) : Ac p l e room_1 s m args below meth c D A 4 Q 482 [(0, .ref b), (1, .ref (adX 0)), (2, .ref (adM 0)), (3, .int x3)] [] (wXM ac adX adM Mx Mm) nc ns := by
  obtain ⟨r, Mx2, Mm2, hx, hm, hrel2⟩ := (hp.2.2.2.2.2.2.2.2.1) Mx Mm (xs (x3 + 1).toNatClampNeg) (xs (x3 + 2).toNatClampNeg) (xs (x3 + 3).toNatClampNeg) hrel
  refine c_aload_n (pc := 482) C.1 dL_law_482 1 rfl ?_
  refine c_aload_n (pc := 483) C.1 dL_law_483 0 rfl ?_
  refine c_iload_n (pc := 484) C.1 dL_law_484 3 rfl ?_
  refine c_iconst (pc := 485) (v := 1) C.1 dL_law_485 (by decide) ?_
  refine c_iadd (pc := 486) C.1 dL_law_486 ?_
  refine c_sld (pc := 487) C dL_law_487 hi1 ?_
  refine c_aload_n (pc := 488) C.1 dL_law_488 0 rfl ?_
  refine c_iload_n (pc := 489) C.1 dL_law_489 3 rfl ?_
  refine c_iconst (pc := 490) (v := 2) C.1 dL_law_490 (by decide) ?_
  refine c_iadd (pc := 491) C.1 dL_law_491 ?_
  refine c_sld (pc := 492) C dL_law_492 hi2 ?_
  refine c_aload_n (pc := 493) C.1 dL_law_493 0 rfl ?_
  refine c_iload_n (pc := 494) C.1 dL_law_494 3 rfl ?_
  refine c_iconst (pc := 495) (v := 3) C.1 dL_law_495 (by decide) ?_
  refine c_iadd (pc := 496) C.1 dL_law_496 ?_
  refine c_sld (pc := 497) C dL_law_497 hi3 ?_
  refine l_callX_I (pc := 498) C dL_law_498 ml_L_48 mc_X7_fits mv_X7_fits rfl [.int (xs (x3 + 1).toNatClampNeg), .int (xs (x3 + 2).toNatClampNeg), .int (xs (x3 + 3).toNatClampNeg)] rfl (by decide) (by decide) rfl (Nat.le_of_ble_eq_true rfl) ⟨hnc, hns⟩ (c_X7_fits N (xs (x3 + 1).toNatClampNeg) (xs (x3 + 2).toNatClampNeg) (xs (x3 + 3).toNatClampNeg) _ _ _ hx) ?_
  refine c_aload_n (pc := 501) C.1 dL_law_501 2 rfl ?_
  refine c_aload_n (pc := 502) C.1 dL_law_502 0 rfl ?_
  refine c_iload_n (pc := 503) C.1 dL_law_503 3 rfl ?_
  refine c_iconst (pc := 504) (v := 1) C.1 dL_law_504 (by decide) ?_
  refine c_iadd (pc := 505) C.1 dL_law_505 ?_
  refine c_sld (pc := 506) C dL_law_506 hi1 ?_
  refine c_aload_n (pc := 507) C.1 dL_law_507 0 rfl ?_
  refine c_iload_n (pc := 508) C.1 dL_law_508 3 rfl ?_
  refine c_iconst (pc := 509) (v := 2) C.1 dL_law_509 (by decide) ?_
  refine c_iadd (pc := 510) C.1 dL_law_510 ?_
  refine c_sld (pc := 511) C dL_law_511 hi2 ?_
  refine c_aload_n (pc := 512) C.1 dL_law_512 0 rfl ?_
  refine c_iload_n (pc := 513) C.1 dL_law_513 3 rfl ?_
  refine c_iconst (pc := 514) (v := 3) C.1 dL_law_514 (by decide) ?_
  refine c_iadd (pc := 515) C.1 dL_law_515 ?_
  refine c_sld (pc := 516) C dL_law_516 hi3 ?_
  refine l_callM_I (pc := 517) C dL_law_517 ml_L_51 mc_X8_fits mv_X8_fits rfl [.int (xs (x3 + 1).toNatClampNeg), .int (xs (x3 + 2).toNatClampNeg), .int (xs (x3 + 3).toNatClampNeg)] rfl (by decide) (by decide) rfl (Nat.le_of_ble_eq_true rfl) ⟨hnc, hns⟩ (c_X8_fits N (xs (x3 + 1).toNatClampNeg) (xs (x3 + 2).toNatClampNeg) (xs (x3 + 3).toNatClampNeg) _ _ _ hm) ?_
  refine c_icmp_eq (pc := 520) 1782 C.1 dL_law_520 (by decide) (fun _ => ?_) (fun h => absurd rfl h)
  exact next _ _ hrel2
theorem dL_law_525 : decode cL_law 525 = .ok (.aload_n 1, 1) := by decide +kernel
theorem dL_law_526 : decode cL_law 526 = .ok (.aload_n 0, 1) := by decide +kernel
theorem dL_law_527 : decode cL_law 527 = .ok (.iload_n 3, 1) := by decide +kernel
theorem dL_law_528 : decode cL_law 528 = .ok (.iconst 1, 1) := by decide +kernel
theorem dL_law_529 : decode cL_law 529 = .ok (.iadd, 1) := by decide +kernel
theorem dL_law_530 : decode cL_law 530 = .ok (.iaload, 1) := by decide +kernel
theorem dL_law_531 : decode cL_law 531 = .ok (.aload_n 0, 1) := by decide +kernel
theorem dL_law_532 : decode cL_law 532 = .ok (.iload_n 3, 1) := by decide +kernel
theorem dL_law_533 : decode cL_law 533 = .ok (.iconst 2, 1) := by decide +kernel
theorem dL_law_534 : decode cL_law 534 = .ok (.iadd, 1) := by decide +kernel
theorem dL_law_535 : decode cL_law 535 = .ok (.iaload, 1) := by decide +kernel
theorem dL_law_536 : decode cL_law 536 = .ok (.aload_n 0, 1) := by decide +kernel
theorem dL_law_537 : decode cL_law 537 = .ok (.iload_n 3, 1) := by decide +kernel
theorem dL_law_538 : decode cL_law 538 = .ok (.iconst 3, 1) := by decide +kernel
theorem dL_law_539 : decode cL_law 539 = .ok (.iadd, 1) := by decide +kernel
theorem dL_law_540 : decode cL_law 540 = .ok (.iaload, 1) := by decide +kernel
theorem dL_law_541 : decode cL_law 541 = .ok (.aload_n 0, 1) := by decide +kernel
theorem dL_law_542 : decode cL_law 542 = .ok (.iload_n 3, 1) := by decide +kernel
theorem dL_law_543 : decode cL_law 543 = .ok (.iconst 4, 1) := by decide +kernel
theorem dL_law_544 : decode cL_law 544 = .ok (.iadd, 1) := by decide +kernel
theorem dL_law_545 : decode cL_law 545 = .ok (.iaload, 1) := by decide +kernel
theorem dL_law_546 : decode cL_law 546 = .ok (.invokevirtual 52, 3) := by decide +kernel
theorem dL_law_549 : decode cL_law 549 = .ok (.aload_n 2, 1) := by decide +kernel
theorem dL_law_550 : decode cL_law 550 = .ok (.aload_n 0, 1) := by decide +kernel
theorem dL_law_551 : decode cL_law 551 = .ok (.iload_n 3, 1) := by decide +kernel
theorem dL_law_552 : decode cL_law 552 = .ok (.iconst 1, 1) := by decide +kernel
theorem dL_law_553 : decode cL_law 553 = .ok (.iadd, 1) := by decide +kernel
theorem dL_law_554 : decode cL_law 554 = .ok (.iaload, 1) := by decide +kernel
theorem dL_law_555 : decode cL_law 555 = .ok (.aload_n 0, 1) := by decide +kernel
theorem dL_law_556 : decode cL_law 556 = .ok (.iload_n 3, 1) := by decide +kernel
theorem dL_law_557 : decode cL_law 557 = .ok (.iconst 2, 1) := by decide +kernel
theorem dL_law_558 : decode cL_law 558 = .ok (.iadd, 1) := by decide +kernel
theorem dL_law_559 : decode cL_law 559 = .ok (.iaload, 1) := by decide +kernel
theorem dL_law_560 : decode cL_law 560 = .ok (.aload_n 0, 1) := by decide +kernel
theorem dL_law_561 : decode cL_law 561 = .ok (.iload_n 3, 1) := by decide +kernel
theorem dL_law_562 : decode cL_law 562 = .ok (.iconst 3, 1) := by decide +kernel
theorem dL_law_563 : decode cL_law 563 = .ok (.iadd, 1) := by decide +kernel
theorem dL_law_564 : decode cL_law 564 = .ok (.iaload, 1) := by decide +kernel
theorem dL_law_565 : decode cL_law 565 = .ok (.aload_n 0, 1) := by decide +kernel
theorem dL_law_566 : decode cL_law 566 = .ok (.iload_n 3, 1) := by decide +kernel
theorem dL_law_567 : decode cL_law 567 = .ok (.iconst 4, 1) := by decide +kernel
theorem dL_law_568 : decode cL_law 568 = .ok (.iadd, 1) := by decide +kernel
theorem dL_law_569 : decode cL_law 569 = .ok (.iaload, 1) := by decide +kernel
theorem dL_law_570 : decode cL_law 570 = .ok (.invokevirtual 55, 3) := by decide +kernel
theorem dL_law_573 : decode cL_law 573 = .ok (.if_icmp .eq 1209, 3) := by decide +kernel
theorem dL_law_576 : decode cL_law 576 = .ok (.iconst 0, 1) := by decide +kernel
theorem dL_law_577 : decode cL_law 577 = .ok (.ireturn, 1) := by decide +kernel
set_option maxRecDepth 100000 in
set_option maxHeartbeats 4000000 in
theorem case_8 {p : Program} {l : Launch} {e : Env} {s : State} {m : MethodId} {args : Array Value} {below : List Frame} {meth : Method} {c : Code} {D : va_G} {ac : Nat → ClassId} {A : Nat → Prop} {Q : State → Prop} {adX adM : Nat → Nat} {b n nc ns : Nat} {xs : Nat → Int32} {N : Nat} {Rel : Mem → Mem → Prop} (hp : PureOk N Rel) (C : LC p s m args c D ac A adX adM b n xs) (hnc : nc ≤ 600000) (hns : ns ≤ 7302250) {x3 : Int32} (hi1 : vp_in (x3 + 1) n) (hi2 : vp_in (x3 + 2) n) (hi3 : vp_in (x3 + 3) n) (hi4 : vp_in (x3 + 4) n) (hi5 : vp_in (x3 + 5) n) (Mx Mm : Mem) (hrel : Rel Mx Mm) (next : ∀ Mx2 Mm2, Rel Mx2 Mm2 → Ac p l e room_1 s m args below meth c D A 4 Q 1782 [(0, .ref b), (1, .ref (adX 0)), (2, .ref (adM 0)), (3, .int x3)] [] (wXM ac adX adM Mx2 Mm2) nc ns) : Ac p l e room_1 s m args below meth c D A 4 Q 525 [(0, .ref b), (1, .ref (adX 0)), (2, .ref (adM 0)), (3, .int x3)] [] (wXM ac adX adM Mx Mm) nc ns := by
  obtain ⟨r, Mx2, Mm2, hx, hm, hrel2⟩ := (hp.2.2.2.2.2.2.2.2.2.1) Mx Mm (xs (x3 + 1).toNatClampNeg) (xs (x3 + 2).toNatClampNeg) (xs (x3 + 3).toNatClampNeg) (xs (x3 + 4).toNatClampNeg) hrel
  refine c_aload_n (pc := 525) C.1 dL_law_525 1 rfl ?_
  refine c_aload_n (pc := 526) C.1 dL_law_526 0 rfl ?_
  refine c_iload_n (pc := 527) C.1 dL_law_527 3 rfl ?_
  refine c_iconst (pc := 528) (v := 1) C.1 dL_law_528 (by decide) ?_
  refine c_iadd (pc := 529) C.1 dL_law_529 ?_
  refine c_sld (pc := 530) C dL_law_530 hi1 ?_
  refine c_aload_n (pc := 531) C.1 dL_law_531 0 rfl ?_
  refine c_iload_n (pc := 532) C.1 dL_law_532 3 rfl ?_
  refine c_iconst (pc := 533) (v := 2) C.1 dL_law_533 (by decide) ?_
  refine c_iadd (pc := 534) C.1 dL_law_534 ?_
  refine c_sld (pc := 535) C dL_law_535 hi2 ?_
  refine c_aload_n (pc := 536) C.1 dL_law_536 0 rfl ?_
  refine c_iload_n (pc := 537) C.1 dL_law_537 3 rfl ?_
  refine c_iconst (pc := 538) (v := 3) C.1 dL_law_538 (by decide) ?_
  refine c_iadd (pc := 539) C.1 dL_law_539 ?_
  refine c_sld (pc := 540) C dL_law_540 hi3 ?_
  refine c_aload_n (pc := 541) C.1 dL_law_541 0 rfl ?_
  refine c_iload_n (pc := 542) C.1 dL_law_542 3 rfl ?_
  refine c_iconst (pc := 543) (v := 4) C.1 dL_law_543 (by decide) ?_
  refine c_iadd (pc := 544) C.1 dL_law_544 ?_
  refine c_sld (pc := 545) C dL_law_545 hi4 ?_
  refine l_callX_I (pc := 546) C dL_law_546 ml_L_52 mc_X7_place mv_X7_place rfl [.int (xs (x3 + 1).toNatClampNeg), .int (xs (x3 + 2).toNatClampNeg), .int (xs (x3 + 3).toNatClampNeg), .int (xs (x3 + 4).toNatClampNeg)] rfl (by decide) (by decide) rfl (Nat.le_of_ble_eq_true rfl) ⟨hnc, hns⟩ (c_X7_place N (xs (x3 + 1).toNatClampNeg) (xs (x3 + 2).toNatClampNeg) (xs (x3 + 3).toNatClampNeg) (xs (x3 + 4).toNatClampNeg) _ _ _ hx) ?_
  refine c_aload_n (pc := 549) C.1 dL_law_549 2 rfl ?_
  refine c_aload_n (pc := 550) C.1 dL_law_550 0 rfl ?_
  refine c_iload_n (pc := 551) C.1 dL_law_551 3 rfl ?_
  refine c_iconst (pc := 552) (v := 1) C.1 dL_law_552 (by decide) ?_
  refine c_iadd (pc := 553) C.1 dL_law_553 ?_
  refine c_sld (pc := 554) C dL_law_554 hi1 ?_
  refine c_aload_n (pc := 555) C.1 dL_law_555 0 rfl ?_
  refine c_iload_n (pc := 556) C.1 dL_law_556 3 rfl ?_
  refine c_iconst (pc := 557) (v := 2) C.1 dL_law_557 (by decide) ?_
  refine c_iadd (pc := 558) C.1 dL_law_558 ?_
  refine c_sld (pc := 559) C dL_law_559 hi2 ?_
  refine c_aload_n (pc := 560) C.1 dL_law_560 0 rfl ?_
  refine c_iload_n (pc := 561) C.1 dL_law_561 3 rfl ?_
  refine c_iconst (pc := 562) (v := 3) C.1 dL_law_562 (by decide) ?_
  refine c_iadd (pc := 563) C.1 dL_law_563 ?_
  refine c_sld (pc := 564) C dL_law_564 hi3 ?_
  refine c_aload_n (pc := 565) C.1 dL_law_565 0 rfl ?_
  refine c_iload_n (pc := 566) C.1 dL_law_566 3 rfl ?_
  refine c_iconst (pc := 567) (v := 4) C.1 dL_law_567 (by decide) ?_
  refine c_iadd (pc := 568) C.1 dL_law_568 ?_
  refine c_sld (pc := 569) C dL_law_569 hi4 ?_
  refine l_callM_I (pc := 570) C dL_law_570 ml_L_55 mc_X8_place mv_X8_place rfl [.int (xs (x3 + 1).toNatClampNeg), .int (xs (x3 + 2).toNatClampNeg), .int (xs (x3 + 3).toNatClampNeg), .int (xs (x3 + 4).toNatClampNeg)] rfl (by decide) (by decide) rfl (Nat.le_of_ble_eq_true rfl) ⟨hnc, hns⟩ (c_X8_place N (xs (x3 + 1).toNatClampNeg) (xs (x3 + 2).toNatClampNeg) (xs (x3 + 3).toNatClampNeg) (xs (x3 + 4).toNatClampNeg) _ _ _ hm) ?_
  refine c_icmp_eq (pc := 573) 1782 C.1 dL_law_573 (by decide) (fun _ => ?_) (fun h => absurd rfl h)
  exact next _ _ hrel2
