/-! printed (wip/p26/law.py): a step of the second loop, call by call -/
def rv9 (v : Option VV) : Int32 := match v with
  | some (.inl r) => r
  | _ => 0
theorem dL_law_317 : decode cL_law 317 = .ok (.iload 9, 2) := by decide +kernel
theorem dL_law_319 : decode cL_law 319 = .ok (.bipush 7, 2) := by decide +kernel
theorem dL_law_321 : decode cL_law 321 = .ok (.if_icmp .ge 18, 3) := by decide +kernel
theorem dL_law_324 : decode cL_law 324 = .ok (.aload_n 1, 1) := by decide +kernel
theorem dL_law_325 : decode cL_law 325 = .ok (.iconst 1, 1) := by decide +kernel
theorem dL_law_326 : decode cL_law 326 = .ok (.iload 8, 2) := by decide +kernel
theorem dL_law_328 : decode cL_law 328 = .ok (.bipush 7, 2) := by decide +kernel
theorem dL_law_330 : decode cL_law 330 = .ok (.irem, 1) := by decide +kernel
theorem dL_law_331 : decode cL_law 331 = .ok (.iadd, 1) := by decide +kernel
theorem dL_law_332 : decode cL_law 332 = .ok (.invokevirtual 68, 3) := by decide +kernel
theorem dL_law_335 : decode cL_law 335 = .ok (.pop, 1) := by decide +kernel
theorem dL_law_336 : decode cL_law 336 = .ok (.goto 255, 3) := by decide +kernel
theorem dL_law_339 : decode cL_law 339 = .ok (.iload 9, 2) := by decide +kernel
theorem dL_law_341 : decode cL_law 341 = .ok (.bipush 9, 2) := by decide +kernel
theorem dL_law_343 : decode cL_law 343 = .ok (.if_icmp .ge 31, 3) := by decide +kernel
theorem dL_law_346 : decode cL_law 346 = .ok (.aload_n 1, 1) := by decide +kernel
theorem dL_law_347 : decode cL_law 347 = .ok (.iload 7, 2) := by decide +kernel
theorem dL_law_349 : decode cL_law 349 = .ok (.iload 8, 2) := by decide +kernel
theorem dL_law_351 : decode cL_law 351 = .ok (.bipush 6, 2) := by decide +kernel
theorem dL_law_353 : decode cL_law 353 = .ok (.irem, 1) := by decide +kernel
theorem dL_law_354 : decode cL_law 354 = .ok (.invokestatic 71, 3) := by decide +kernel
theorem dL_law_357 : decode cL_law 357 = .ok (.ifCond .eq 17, 3) := by decide +kernel
theorem dL_law_360 : decode cL_law 360 = .ok (.aload_n 1, 1) := by decide +kernel
theorem dL_law_361 : decode cL_law 361 = .ok (.iload 7, 2) := by decide +kernel
theorem dL_law_363 : decode cL_law 363 = .ok (.iload 8, 2) := by decide +kernel
theorem dL_law_365 : decode cL_law 365 = .ok (.bipush 6, 2) := by decide +kernel
theorem dL_law_367 : decode cL_law 367 = .ok (.irem, 1) := by decide +kernel
theorem dL_law_368 : decode cL_law 368 = .ok (.invokevirtual 75, 3) := by decide +kernel
theorem dL_law_371 : decode cL_law 371 = .ok (.goto 220, 3) := by decide +kernel
theorem dL_law_374 : decode cL_law 374 = .ok (.iload 9, 2) := by decide +kernel
theorem dL_law_376 : decode cL_law 376 = .ok (.bipush 9, 2) := by decide +kernel
theorem dL_law_378 : decode cL_law 378 = .ok (.if_icmp .eq 10, 3) := by decide +kernel
theorem dL_law_381 : decode cL_law 381 = .ok (.iload 9, 2) := by decide +kernel
theorem dL_law_383 : decode cL_law 383 = .ok (.bipush 10, 2) := by decide +kernel
theorem dL_law_385 : decode cL_law 385 = .ok (.if_icmp .ne 14, 3) := by decide +kernel
theorem dL_law_388 : decode cL_law 388 = .ok (.aload_n 1, 1) := by decide +kernel
theorem dL_law_389 : decode cL_law 389 = .ok (.iload 7, 2) := by decide +kernel
theorem dL_law_391 : decode cL_law 391 = .ok (.iload 8, 2) := by decide +kernel
theorem dL_law_393 : decode cL_law 393 = .ok (.invokestatic 79, 3) := by decide +kernel
theorem dL_law_396 : decode cL_law 396 = .ok (.goto 195, 3) := by decide +kernel
theorem dL_law_399 : decode cL_law 399 = .ok (.iload 9, 2) := by decide +kernel
theorem dL_law_401 : decode cL_law 401 = .ok (.bipush 11, 2) := by decide +kernel
theorem dL_law_403 : decode cL_law 403 = .ok (.if_icmp .ne 38, 3) := by decide +kernel
theorem dL_law_406 : decode cL_law 406 = .ok (.aload_n 1, 1) := by decide +kernel
theorem dL_law_407 : decode cL_law 407 = .ok (.iload 7, 2) := by decide +kernel
theorem dL_law_409 : decode cL_law 409 = .ok (.invokevirtual 83, 3) := by decide +kernel
theorem dL_law_412 : decode cL_law 412 = .ok (.aload_n 1, 1) := by decide +kernel
theorem dL_law_413 : decode cL_law 413 = .ok (.iload 7, 2) := by decide +kernel
theorem dL_law_415 : decode cL_law 415 = .ok (.iconst 5, 1) := by decide +kernel
theorem dL_law_416 : decode cL_law 416 = .ok (.invokevirtual 9, 3) := by decide +kernel
theorem dL_law_419 : decode cL_law 419 = .ok (.iconst 1, 1) := by decide +kernel
theorem dL_law_420 : decode cL_law 420 = .ok (.if_icmp .ne 7, 3) := by decide +kernel
theorem dL_law_423 : decode cL_law 423 = .ok (.iconst 1, 1) := by decide +kernel
theorem dL_law_424 : decode cL_law 424 = .ok (.goto 4, 3) := by decide +kernel
theorem dL_law_427 : decode cL_law 427 = .ok (.iconst 0, 1) := by decide +kernel
theorem dL_law_428 : decode cL_law 428 = .ok (.if_icmp .ne 7, 3) := by decide +kernel
theorem dL_law_431 : decode cL_law 431 = .ok (.iconst 1, 1) := by decide +kernel
theorem dL_law_432 : decode cL_law 432 = .ok (.goto 4, 3) := by decide +kernel
theorem dL_law_436 : decode cL_law 436 = .ok (.istore 4, 2) := by decide +kernel
theorem dL_law_438 : decode cL_law 438 = .ok (.goto 153, 3) := by decide +kernel
theorem dL_law_441 : decode cL_law 441 = .ok (.iload 9, 2) := by decide +kernel
theorem dL_law_443 : decode cL_law 443 = .ok (.bipush 12, 2) := by decide +kernel
theorem dL_law_445 : decode cL_law 445 = .ok (.if_icmp .ne 25, 3) := by decide +kernel
theorem dL_law_448 : decode cL_law 448 = .ok (.aload_n 1, 1) := by decide +kernel
theorem dL_law_449 : decode cL_law 449 = .ok (.iload 7, 2) := by decide +kernel
theorem dL_law_451 : decode cL_law 451 = .ok (.iload 8, 2) := by decide +kernel
theorem dL_law_453 : decode cL_law 453 = .ok (.iconst 2, 1) := by decide +kernel
theorem dL_law_454 : decode cL_law 454 = .ok (.irem, 1) := by decide +kernel
theorem dL_law_455 : decode cL_law 455 = .ok (.ifCond .ne 7, 3) := by decide +kernel
theorem dL_law_458 : decode cL_law 458 = .ok (.iconst 1, 1) := by decide +kernel
theorem dL_law_459 : decode cL_law 459 = .ok (.goto 4, 3) := by decide +kernel
theorem dL_law_462 : decode cL_law 462 = .ok (.iconst 0, 1) := by decide +kernel
theorem dL_law_463 : decode cL_law 463 = .ok (.invokevirtual 87, 3) := by decide +kernel
theorem dL_law_466 : decode cL_law 466 = .ok (.pop, 1) := by decide +kernel
theorem dL_law_467 : decode cL_law 467 = .ok (.goto 124, 3) := by decide +kernel
theorem dL_law_470 : decode cL_law 470 = .ok (.iload 9, 2) := by decide +kernel
theorem dL_law_472 : decode cL_law 472 = .ok (.bipush 13, 2) := by decide +kernel
theorem dL_law_474 : decode cL_law 474 = .ok (.if_icmp .ne 46, 3) := by decide +kernel
theorem dL_law_477 : decode cL_law 477 = .ok (.aload_n 1, 1) := by decide +kernel
theorem dL_law_478 : decode cL_law 478 = .ok (.iload 7, 2) := by decide +kernel
theorem dL_law_480 : decode cL_law 480 = .ok (.iload 8, 2) := by decide +kernel
theorem dL_law_482 : decode cL_law 482 = .ok (.iconst 3, 1) := by decide +kernel
theorem dL_law_483 : decode cL_law 483 = .ok (.irem, 1) := by decide +kernel
theorem dL_law_484 : decode cL_law 484 = .ok (.iconst 1, 1) := by decide +kernel
theorem dL_law_485 : decode cL_law 485 = .ok (.isub, 1) := by decide +kernel
theorem dL_law_486 : decode cL_law 486 = .ok (.invokevirtual 91, 3) := by decide +kernel
theorem dL_law_489 : decode cL_law 489 = .ok (.pop, 1) := by decide +kernel
theorem dL_law_490 : decode cL_law 490 = .ok (.aload_n 1, 1) := by decide +kernel
theorem dL_law_491 : decode cL_law 491 = .ok (.iload 8, 2) := by decide +kernel
theorem dL_law_493 : decode cL_law 493 = .ok (.iconst 4, 1) := by decide +kernel
theorem dL_law_494 : decode cL_law 494 = .ok (.idiv, 1) := by decide +kernel
theorem dL_law_495 : decode cL_law 495 = .ok (.bipush 12, 2) := by decide +kernel
theorem dL_law_497 : decode cL_law 497 = .ok (.irem, 1) := by decide +kernel
theorem dL_law_498 : decode cL_law 498 = .ok (.iload 8, 2) := by decide +kernel
theorem dL_law_500 : decode cL_law 500 = .ok (.bipush 64, 2) := by decide +kernel
theorem dL_law_502 : decode cL_law 502 = .ok (.idiv, 1) := by decide +kernel
theorem dL_law_503 : decode cL_law 503 = .ok (.iconst 3, 1) := by decide +kernel
theorem dL_law_504 : decode cL_law 504 = .ok (.irem, 1) := by decide +kernel
theorem dL_law_505 : decode cL_law 505 = .ok (.ifCond .le 7, 3) := by decide +kernel
theorem dL_law_508 : decode cL_law 508 = .ok (.iconst 1, 1) := by decide +kernel
theorem dL_law_509 : decode cL_law 509 = .ok (.goto 4, 3) := by decide +kernel
theorem dL_law_512 : decode cL_law 512 = .ok (.iconst 0, 1) := by decide +kernel
theorem dL_law_513 : decode cL_law 513 = .ok (.invokevirtual 94, 3) := by decide +kernel
theorem dL_law_516 : decode cL_law 516 = .ok (.pop, 1) := by decide +kernel
theorem dL_law_517 : decode cL_law 517 = .ok (.goto 74, 3) := by decide +kernel
theorem dL_law_520 : decode cL_law 520 = .ok (.iload 9, 2) := by decide +kernel
theorem dL_law_522 : decode cL_law 522 = .ok (.bipush 14, 2) := by decide +kernel
theorem dL_law_524 : decode cL_law 524 = .ok (.if_icmp .ne 48, 3) := by decide +kernel
theorem dL_law_527 : decode cL_law 527 = .ok (.aload_n 1, 1) := by decide +kernel
theorem dL_law_528 : decode cL_law 528 = .ok (.iload 8, 2) := by decide +kernel
theorem dL_law_530 : decode cL_law 530 = .ok (.iconst 4, 1) := by decide +kernel
theorem dL_law_531 : decode cL_law 531 = .ok (.irem, 1) := by decide +kernel
theorem dL_law_532 : decode cL_law 532 = .ok (.iload 8, 2) := by decide +kernel
theorem dL_law_534 : decode cL_law 534 = .ok (.iconst 4, 1) := by decide +kernel
theorem dL_law_535 : decode cL_law 535 = .ok (.idiv, 1) := by decide +kernel
theorem dL_law_536 : decode cL_law 536 = .ok (.iconst 3, 1) := by decide +kernel
theorem dL_law_537 : decode cL_law 537 = .ok (.irem, 1) := by decide +kernel
theorem dL_law_538 : decode cL_law 538 = .ok (.ifCond .le 26, 3) := by decide +kernel
theorem dL_law_541 : decode cL_law 541 = .ok (.aload_n 1, 1) := by decide +kernel
theorem dL_law_542 : decode cL_law 542 = .ok (.aload_n 2, 1) := by decide +kernel
theorem dL_law_543 : decode cL_law 543 = .ok (.iload 8, 2) := by decide +kernel
theorem dL_law_545 : decode cL_law 545 = .ok (.iconst 4, 1) := by decide +kernel
theorem dL_law_546 : decode cL_law 546 = .ok (.irem, 1) := by decide +kernel
theorem dL_law_547 : decode cL_law 547 = .ok (.iaload, 1) := by decide +kernel
theorem dL_law_548 : decode cL_law 548 = .ok (.aload_n 3, 1) := by decide +kernel
theorem dL_law_549 : decode cL_law 549 = .ok (.iload 8, 2) := by decide +kernel
theorem dL_law_551 : decode cL_law 551 = .ok (.iconst 4, 1) := by decide +kernel
theorem dL_law_552 : decode cL_law 552 = .ok (.irem, 1) := by decide +kernel
theorem dL_law_553 : decode cL_law 553 = .ok (.iaload, 1) := by decide +kernel
theorem dL_law_554 : decode cL_law 554 = .ok (.invokestatic 97, 3) := by decide +kernel
theorem dL_law_557 : decode cL_law 557 = .ok (.ifCond .eq 7, 3) := by decide +kernel
theorem dL_law_560 : decode cL_law 560 = .ok (.iconst 1, 1) := by decide +kernel
theorem dL_law_561 : decode cL_law 561 = .ok (.goto 4, 3) := by decide +kernel
theorem dL_law_564 : decode cL_law 564 = .ok (.iconst 0, 1) := by decide +kernel
theorem dL_law_565 : decode cL_law 565 = .ok (.invokevirtual 100, 3) := by decide +kernel
theorem dL_law_568 : decode cL_law 568 = .ok (.pop, 1) := by decide +kernel
theorem dL_law_569 : decode cL_law 569 = .ok (.goto 22, 3) := by decide +kernel
theorem dL_law_572 : decode cL_law 572 = .ok (.iload 9, 2) := by decide +kernel
theorem dL_law_574 : decode cL_law 574 = .ok (.bipush 15, 2) := by decide +kernel
theorem dL_law_576 : decode cL_law 576 = .ok (.if_icmp .ne 15, 3) := by decide +kernel
theorem dL_law_579 : decode cL_law 579 = .ok (.aload_n 1, 1) := by decide +kernel
theorem dL_law_580 : decode cL_law 580 = .ok (.iconst 1, 1) := by decide +kernel
theorem dL_law_581 : decode cL_law 581 = .ok (.iload 8, 2) := by decide +kernel
theorem dL_law_583 : decode cL_law 583 = .ok (.bipush 20, 2) := by decide +kernel
theorem dL_law_585 : decode cL_law 585 = .ok (.irem, 1) := by decide +kernel
theorem dL_law_586 : decode cL_law 586 = .ok (.iadd, 1) := by decide +kernel
theorem dL_law_587 : decode cL_law 587 = .ok (.invokevirtual 103, 3) := by decide +kernel
theorem dL_law_590 : decode cL_law 590 = .ok (.pop, 1) := by decide +kernel
section LW54
variable {p : Program} {l : Launch} {e : Env} {s : State} {m : MethodId} {below : List Frame} {meth : Method} {c : Code} {Q : State → Prop} {D : va_G} {X : Nat → ClassId} {b L : Nat} {xs : Nat → Int32} {fa ta x0 : Nat} {f g : Nat → Int32} {ad : Nat → Nat → Nat} {H : Heap} {locs : List Loc} {ls : Array Slot} {t : TT} {n tk k v w T K cl sl : Nat}
set_option maxHeartbeats 4000000 in
theorem law_572 (hC : LC p l s m c D X b L xs) (hG : GS n tk f g t) (hn : n ≤ 600) (htk : tk + 7 ≤ 999) (hT : T < 5) (hw : w < 2 ^ 31) (hc : cl ≤ 600130) (hs : sl ≤ 7301080) (kj : ∀ (n' tk' : Nat) (t' : TT) (ad' : Nat → Nat → Nat) (H1 : Heap) (locs1 : List Loc) (ls1 : Array Slot), GS n' tk' f g t' → n' ≤ n + 1 → tk' ≤ tk + 7 → LSt D X ad' (AL s) 6 12 4 5 t' fa ta f g x0 H1 → va_S (AL s) s.heap H1 locs1 → lv_has ls1 10 [(5, .int (nI k)), (4, .int 1), (3, .ref ta), (2, .ref fa), (1, .ref x0), (0, .ref b)] → W p l e room_1 s m #[Value.ref b] below meth c H1 locs1 cl sl Q (F0 m 591 ls1 [])) (hL : LSt D X ad (AL s) 6 12 4 5 t fa ta f g x0 H) (hS : va_S (AL s) s.heap H locs) (hl : lv_has ls 10 [(9, .int (nI K)), (8, .int (nI w)), (7, .int (nI T)), (6, .int (nI v)), (5, .int (nI k)), (4, .int 1), (3, .ref ta), (2, .ref fa), (1, .ref x0), (0, .ref b)]) : W p l e room_1 s m #[Value.ref b] below meth c H locs cl sl Q (F0 m 572 ls []) := by
  obtain ⟨hx, hb, hml, hts, hown, hK, hE, hX, hbl, hL9, hst⟩ := id hC
  refine lv_iload hx hb dL_law_572 (lv_at hl 0 rfl) ?_
  refine lv_bipush (v := 15) hx hb dL_law_574 (by decide +kernel) ?_
  refine lv_icmp_ne hx hb dL_law_576 (tgt := 591) (by decide) (fun _ => kj _ _ _ ad H locs ls hG (by omega) (by omega) hL hS (lv_sub hl [4, 5, 6, 7, 8, 9] rfl)) (fun _ => ?_)
  refine lv_aload_n hx hb dL_law_579 rfl (lv_at hl 8 rfl) ?_
  refine lv_iconst (v := 1) hx hb dL_law_580 (by decide +kernel) ?_
  refine lv_iload hx hb dL_law_581 (lv_at hl 1 rfl) ?_
  refine lv_bipush (v := 20) hx hb dL_law_583 (by decide +kernel) ?_
  refine lv_irem hx hb dL_law_585 (by decide +kernel) ?_
  refine lv_iadd hx hb dL_law_586 ?_
  have e1 : nI w - nI w / 20 * 20 = nI (w % 20) := pk_rem (d := 20) (by omega) (by omega) (by omega)
  have e2 : (1 : Int32) + nI (w % 20) = nI (1 + w % 20) := nI_add 1 _
  have xx2 : ad 0 0 = x0 := hL.2.2.2.2.2.2.2
  refine W.eq (g2 := F0 m 587 ls ((([.inr (.inl (0, 0)), .inl (nI (1 + w % 20))] : List VV).map (toV ad)).reverse ++ [])) (by rw [e1, e2, ← xx2]; rfl) ?_
  refine law_E (as := [.inr (.inl (0, 0)), .inl (nI (1 + w % 20))]) (n := 1) hC (Rr := fun v9 t9 => (∃ r, v9 = some (.inl r)) ∧ GS n tk f g t9) (c_X4_speed hst (px := fun _ _ => False) (post := fun v9 t1 => ∃ t9, (fun v9 t9 => (∃ r, v9 = some (.inl r)) ∧ GS n tk f g t9) v9 t9 ∧ t1 = over t9) 0 (nI (1 + w % 20)) _ (ok_speed hG (by omega) (by omega) (fun r t9 g9 => ⟨t9, ⟨⟨r, rfl⟩, g9⟩, rfl⟩))).toE ⟨(LT_in (by decide +kernel) (by decide +kernel) : Cond.methodLink R_law 103 yX4_speed ∈ LT), ws_X4_speed.1, ws_X4_speed.2.1, ws_X4_speed.2.2.1, ws_X4_speed.2.2.2⟩ (by decide +kernel) ⟨Nat.le_of_ble_eq_true rfl, Nat.le_of_ble_eq_true rfl⟩ rfl rfl rfl rfl rfl hL hS hl.1 (rest := []) (by exact Nat.le_of_ble_eq_true rfl) (by omega) (by omega) dL_law_587 (fun v9 t2 ad2 H2 locs2 hR2 hL2 hS2 => ?_)
  obtain ⟨⟨r2, rfl⟩, hG2⟩ := hR2
  refine W.eq (g2 := F0 m 590 ls [.int r2]) rfl ?_
  refine lv_pop hx hb dL_law_590 rfl ?_
  exact kj _ _ _ ad2 H2 locs2 ls hG2 (by omega) (by omega) hL2 hS2 (lv_sub hl [4, 5, 6, 7, 8, 9] rfl)
set_option maxHeartbeats 4000000 in
theorem law_520 (hC : LC p l s m c D X b L xs) (hG : GS n tk f g t) (hn : n ≤ 600) (htk : tk + 7 ≤ 999) (hT : T < 5) (hw : w < 2 ^ 31) (hc : cl ≤ 600130) (hs : sl ≤ 7301080) (kj : ∀ (n' tk' : Nat) (t' : TT) (ad' : Nat → Nat → Nat) (H1 : Heap) (locs1 : List Loc) (ls1 : Array Slot), GS n' tk' f g t' → n' ≤ n + 1 → tk' ≤ tk + 7 → LSt D X ad' (AL s) 6 12 4 5 t' fa ta f g x0 H1 → va_S (AL s) s.heap H1 locs1 → lv_has ls1 10 [(5, .int (nI k)), (4, .int 1), (3, .ref ta), (2, .ref fa), (1, .ref x0), (0, .ref b)] → W p l e room_1 s m #[Value.ref b] below meth c H1 locs1 cl sl Q (F0 m 591 ls1 [])) (hL : LSt D X ad (AL s) 6 12 4 5 t fa ta f g x0 H) (hS : va_S (AL s) s.heap H locs) (hl : lv_has ls 10 [(9, .int (nI K)), (8, .int (nI w)), (7, .int (nI T)), (6, .int (nI v)), (5, .int (nI k)), (4, .int 1), (3, .ref ta), (2, .ref fa), (1, .ref x0), (0, .ref b)]) : W p l e room_1 s m #[Value.ref b] below meth c H locs cl sl Q (F0 m 520 ls []) := by
  obtain ⟨hx, hb, hml, hts, hown, hK, hE, hX, hbl, hL9, hst⟩ := id hC
  refine lv_iload hx hb dL_law_520 (lv_at hl 0 rfl) ?_
  refine lv_bipush (v := 14) hx hb dL_law_522 (by decide +kernel) ?_
  refine lv_icmp_ne hx hb dL_law_524 (tgt := 572) (by decide) (fun _ => law_572 hC hG hn htk hT hw hc hs kj hL hS hl) (fun _ => ?_)
  refine lv_aload_n hx hb dL_law_527 rfl (lv_at hl 8 rfl) ?_
  refine lv_iload hx hb dL_law_528 (lv_at hl 1 rfl) ?_
  refine lv_iconst (v := 4) hx hb dL_law_530 (by decide +kernel) ?_
  refine lv_irem hx hb dL_law_531 (by decide +kernel) ?_
  have e1 : nI w - nI w / 4 * 4 = nI (w % 4) := pk_rem (d := 4) (by omega) (by omega) (by omega)
  refine W.eq (g2 := F0 m 532 ls [.int (nI (w % 4)), .ref x0]) (by rw [e1]) ?_
  refine lv_iload hx hb dL_law_532 (lv_at hl 1 rfl) ?_
  refine lv_iconst (v := 4) hx hb dL_law_534 (by decide +kernel) ?_
  refine lv_idiv hx hb dL_law_535 (by decide +kernel) ?_
  refine lv_iconst (v := 3) hx hb dL_law_536 (by decide +kernel) ?_
  refine lv_irem hx hb dL_law_537 (by decide +kernel) ?_
  have cl9 : ∀ (b9 : Int32) (_ : isB b9) (_ : ¬ b9 = 0 → ∀ j, j < 5 → mayS t (f (w % 4)) (g (w % 4)) j) (ad : Nat → Nat → Nat) (H : Heap) (locs : List Loc), LSt D X ad (AL s) 6 12 4 5 t fa ta f g x0 H → va_S (AL s) s.heap H locs → W p l e room_1 s m #[Value.ref b] below meth c H locs cl sl Q (F0 m 565 ls [.int b9, .int (nI (w % 4)), .ref x0]) := by
    intro b9 hb9 hm9 ad H locs hL hS
    have hz9 := hG.2.2 (w % 4) (by omega)
    have xx2 : ad 0 0 = x0 := hL.2.2.2.2.2.2.2
    refine W.eq (g2 := F0 m 565 ls ((([.inr (.inl (0, 0)), .inl (nI (w % 4)), .inl b9] : List VV).map (toV ad)).reverse ++ [])) (by rw [← xx2]; rfl) ?_
    refine law_E (as := [.inr (.inl (0, 0)), .inl (nI (w % 4)), .inl b9]) (n := 2) hC (Rr := fun v9 t9 => (∃ r, v9 = some (.inl r)) ∧ GS n tk f g t9) (c_X4_close hst (px := fun _ _ => False) (post := fun v9 t1 => ∃ t9, (fun v9 t9 => (∃ r, v9 = some (.inl r)) ∧ GS n tk f g t9) v9 t9 ∧ t1 = over t9) 0 (nI (w % 4)) b9 _ (ok_close hG (show w % 4 < 4 by omega) hb9 (fun z => by rw [hz9.1, hz9.2]; exact hm9 z) (fun r t9 g9 => ⟨t9, ⟨⟨r, rfl⟩, g9⟩, rfl⟩))).toE ⟨(LT_in (by decide +kernel) (by decide +kernel) : Cond.methodLink R_law 100 yX4_close ∈ LT), ws_X4_close.1, ws_X4_close.2.1, ws_X4_close.2.2.1, ws_X4_close.2.2.2⟩ (by decide +kernel) ⟨Nat.le_of_ble_eq_true rfl, Nat.le_of_ble_eq_true rfl⟩ rfl rfl rfl rfl rfl hL hS hl.1 (rest := []) (by exact Nat.le_of_ble_eq_true rfl) (by omega) (by omega) dL_law_565 (fun v9 t2 ad2 H2 locs2 hR2 hL2 hS2 => ?_)
    obtain ⟨⟨r2, rfl⟩, hG2⟩ := hR2
    refine W.eq (g2 := F0 m 568 ls [.int r2]) rfl ?_
    refine lv_pop hx hb dL_law_568 rfl ?_
    refine lv_goto hx hb dL_law_569 (tgt := 591) (by decide) ?_
    exact kj _ _ _ ad2 H2 locs2 ls hG2 (by omega) (by omega) hL2 hS2 (lv_sub hl [4, 5, 6, 7, 8, 9] rfl)
  refine lv_if_le hx hb dL_law_538 (tgt := 564) (by decide) (fun _ => ?_) (fun _ => ?_)
  · refine lv_iconst (v := 0) hx hb dL_law_564 (by decide +kernel) ?_
    exact cl9 0 isB_0 (fun z => absurd rfl z) ad H locs hL hS
  · refine lv_aload_n hx hb dL_law_541 rfl (lv_at hl 8 rfl) ?_
    refine lv_aload_n hx hb dL_law_542 rfl (lv_at hl 7 rfl) ?_
    refine lv_iload hx hb dL_law_543 (lv_at hl 1 rfl) ?_
    refine lv_iconst (v := 4) hx hb dL_law_545 (by decide +kernel) ?_
    refine lv_irem hx hb dL_law_546 (by decide +kernel) ?_
    refine W.eq (g2 := F0 m 547 ls [.int (nI (w % 4)), .ref fa, .ref x0, .int (nI (w % 4)), .ref x0]) (by rw [e1]) ?_
    refine law_ald hC hL.2.1 (show w % 4 < 4 by omega) dL_law_547 ?_
    refine lv_aload_n hx hb dL_law_548 rfl (lv_at hl 6 rfl) ?_
    refine lv_iload hx hb dL_law_549 (lv_at hl 1 rfl) ?_
    refine lv_iconst (v := 4) hx hb dL_law_551 (by decide +kernel) ?_
    refine lv_irem hx hb dL_law_552 (by decide +kernel) ?_
    refine W.eq (g2 := F0 m 553 ls [.int (nI (w % 4)), .ref ta, .int (f (w % 4)), .ref x0, .int (nI (w % 4)), .ref x0]) (by rw [e1]) ?_
    refine law_ald hC hL.2.2.1 (show w % 4 < 4 by omega) dL_law_553 ?_
    have xx1 : ad 0 0 = x0 := hL.2.2.2.2.2.2.2
    refine W.eq (g2 := F0 m 554 ls ((([.inr (.inl (0, 0)), .inl (f (w % 4)), .inl (g (w % 4))] : List VV).map (toV ad)).reverse ++ [.int (nI (w % 4)), .ref x0])) (by rw [← xx1]; rfl) ?_
    refine law_SE (as := [.inr (.inl (0, 0)), .inl (f (w % 4)), .inl (g (w % 4))]) (n := 3) hC (Rr := fun v9 t9 => t9 = t ∧ (v9 = some (.inl 0) ∨ (v9 = some (.inl 1) ∧ ∀ j, j < 5 → mayS t (f (w % 4)) (g (w % 4)) j))) (c_L_mayClose hst (px := fun _ _ => False) (post := fun v9 t1 => ∃ t9, (fun v9 t9 => t9 = t ∧ (v9 = some (.inl 0) ∨ (v9 = some (.inl 1) ∧ ∀ j, j < 5 → mayS t (f (w % 4)) (g (w % 4)) j))) v9 t9 ∧ t1 = over t9) 0 (f (w % 4)) (g (w % 4)) _ (hl_mayClose hG ⟨t, ⟨rfl, Or.inl rfl⟩, rfl⟩ (fun z => ⟨t, ⟨rfl, Or.inr ⟨rfl, z⟩⟩, rfl⟩))).toE ⟨(LT_in (by decide +kernel) (by decide +kernel) : Cond.methodLink R_law 97 yL_mayClose ∈ LT), ws_L_mayClose.1, ws_L_mayClose.2.1, ws_L_mayClose.2.2⟩ (by decide +kernel) ⟨Nat.le_of_ble_eq_true rfl, Nat.le_of_ble_eq_true rfl⟩ rfl rfl rfl hL hS hl.1 (rest := [.int (nI (w % 4)), .ref x0]) (by exact Nat.le_of_ble_eq_true rfl) (by omega) (by omega) dL_law_554 (fun v9 t2 ad2 H2 locs2 hR2 hL2 hS2 => ?_)
    obtain ⟨rfl, hR2⟩ := hR2
    rcases hR2 with rfl | ⟨rfl, hR2⟩
    · refine W.eq (g2 := F0 m 557 ls [.int 0, .int (nI (w % 4)), .ref x0]) rfl ?_
      refine lv_if_eq hx hb dL_law_557 (tgt := 564) (by decide) (fun _ => ?_) (fun z => absurd rfl z)
      refine lv_iconst (v := 0) hx hb dL_law_564 (by decide +kernel) ?_
      exact cl9 0 isB_0 (fun z => absurd rfl z) ad2 H2 locs2 hL2 hS2
    · refine W.eq (g2 := F0 m 557 ls [.int 1, .int (nI (w % 4)), .ref x0]) rfl ?_
      refine lv_if_eq hx hb dL_law_557 (tgt := 564) (by decide) (fun z => absurd z (by decide +kernel)) (fun _ => ?_)
      refine lv_iconst (v := 1) hx hb dL_law_560 (by decide +kernel) ?_
      refine lv_goto hx hb dL_law_561 (tgt := 565) (by decide) ?_
      exact cl9 1 isB_1 (fun _ => hR2) ad2 H2 locs2 hL2 hS2
set_option maxHeartbeats 4000000 in
theorem law_470 (hC : LC p l s m c D X b L xs) (hG : GS n tk f g t) (hn : n ≤ 600) (htk : tk + 7 ≤ 999) (hT : T < 5) (hw : w < 2 ^ 31) (hc : cl ≤ 600130) (hs : sl ≤ 7301080) (kj : ∀ (n' tk' : Nat) (t' : TT) (ad' : Nat → Nat → Nat) (H1 : Heap) (locs1 : List Loc) (ls1 : Array Slot), GS n' tk' f g t' → n' ≤ n + 1 → tk' ≤ tk + 7 → LSt D X ad' (AL s) 6 12 4 5 t' fa ta f g x0 H1 → va_S (AL s) s.heap H1 locs1 → lv_has ls1 10 [(5, .int (nI k)), (4, .int 1), (3, .ref ta), (2, .ref fa), (1, .ref x0), (0, .ref b)] → W p l e room_1 s m #[Value.ref b] below meth c H1 locs1 cl sl Q (F0 m 591 ls1 [])) (hL : LSt D X ad (AL s) 6 12 4 5 t fa ta f g x0 H) (hS : va_S (AL s) s.heap H locs) (hl : lv_has ls 10 [(9, .int (nI K)), (8, .int (nI w)), (7, .int (nI T)), (6, .int (nI v)), (5, .int (nI k)), (4, .int 1), (3, .ref ta), (2, .ref fa), (1, .ref x0), (0, .ref b)]) : W p l e room_1 s m #[Value.ref b] below meth c H locs cl sl Q (F0 m 470 ls []) := by
  obtain ⟨hx, hb, hml, hts, hown, hK, hE, hX, hbl, hL9, hst⟩ := id hC
  refine lv_iload hx hb dL_law_470 (lv_at hl 0 rfl) ?_
  refine lv_bipush (v := 13) hx hb dL_law_472 (by decide +kernel) ?_
  refine lv_icmp_ne hx hb dL_law_474 (tgt := 520) (by decide) (fun _ => law_520 hC hG hn htk hT hw hc hs kj hL hS hl) (fun _ => ?_)
  refine lv_aload_n hx hb dL_law_477 rfl (lv_at hl 8 rfl) ?_
  refine lv_iload hx hb dL_law_478 (lv_at hl 2 rfl) ?_
  refine lv_iload hx hb dL_law_480 (lv_at hl 1 rfl) ?_
  refine lv_iconst (v := 3) hx hb dL_law_482 (by decide +kernel) ?_
  refine lv_irem hx hb dL_law_483 (by decide +kernel) ?_
  have e1 : nI w - nI w / 3 * 3 = nI (w % 3) := pk_rem (d := 3) (by omega) (by omega) (by omega)
  refine W.eq (g2 := F0 m 484 ls [.int (nI (w % 3)), .int (nI T), .ref x0]) (by rw [e1]) ?_
  refine lv_iconst (v := 1) hx hb dL_law_484 (by decide +kernel) ?_
  refine lv_isub hx hb dL_law_485 ?_
  have hb3 : nI (w % 3) - 1 = -1 ∨ nI (w % 3) - 1 = 0 ∨ nI (w % 3) - 1 = 1 := by
    rcases (show w % 3 = 0 ∨ w % 3 = 1 ∨ w % 3 = 2 by omega) with h | h | h <;> rw [h] <;> decide +kernel
  have xx2 : ad 0 0 = x0 := hL.2.2.2.2.2.2.2
  refine W.eq (g2 := F0 m 486 ls ((([.inr (.inl (0, 0)), .inl (nI T), .inl (nI (w % 3) - 1)] : List VV).map (toV ad)).reverse ++ [])) (by rw [← xx2]; rfl) ?_
  refine law_E (as := [.inr (.inl (0, 0)), .inl (nI T), .inl (nI (w % 3) - 1)]) (n := 2) hC (Rr := fun v9 t9 => (∃ r, v9 = some (.inl r)) ∧ GS n tk f g t9) (c_X4_slip hst (px := fun _ _ => False) (post := fun v9 t1 => ∃ t9, (fun v9 t9 => (∃ r, v9 = some (.inl r)) ∧ GS n tk f g t9) v9 t9 ∧ t1 = over t9) 0 (nI T) (nI (w % 3) - 1) _ (ok_slip hG hT hb3 (fun r t9 g9 => ⟨t9, ⟨⟨r, rfl⟩, g9⟩, rfl⟩))).toE ⟨(LT_in (by decide +kernel) (by decide +kernel) : Cond.methodLink R_law 91 yX4_slip ∈ LT), ws_X4_slip.1, ws_X4_slip.2.1, ws_X4_slip.2.2.1, ws_X4_slip.2.2.2⟩ (by decide +kernel) ⟨Nat.le_of_ble_eq_true rfl, Nat.le_of_ble_eq_true rfl⟩ rfl rfl rfl rfl rfl hL hS hl.1 (rest := []) (by exact Nat.le_of_ble_eq_true rfl) (by omega) (by omega) dL_law_486 (fun v9 t2 ad2 H2 locs2 hR2 hL2 hS2 => ?_)
  obtain ⟨⟨r2, rfl⟩, hG2⟩ := hR2
  refine W.eq (g2 := F0 m 489 ls [.int r2]) rfl ?_
  refine lv_pop hx hb dL_law_489 rfl ?_
  refine lv_aload_n hx hb dL_law_490 rfl (lv_at hl 8 rfl) ?_
  refine lv_iload hx hb dL_law_491 (lv_at hl 1 rfl) ?_
  refine lv_iconst (v := 4) hx hb dL_law_493 (by decide +kernel) ?_
  refine lv_idiv hx hb dL_law_494 (by decide +kernel) ?_
  refine lv_bipush (v := 12) hx hb dL_law_495 (by decide +kernel) ?_
  refine lv_irem hx hb dL_law_497 (by decide +kernel) ?_
  have e4 : nI w / 4 = nI (w / 4) := pk_div (d := 4) (by omega) (by omega) (by omega)
  have e5 : nI (w / 4) - nI (w / 4) / 12 * 12 = nI (w / 4 % 12) := pk_rem (d := 12) (by omega) (by omega) (by omega)
  refine W.eq (g2 := F0 m 498 ls [.int (nI (w / 4 % 12)), .ref x0]) (by rw [e4, e5]) ?_
  refine lv_iload hx hb dL_law_498 (lv_at hl 1 rfl) ?_
  refine lv_bipush (v := 64) hx hb dL_law_500 (by decide +kernel) ?_
  refine lv_idiv hx hb dL_law_502 (by decide +kernel) ?_
  refine lv_iconst (v := 3) hx hb dL_law_503 (by decide +kernel) ?_
  refine lv_irem hx hb dL_law_504 (by decide +kernel) ?_
  have wk9 : ∀ b9, isB b9 → W p l e room_1 s m #[Value.ref b] below meth c H2 locs2 (cl + 0) (sl + 0) Q (F0 m 513 ls [.int b9, .int (nI (w / 4 % 12)), .ref x0]) := by
    intro b9 hb9
    have xx3 : ad2 0 0 = x0 := hL2.2.2.2.2.2.2.2
    refine W.eq (g2 := F0 m 513 ls ((([.inr (.inl (0, 0)), .inl (nI (w / 4 % 12)), .inl b9] : List VV).map (toV ad2)).reverse ++ [])) (by rw [← xx3]; rfl) ?_
    refine law_E (as := [.inr (.inl (0, 0)), .inl (nI (w / 4 % 12)), .inl b9]) (n := 2) hC (Rr := fun v9 t9 => (∃ r, v9 = some (.inl r)) ∧ GS n tk f g t9) (c_X4_works hst (px := fun _ _ => False) (post := fun v9 t1 => ∃ t9, (fun v9 t9 => (∃ r, v9 = some (.inl r)) ∧ GS n tk f g t9) v9 t9 ∧ t1 = over t9) 0 (nI (w / 4 % 12)) b9 _ (ok_works hG2 (show w / 4 % 12 < 12 by omega) hb9 (fun r t9 g9 => ⟨t9, ⟨⟨r, rfl⟩, g9⟩, rfl⟩))).toE ⟨(LT_in (by decide +kernel) (by decide +kernel) : Cond.methodLink R_law 94 yX4_works ∈ LT), ws_X4_works.1, ws_X4_works.2.1, ws_X4_works.2.2.1, ws_X4_works.2.2.2⟩ (by decide +kernel) ⟨Nat.le_of_ble_eq_true rfl, Nat.le_of_ble_eq_true rfl⟩ rfl rfl rfl rfl rfl hL2 hS2 hl.1 (rest := []) (by exact Nat.le_of_ble_eq_true rfl) (by omega) (by omega) dL_law_513 (fun v9 t3 ad3 H3 locs3 hR3 hL3 hS3 => ?_)
    obtain ⟨⟨r3, rfl⟩, hG3⟩ := hR3
    refine W.eq (g2 := F0 m 516 ls [.int r3]) rfl ?_
    refine lv_pop hx hb dL_law_516 rfl ?_
    refine lv_goto hx hb dL_law_517 (tgt := 591) (by decide) ?_
    exact kj _ _ _ ad3 H3 locs3 ls hG3 (by omega) (by omega) hL3 hS3 (lv_sub hl [4, 5, 6, 7, 8, 9] rfl)
  refine lv_if_le hx hb dL_law_505 (tgt := 512) (by decide) (fun _ => ?_) (fun _ => ?_)
  · refine lv_iconst (v := 0) hx hb dL_law_512 (by decide +kernel) ?_
    exact wk9 0 isB_0
  · refine lv_iconst (v := 1) hx hb dL_law_508 (by decide +kernel) ?_
    refine lv_goto hx hb dL_law_509 (tgt := 513) (by decide) ?_
    exact wk9 1 isB_1
set_option maxHeartbeats 4000000 in
theorem law_441 (hC : LC p l s m c D X b L xs) (hG : GS n tk f g t) (hn : n ≤ 600) (htk : tk + 7 ≤ 999) (hT : T < 5) (hw : w < 2 ^ 31) (hc : cl ≤ 600130) (hs : sl ≤ 7301080) (kj : ∀ (n' tk' : Nat) (t' : TT) (ad' : Nat → Nat → Nat) (H1 : Heap) (locs1 : List Loc) (ls1 : Array Slot), GS n' tk' f g t' → n' ≤ n + 1 → tk' ≤ tk + 7 → LSt D X ad' (AL s) 6 12 4 5 t' fa ta f g x0 H1 → va_S (AL s) s.heap H1 locs1 → lv_has ls1 10 [(5, .int (nI k)), (4, .int 1), (3, .ref ta), (2, .ref fa), (1, .ref x0), (0, .ref b)] → W p l e room_1 s m #[Value.ref b] below meth c H1 locs1 cl sl Q (F0 m 591 ls1 [])) (hL : LSt D X ad (AL s) 6 12 4 5 t fa ta f g x0 H) (hS : va_S (AL s) s.heap H locs) (hl : lv_has ls 10 [(9, .int (nI K)), (8, .int (nI w)), (7, .int (nI T)), (6, .int (nI v)), (5, .int (nI k)), (4, .int 1), (3, .ref ta), (2, .ref fa), (1, .ref x0), (0, .ref b)]) : W p l e room_1 s m #[Value.ref b] below meth c H locs cl sl Q (F0 m 441 ls []) := by
  obtain ⟨hx, hb, hml, hts, hown, hK, hE, hX, hbl, hL9, hst⟩ := id hC
  refine lv_iload hx hb dL_law_441 (lv_at hl 0 rfl) ?_
  refine lv_bipush (v := 12) hx hb dL_law_443 (by decide +kernel) ?_
  refine lv_icmp_ne hx hb dL_law_445 (tgt := 470) (by decide) (fun _ => law_470 hC hG hn htk hT hw hc hs kj hL hS hl) (fun _ => ?_)
  refine lv_aload_n hx hb dL_law_448 rfl (lv_at hl 8 rfl) ?_
  refine lv_iload hx hb dL_law_449 (lv_at hl 2 rfl) ?_
  refine lv_iload hx hb dL_law_451 (lv_at hl 1 rfl) ?_
  refine lv_iconst (v := 2) hx hb dL_law_453 (by decide +kernel) ?_
  refine lv_irem hx hb dL_law_454 (by decide +kernel) ?_
  have sl9 : ∀ b9, isB b9 → W p l e room_1 s m #[Value.ref b] below meth c H locs cl sl Q (F0 m 463 ls [.int b9, .int (nI T), .ref x0]) := by
    intro b9 hb9
    have xx2 : ad 0 0 = x0 := hL.2.2.2.2.2.2.2
    refine W.eq (g2 := F0 m 463 ls ((([.inr (.inl (0, 0)), .inl (nI T), .inl b9] : List VV).map (toV ad)).reverse ++ [])) (by rw [← xx2]; rfl) ?_
    refine law_E (as := [.inr (.inl (0, 0)), .inl (nI T), .inl b9]) (n := 2) hC (Rr := fun v9 t9 => (∃ r, v9 = some (.inl r)) ∧ GS n tk f g t9) (c_X4_silent hst (px := fun _ _ => False) (post := fun v9 t1 => ∃ t9, (fun v9 t9 => (∃ r, v9 = some (.inl r)) ∧ GS n tk f g t9) v9 t9 ∧ t1 = over t9) 0 (nI T) b9 _ (ok_silent hG hT hb9 (fun r t9 g9 => ⟨t9, ⟨⟨r, rfl⟩, g9⟩, rfl⟩))).toE ⟨(LT_in (by decide +kernel) (by decide +kernel) : Cond.methodLink R_law 87 yX4_silent ∈ LT), ws_X4_silent.1, ws_X4_silent.2.1, ws_X4_silent.2.2.1, ws_X4_silent.2.2.2⟩ (by decide +kernel) ⟨Nat.le_of_ble_eq_true rfl, Nat.le_of_ble_eq_true rfl⟩ rfl rfl rfl rfl rfl hL hS hl.1 (rest := []) (by exact Nat.le_of_ble_eq_true rfl) (by omega) (by omega) dL_law_463 (fun v9 t2 ad2 H2 locs2 hR2 hL2 hS2 => ?_)
    obtain ⟨⟨r2, rfl⟩, hG2⟩ := hR2
    refine W.eq (g2 := F0 m 466 ls [.int r2]) rfl ?_
    refine lv_pop hx hb dL_law_466 rfl ?_
    refine lv_goto hx hb dL_law_467 (tgt := 591) (by decide) ?_
    exact kj _ _ _ ad2 H2 locs2 ls hG2 (by omega) (by omega) hL2 hS2 (lv_sub hl [4, 5, 6, 7, 8, 9] rfl)
  refine lv_if_ne hx hb dL_law_455 (tgt := 462) (by decide) (fun _ => ?_) (fun _ => ?_)
  · refine lv_iconst (v := 0) hx hb dL_law_462 (by decide +kernel) ?_
    exact sl9 0 isB_0
  · refine lv_iconst (v := 1) hx hb dL_law_458 (by decide +kernel) ?_
    refine lv_goto hx hb dL_law_459 (tgt := 463) (by decide) ?_
    exact sl9 1 isB_1
set_option maxHeartbeats 4000000 in
theorem law_399 (hC : LC p l s m c D X b L xs) (hG : GS n tk f g t) (hn : n ≤ 600) (htk : tk + 7 ≤ 999) (hT : T < 5) (hw : w < 2 ^ 31) (hc : cl ≤ 600130) (hs : sl ≤ 7301080) (kj : ∀ (n' tk' : Nat) (t' : TT) (ad' : Nat → Nat → Nat) (H1 : Heap) (locs1 : List Loc) (ls1 : Array Slot), GS n' tk' f g t' → n' ≤ n + 1 → tk' ≤ tk + 7 → LSt D X ad' (AL s) 6 12 4 5 t' fa ta f g x0 H1 → va_S (AL s) s.heap H1 locs1 → lv_has ls1 10 [(5, .int (nI k)), (4, .int 1), (3, .ref ta), (2, .ref fa), (1, .ref x0), (0, .ref b)] → W p l e room_1 s m #[Value.ref b] below meth c H1 locs1 cl sl Q (F0 m 591 ls1 [])) (hL : LSt D X ad (AL s) 6 12 4 5 t fa ta f g x0 H) (hS : va_S (AL s) s.heap H locs) (hl : lv_has ls 10 [(9, .int (nI K)), (8, .int (nI w)), (7, .int (nI T)), (6, .int (nI v)), (5, .int (nI k)), (4, .int 1), (3, .ref ta), (2, .ref fa), (1, .ref x0), (0, .ref b)]) : W p l e room_1 s m #[Value.ref b] below meth c H locs cl sl Q (F0 m 399 ls []) := by
  obtain ⟨hx, hb, hml, hts, hown, hK, hE, hX, hbl, hL9, hst⟩ := id hC
  refine lv_iload hx hb dL_law_399 (lv_at hl 0 rfl) ?_
  refine lv_bipush (v := 11) hx hb dL_law_401 (by decide +kernel) ?_
  refine lv_icmp_ne hx hb dL_law_403 (tgt := 441) (by decide) (fun _ => law_441 hC hG hn htk hT hw hc hs kj hL hS hl) (fun _ => ?_)
  refine lv_aload_n hx hb dL_law_406 rfl (lv_at hl 8 rfl) ?_
  refine lv_iload hx hb dL_law_407 (lv_at hl 2 rfl) ?_
  have xx2 : ad 0 0 = x0 := hL.2.2.2.2.2.2.2
  refine W.eq (g2 := F0 m 409 ls ((([.inr (.inl (0, 0)), .inl (nI T)] : List VV).map (toV ad)).reverse ++ [])) (by rw [← xx2]; rfl) ?_
  refine law_E (as := [.inr (.inl (0, 0)), .inl (nI T)]) (n := 1) hC (Rr := fun v9 t9 => (∃ r, v9 = some (.inl r)) ∧ GS n tk f g t9 ∧ isB (rv9 v9) ∧ t9 33 T = rv9 v9) (c_X4_emergency hst (px := fun _ _ => False) (post := fun v9 t1 => ∃ t9, (fun v9 t9 => (∃ r, v9 = some (.inl r)) ∧ GS n tk f g t9 ∧ isB (rv9 v9) ∧ t9 33 T = rv9 v9) v9 t9 ∧ t1 = over t9) 0 (nI T) _ (ok_emergency hG hT (fun r t9 g9 h1 h2 => ⟨t9, ⟨⟨r, rfl⟩, g9, h1, h2⟩, rfl⟩))).toE ⟨(LT_in (by decide +kernel) (by decide +kernel) : Cond.methodLink R_law 83 yX4_emergency ∈ LT), ws_X4_emergency.1, ws_X4_emergency.2.1, ws_X4_emergency.2.2.1, ws_X4_emergency.2.2.2⟩ (by decide +kernel) ⟨Nat.le_of_ble_eq_true rfl, Nat.le_of_ble_eq_true rfl⟩ rfl rfl rfl rfl rfl hL hS hl.1 (rest := []) (by exact Nat.le_of_ble_eq_true rfl) (by omega) (by omega) dL_law_409 (fun v9 t2 ad2 H2 locs2 hR2 hL2 hS2 => ?_)
  obtain ⟨⟨r2, rfl⟩, hG2⟩ := hR2
  refine W.eq (g2 := F0 m 412 ls [.int r2]) rfl ?_
  obtain ⟨hG3, hB3, h33⟩ := hG2
  have hB3 : isB r2 := hB3
  have h33 : t2 33 T = r2 := h33
  refine lv_aload_n hx hb dL_law_412 rfl (lv_at hl 8 rfl) ?_
  refine lv_iload hx hb dL_law_413 (lv_at hl 2 rfl) ?_
  refine lv_iconst (v := 5) hx hb dL_law_415 (by decide +kernel) ?_
  have xx4 : ad2 0 0 = x0 := hL2.2.2.2.2.2.2.2
  refine W.eq (g2 := F0 m 416 ls ((([.inr (.inl (0, 0)), .inl (nI T), .inl 5] : List VV).map (toV ad2)).reverse ++ [.int r2])) (by rw [← xx4]; rfl) ?_
  refine law_E (as := [.inr (.inl (0, 0)), .inl (nI T), .inl 5]) (n := 2) hC (Rr := fun v9 t9 => (∃ r, v9 = some (.inl r)) ∧ v9 = some (.inl (b2i (!decide (t2 33 T = 0)))) ∧ t9 = t2) (c_X4_trainIs hst (px := fun _ _ => False) (post := fun v9 t1 => ∃ t9, (fun v9 t9 => (∃ r, v9 = some (.inl r)) ∧ v9 = some (.inl (b2i (!decide (t2 33 T = 0)))) ∧ t9 = t2) v9 t9 ∧ t1 = over t9) 0 (nI T) 5 _ (by rw [e_5 hG3 hT]; exact ⟨_, ⟨⟨_, rfl⟩, rfl, rfl⟩, rfl⟩)).toE ⟨(LT_in (by decide +kernel) (by decide +kernel) : Cond.methodLink R_law 9 yX4_trainIs ∈ LT), ws_X4_trainIs.1, ws_X4_trainIs.2.1, ws_X4_trainIs.2.2.1, ws_X4_trainIs.2.2.2⟩ (by decide +kernel) ⟨Nat.le_of_ble_eq_true rfl, Nat.le_of_ble_eq_true rfl⟩ rfl rfl rfl rfl rfl hL2 hS2 hl.1 (rest := [.int r2]) (by exact Nat.le_of_ble_eq_true rfl) (by omega) (by omega) dL_law_416 (fun v9 t4 ad4 H4 locs4 hR4 hL4 hS4 => ?_)
  obtain ⟨⟨r4, rfl⟩, hG4⟩ := hR4
  refine W.eq (g2 := F0 m 419 ls [.int r4, .int r2]) rfl ?_
  obtain ⟨h4, rfl⟩ := hG4
  have h4 : r4 = r2 := by
    have := Sum.inl.inj (Option.some.inj h4)
    rw [this, h33]
    exact isB_b2i hB3
  subst h4
  have fin : ∀ x9, W p l e room_1 s m #[Value.ref b] below meth c H4 locs4 (cl + 0 + 0) (sl + 0 + 0) Q (F0 m 428 ls [.int x9, .int x9]) := by
    intro x9
    refine lv_icmp_ne hx hb dL_law_428 (tgt := 435) (by decide) (fun z => absurd rfl z) (fun _ => ?_)
    refine lv_iconst (v := 1) hx hb dL_law_431 (by decide +kernel) ?_
    refine lv_goto hx hb dL_law_432 (tgt := 436) (by decide) ?_
    refine lv_istore (lv' := [(4, .int 1), (9, .int (nI K)), (8, .int (nI w)), (7, .int (nI T)), (6, .int (nI v)), (5, .int (nI k)), (3, .ref ta), (2, .ref fa), (1, .ref x0), (0, .ref b)]) hx hb dL_law_436 hl (by decide) rfl (fun ls1 hl1 => ?_)
    refine lv_goto hx hb dL_law_438 (tgt := 591) (by decide) ?_
    exact kj _ _ _ ad4 H4 locs4 ls1 hG3 (by omega) (by omega) hL4 hS4 (lv_sub hl1 [5, 0, 6, 7, 8, 9] rfl)
  refine lv_iconst (v := 1) hx hb dL_law_419 (by decide +kernel) ?_
  rcases hB3 with rfl | rfl
  · refine lv_icmp_ne hx hb dL_law_420 (tgt := 427) (by decide) (fun _ => ?_) (fun z => absurd z (by decide +kernel))
    refine lv_iconst (v := 0) hx hb dL_law_427 (by decide +kernel) ?_
    exact fin 0
  · refine lv_icmp_ne hx hb dL_law_420 (tgt := 427) (by decide) (fun z => absurd rfl z) (fun _ => ?_)
    refine lv_iconst (v := 1) hx hb dL_law_423 (by decide +kernel) ?_
    refine lv_goto hx hb dL_law_424 (tgt := 428) (by decide) ?_
    exact fin 1
set_option maxHeartbeats 4000000 in
theorem law_374 (hC : LC p l s m c D X b L xs) (hG : GS n tk f g t) (hn : n ≤ 600) (htk : tk + 7 ≤ 999) (hT : T < 5) (hw : w < 2 ^ 31) (hc : cl ≤ 600130) (hs : sl ≤ 7301080) (kj : ∀ (n' tk' : Nat) (t' : TT) (ad' : Nat → Nat → Nat) (H1 : Heap) (locs1 : List Loc) (ls1 : Array Slot), GS n' tk' f g t' → n' ≤ n + 1 → tk' ≤ tk + 7 → LSt D X ad' (AL s) 6 12 4 5 t' fa ta f g x0 H1 → va_S (AL s) s.heap H1 locs1 → lv_has ls1 10 [(5, .int (nI k)), (4, .int 1), (3, .ref ta), (2, .ref fa), (1, .ref x0), (0, .ref b)] → W p l e room_1 s m #[Value.ref b] below meth c H1 locs1 cl sl Q (F0 m 591 ls1 [])) (hL : LSt D X ad (AL s) 6 12 4 5 t fa ta f g x0 H) (hS : va_S (AL s) s.heap H locs) (hl : lv_has ls 10 [(9, .int (nI K)), (8, .int (nI w)), (7, .int (nI T)), (6, .int (nI v)), (5, .int (nI k)), (4, .int 1), (3, .ref ta), (2, .ref fa), (1, .ref x0), (0, .ref b)]) : W p l e room_1 s m #[Value.ref b] below meth c H locs cl sl Q (F0 m 374 ls []) := by
  obtain ⟨hx, hb, hml, hts, hown, hK, hE, hX, hbl, hL9, hst⟩ := id hC
  have dr9 : W p l e room_1 s m #[Value.ref b] below meth c H locs cl sl Q (F0 m 388 ls []) := by
    refine lv_aload_n hx hb dL_law_388 rfl (lv_at hl 8 rfl) ?_
    refine lv_iload hx hb dL_law_389 (lv_at hl 2 rfl) ?_
    refine lv_iload hx hb dL_law_391 (lv_at hl 1 rfl) ?_
    have xx1 : ad 0 0 = x0 := hL.2.2.2.2.2.2.2
    refine W.eq (g2 := F0 m 393 ls ((([.inr (.inl (0, 0)), .inl (nI T), .inl (nI w)] : List VV).map (toV ad)).reverse ++ [])) (by rw [← xx1]; rfl) ?_
    refine law_SE (as := [.inr (.inl (0, 0)), .inl (nI T), .inl (nI w)]) (n := 3) hC (Rr := fun v9 t9 => v9 = none ∧ GS (n + 1) tk f g t9) (c_L_doors hst (px := fun _ _ => False) (post := fun v9 t1 => ∃ t9, (fun v9 t9 => v9 = none ∧ GS (n + 1) tk f g t9) v9 t9 ∧ t1 = over t9) 0 (nI T) (nI w) _ (hl_doors hG hn hT hw (fun t9 g9 => ⟨t9, ⟨rfl, g9⟩, rfl⟩))).toE ⟨(LT_in (by decide +kernel) (by decide +kernel) : Cond.methodLink R_law 79 yL_doors ∈ LT), ws_L_doors.1, ws_L_doors.2.1, ws_L_doors.2.2⟩ (by decide +kernel) ⟨Nat.le_of_ble_eq_true rfl, Nat.le_of_ble_eq_true rfl⟩ rfl rfl rfl hL hS hl.1 (rest := []) (by exact Nat.le_of_ble_eq_true rfl) (by omega) (by omega) dL_law_393 (fun v9 t2 ad2 H2 locs2 hR2 hL2 hS2 => ?_)
    obtain ⟨rfl, hG2⟩ := hR2
    refine W.eq (g2 := F0 m 396 ls []) rfl ?_
    refine lv_goto hx hb dL_law_396 (tgt := 591) (by decide) ?_
    exact kj _ _ _ ad2 H2 locs2 ls hG2 (by omega) (by omega) hL2 hS2 (lv_sub hl [4, 5, 6, 7, 8, 9] rfl)
  refine lv_iload hx hb dL_law_374 (lv_at hl 0 rfl) ?_
  refine lv_bipush (v := 9) hx hb dL_law_376 (by decide +kernel) ?_
  refine lv_icmp_eq hx hb dL_law_378 (tgt := 388) (by decide) (fun _ => dr9) (fun _ => ?_)
  refine lv_iload hx hb dL_law_381 (lv_at hl 0 rfl) ?_
  refine lv_bipush (v := 10) hx hb dL_law_383 (by decide +kernel) ?_
  refine lv_icmp_ne hx hb dL_law_385 (tgt := 399) (by decide) (fun _ => law_399 hC hG hn htk hT hw hc hs kj hL hS hl) (fun _ => dr9)
set_option maxHeartbeats 4000000 in
theorem law_339 (hC : LC p l s m c D X b L xs) (hG : GS n tk f g t) (hn : n ≤ 600) (htk : tk + 7 ≤ 999) (hT : T < 5) (hw : w < 2 ^ 31) (hc : cl ≤ 600130) (hs : sl ≤ 7301080) (kj : ∀ (n' tk' : Nat) (t' : TT) (ad' : Nat → Nat → Nat) (H1 : Heap) (locs1 : List Loc) (ls1 : Array Slot), GS n' tk' f g t' → n' ≤ n + 1 → tk' ≤ tk + 7 → LSt D X ad' (AL s) 6 12 4 5 t' fa ta f g x0 H1 → va_S (AL s) s.heap H1 locs1 → lv_has ls1 10 [(5, .int (nI k)), (4, .int 1), (3, .ref ta), (2, .ref fa), (1, .ref x0), (0, .ref b)] → W p l e room_1 s m #[Value.ref b] below meth c H1 locs1 cl sl Q (F0 m 591 ls1 [])) (hL : LSt D X ad (AL s) 6 12 4 5 t fa ta f g x0 H) (hS : va_S (AL s) s.heap H locs) (hl : lv_has ls 10 [(9, .int (nI K)), (8, .int (nI w)), (7, .int (nI T)), (6, .int (nI v)), (5, .int (nI k)), (4, .int 1), (3, .ref ta), (2, .ref fa), (1, .ref x0), (0, .ref b)]) : W p l e room_1 s m #[Value.ref b] below meth c H locs cl sl Q (F0 m 339 ls []) := by
  obtain ⟨hx, hb, hml, hts, hown, hK, hE, hX, hbl, hL9, hst⟩ := id hC
  refine lv_iload hx hb dL_law_339 (lv_at hl 0 rfl) ?_
  refine lv_bipush (v := 9) hx hb dL_law_341 (by decide +kernel) ?_
  refine lv_icmp_ge hx hb dL_law_343 (tgt := 374) (by decide) (fun _ => law_374 hC hG hn htk hT hw hc hs kj hL hS hl) (fun _ => ?_)
  refine lv_aload_n hx hb dL_law_346 rfl (lv_at hl 8 rfl) ?_
  refine lv_iload hx hb dL_law_347 (lv_at hl 2 rfl) ?_
  refine lv_iload hx hb dL_law_349 (lv_at hl 1 rfl) ?_
  refine lv_bipush (v := 6) hx hb dL_law_351 (by decide +kernel) ?_
  refine lv_irem hx hb dL_law_353 (by decide +kernel) ?_
  have e1 : nI w - nI w / 6 * 6 = nI (w % 6) := pk_rem (d := 6) (by omega) (by omega) (by omega)
  refine W.eq (g2 := F0 m 354 ls [.int (nI (w % 6)), .int (nI T), .ref x0]) (by rw [e1]) ?_
  have xx1 : ad 0 0 = x0 := hL.2.2.2.2.2.2.2
  refine W.eq (g2 := F0 m 354 ls ((([.inr (.inl (0, 0)), .inl (nI T), .inl (nI (w % 6))] : List VV).map (toV ad)).reverse ++ [])) (by rw [← xx1]; rfl) ?_
  refine law_SE (as := [.inr (.inl (0, 0)), .inl (nI T), .inl (nI (w % 6))]) (n := 3) hC (Rr := fun v9 t9 => t9 = t ∧ (v9 = some (.inl 0) ∨ (v9 = some (.inl 1) ∧ t 34 T = 0 ∧ t 27 T = -1 ∧ ¬ t 4 (w % 6) + 1 < t 21 T + way (t 22 T)))) (c_L_mayStop hst (px := fun _ _ => False) (post := fun v9 t1 => ∃ t9, (fun v9 t9 => t9 = t ∧ (v9 = some (.inl 0) ∨ (v9 = some (.inl 1) ∧ t 34 T = 0 ∧ t 27 T = -1 ∧ ¬ t 4 (w % 6) + 1 < t 21 T + way (t 22 T)))) v9 t9 ∧ t1 = over t9) 0 (nI T) (nI (w % 6)) _ (hl_mayStop hG hT (show w % 6 < 6 by omega) ⟨t, ⟨rfl, Or.inl rfl⟩, rfl⟩ (fun z1 z2 z3 => ⟨t, ⟨rfl, Or.inr ⟨rfl, z1, z2, z3⟩⟩, rfl⟩))).toE ⟨(LT_in (by decide +kernel) (by decide +kernel) : Cond.methodLink R_law 71 yL_mayStop ∈ LT), ws_L_mayStop.1, ws_L_mayStop.2.1, ws_L_mayStop.2.2⟩ (by decide +kernel) ⟨Nat.le_of_ble_eq_true rfl, Nat.le_of_ble_eq_true rfl⟩ rfl rfl rfl hL hS hl.1 (rest := []) (by exact Nat.le_of_ble_eq_true rfl) (by omega) (by omega) dL_law_354 (fun v9 t2 ad2 H2 locs2 hR2 hL2 hS2 => ?_)
  obtain ⟨rfl, hR2⟩ := hR2
  rcases hR2 with rfl | ⟨rfl, z1, z2, z3⟩
  · refine W.eq (g2 := F0 m 357 ls [.int 0]) rfl ?_
    exact lv_if_eq hx hb dL_law_357 (tgt := 374) (by decide) (fun _ => law_374 hC hG hn htk hT hw hc hs kj hL2 hS2 hl) (fun z => absurd rfl z)
  · refine W.eq (g2 := F0 m 357 ls [.int 1]) rfl ?_
    refine lv_if_eq hx hb dL_law_357 (tgt := 374) (by decide) (fun z => absurd z (by decide +kernel)) (fun _ => ?_)
    refine lv_aload_n hx hb dL_law_360 rfl (lv_at hl 8 rfl) ?_
    refine lv_iload hx hb dL_law_361 (lv_at hl 2 rfl) ?_
    refine lv_iload hx hb dL_law_363 (lv_at hl 1 rfl) ?_
    refine lv_bipush (v := 6) hx hb dL_law_365 (by decide +kernel) ?_
    refine lv_irem hx hb dL_law_367 (by decide +kernel) ?_
    refine W.eq (g2 := F0 m 368 ls [.int (nI (w % 6)), .int (nI T), .ref x0]) (by rw [e1]) ?_
    have xx2 : ad2 0 0 = x0 := hL2.2.2.2.2.2.2.2
    refine W.eq (g2 := F0 m 368 ls ((([.inr (.inl (0, 0)), .inl (nI T), .inl (nI (w % 6))] : List VV).map (toV ad2)).reverse ++ [])) (by rw [← xx2]; rfl) ?_
    refine law_E (as := [.inr (.inl (0, 0)), .inl (nI T), .inl (nI (w % 6))]) (n := 2) hC (Rr := fun v9 t9 => v9 = none ∧ GS n tk f g t9) (c_X4_stop hst (px := fun _ _ => False) (post := fun v9 t1 => ∃ t9, (fun v9 t9 => v9 = none ∧ GS n tk f g t9) v9 t9 ∧ t1 = over t9) 0 (nI T) (nI (w % 6)) _ (ok_stop hG hT (show w % 6 < 6 by omega) z1 z2 z3 (fun t9 g9 => ⟨t9, ⟨rfl, g9⟩, rfl⟩))).toE ⟨(LT_in (by decide +kernel) (by decide +kernel) : Cond.methodLink R_law 75 yX4_stop ∈ LT), ws_X4_stop.1, ws_X4_stop.2.1, ws_X4_stop.2.2.1, ws_X4_stop.2.2.2⟩ (by decide +kernel) ⟨Nat.le_of_ble_eq_true rfl, Nat.le_of_ble_eq_true rfl⟩ rfl rfl rfl rfl rfl hL2 hS2 hl.1 (rest := []) (by exact Nat.le_of_ble_eq_true rfl) (by omega) (by omega) dL_law_368 (fun v9 t3 ad3 H3 locs3 hR3 hL3 hS3 => ?_)
    obtain ⟨rfl, hG3⟩ := hR3
    refine W.eq (g2 := F0 m 371 ls []) rfl ?_
    refine lv_goto hx hb dL_law_371 (tgt := 591) (by decide) ?_
    exact kj _ _ _ ad3 H3 locs3 ls hG3 (by omega) (by omega) hL3 hS3 (lv_sub hl [4, 5, 6, 7, 8, 9] rfl)
set_option maxHeartbeats 4000000 in
theorem law_317 (hC : LC p l s m c D X b L xs) (hG : GS n tk f g t) (hn : n ≤ 600) (htk : tk + 7 ≤ 999) (hT : T < 5) (hw : w < 2 ^ 31) (hc : cl ≤ 600130) (hs : sl ≤ 7301080) (kj : ∀ (n' tk' : Nat) (t' : TT) (ad' : Nat → Nat → Nat) (H1 : Heap) (locs1 : List Loc) (ls1 : Array Slot), GS n' tk' f g t' → n' ≤ n + 1 → tk' ≤ tk + 7 → LSt D X ad' (AL s) 6 12 4 5 t' fa ta f g x0 H1 → va_S (AL s) s.heap H1 locs1 → lv_has ls1 10 [(5, .int (nI k)), (4, .int 1), (3, .ref ta), (2, .ref fa), (1, .ref x0), (0, .ref b)] → W p l e room_1 s m #[Value.ref b] below meth c H1 locs1 cl sl Q (F0 m 591 ls1 [])) (hL : LSt D X ad (AL s) 6 12 4 5 t fa ta f g x0 H) (hS : va_S (AL s) s.heap H locs) (hl : lv_has ls 10 [(9, .int (nI K)), (8, .int (nI w)), (7, .int (nI T)), (6, .int (nI v)), (5, .int (nI k)), (4, .int 1), (3, .ref ta), (2, .ref fa), (1, .ref x0), (0, .ref b)]) : W p l e room_1 s m #[Value.ref b] below meth c H locs cl sl Q (F0 m 317 ls []) := by
  obtain ⟨hx, hb, hml, hts, hown, hK, hE, hX, hbl, hL9, hst⟩ := id hC
  refine lv_iload hx hb dL_law_317 (lv_at hl 0 rfl) ?_
  refine lv_bipush (v := 7) hx hb dL_law_319 (by decide +kernel) ?_
  refine lv_icmp_ge hx hb dL_law_321 (tgt := 339) (by decide) (fun _ => law_339 hC hG hn htk hT hw hc hs kj hL hS hl) (fun _ => ?_)
  refine lv_aload_n hx hb dL_law_324 rfl (lv_at hl 8 rfl) ?_
  refine lv_iconst (v := 1) hx hb dL_law_325 (by decide +kernel) ?_
  refine lv_iload hx hb dL_law_326 (lv_at hl 1 rfl) ?_
  refine lv_bipush (v := 7) hx hb dL_law_328 (by decide +kernel) ?_
  refine lv_irem hx hb dL_law_330 (by decide +kernel) ?_
  refine lv_iadd hx hb dL_law_331 ?_
  have e1 : nI w - nI w / 7 * 7 = nI (w % 7) := pk_rem (d := 7) (by omega) (by omega) (by omega)
  have e2 : (1 : Int32) + nI (w % 7) = nI (1 + w % 7) := nI_add 1 _
  have xx2 : ad 0 0 = x0 := hL.2.2.2.2.2.2.2
  refine W.eq (g2 := F0 m 332 ls ((([.inr (.inl (0, 0)), .inl (nI (1 + w % 7))] : List VV).map (toV ad)).reverse ++ [])) (by rw [e1, e2, ← xx2]; rfl) ?_
  refine law_E (as := [.inr (.inl (0, 0)), .inl (nI (1 + w % 7))]) (n := 1) hC (Rr := fun v9 t9 => (∃ r, v9 = some (.inl r)) ∧ GS n (tk + (1 + w % 7)) f g t9) (c_X4_pass hst (px := fun _ _ => False) (post := fun v9 t1 => ∃ t9, (fun v9 t9 => (∃ r, v9 = some (.inl r)) ∧ GS n (tk + (1 + w % 7)) f g t9) v9 t9 ∧ t1 = over t9) 0 (nI (1 + w % 7)) _ (ok_pass hG (by omega) (by omega) (by omega) (fun r t9 g9 => ⟨t9, ⟨⟨r, rfl⟩, g9⟩, rfl⟩))).toE ⟨(LT_in (by decide +kernel) (by decide +kernel) : Cond.methodLink R_law 68 yX4_pass ∈ LT), ws_X4_pass.1, ws_X4_pass.2.1, ws_X4_pass.2.2.1, ws_X4_pass.2.2.2⟩ (by decide +kernel) ⟨Nat.le_of_ble_eq_true rfl, Nat.le_of_ble_eq_true rfl⟩ rfl rfl rfl rfl rfl hL hS hl.1 (rest := []) (by exact Nat.le_of_ble_eq_true rfl) (by omega) (by omega) dL_law_332 (fun v9 t2 ad2 H2 locs2 hR2 hL2 hS2 => ?_)
  obtain ⟨⟨r2, rfl⟩, hG2⟩ := hR2
  refine W.eq (g2 := F0 m 335 ls [.int r2]) rfl ?_
  refine lv_pop hx hb dL_law_335 rfl ?_
  refine lv_goto hx hb dL_law_336 (tgt := 591) (by decide) ?_
  exact kj _ _ _ ad2 H2 locs2 ls hG2 (by omega) (by omega) hL2 hS2 (lv_sub hl [4, 5, 6, 7, 8, 9] rfl)
end LW54
