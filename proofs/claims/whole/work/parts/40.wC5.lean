set_option maxRecDepth 100000 in
set_option maxHeartbeats 4000000 in
theorem wX8_digest_L497 {p : Program} {l : Launch} {e : Env} {s : State} {m : MethodId} {args : Array Value} {below : List Frame} {meth : Method} {c : Code} {D : va_G} {A : Nat → Prop} {ad : Nat → Nat} {cI cX : ClassId} {td : Nat} {r : Int64} {σ' : xSt} (X : xX p s m args c cX8_digest 7 RX8 D (tyC cI cX) A (wC ad cI cX)) (hr : meth.sig.returnType = (some .long)) (hl : meth.locks = false) (hT : xT td A s) (F : Nat) (v1 : Int64) (σ : xSt) (h : mX8_digest_L497 F v1 σ = some (r, σ')) : xG p l e ({ frames := 6, cells := 0, slots := 0, locals := 151 }) s m args below meth c (MQ below (xQl D A (wC ad cI cX) r σ') args s 0 0 A) 7 D A (wC ad cI cX) σ 497 [(0, .ref (ad 0)), (1, .long v1)] [] := by
  unfold mX8_digest_L497 at h
  refine x_ldc2 (pc := 497) X kcX8_297 dX8_digest_497 ?_
  refine x_lload_n (pc := 500) X dX8_digest_500 rfl 1 rfl ?_
  refine x_lmul (pc := 501) X dX8_digest_501 ?_
  refine x_aload_n (pc := 502) X dX8_digest_502 rfl 0 rfl ?_
  refine x_iconst (pc := 503) (v := (-1)) X dX8_digest_503 (by decide) ?_
  obtain ⟨r504, σ504, hq504, h⟩ := xb2_some h
  refine x_calliV (pc := 504) (As := [.int (-1)]) (rest := [.long (31 * v1)]) X (kX8_together l X.2.2.2.2.2.2.2 F _ _ _ _ hq504) kvX8_355 rfl (qX8) ⟨rfl, rfl, Nat.le_of_ble_eq_true rfl, Nat.le_of_ble_eq_true rfl⟩ rfl rfl (Nat.le_of_ble_eq_true rfl) dX8_digest_504 ?_
  refine x_i2l (pc := 507) X dX8_digest_507 ?_
  refine x_ladd (pc := 508) X dX8_digest_508 ?_
  refine x_lstore_n (pc := 509) (lv' := [(1, .long ((31 * v1) + (Int32.toInt64 r504))), (0, .ref (ad 0))]) X dX8_digest_509 rfl (by decide) rfl ?_
  refine x_ldc2 (pc := 510) X kcX8_297 dX8_digest_510 ?_
  refine x_lload_n (pc := 513) X dX8_digest_513 rfl 0 rfl ?_
  refine x_lmul (pc := 514) X dX8_digest_514 ?_
  refine x_aload_n (pc := 515) X dX8_digest_515 rfl 1 rfl ?_
  refine x_iconst (pc := 516) (v := 0) X dX8_digest_516 (by decide) ?_
  obtain ⟨r517, σ517, hq517, h⟩ := xb2_some h
  refine x_calliV (pc := 517) (As := [.int 0]) (rest := [.long (31 * ((31 * v1) + (Int32.toInt64 r504)))]) X (kX8_together l X.2.2.2.2.2.2.2 F _ _ _ _ hq517) kvX8_355 rfl (qX8) ⟨rfl, rfl, Nat.le_of_ble_eq_true rfl, Nat.le_of_ble_eq_true rfl⟩ rfl rfl (Nat.le_of_ble_eq_true rfl) dX8_digest_517 ?_
  refine x_i2l (pc := 520) X dX8_digest_520 ?_
  refine x_ladd (pc := 521) X dX8_digest_521 ?_
  refine x_lstore_n (pc := 522) (lv' := [(1, .long ((31 * ((31 * v1) + (Int32.toInt64 r504))) + (Int32.toInt64 r517))), (0, .ref (ad 0))]) X dX8_digest_522 rfl (by decide) rfl ?_
  refine x_ldc2 (pc := 523) X kcX8_297 dX8_digest_523 ?_
  refine x_lload_n (pc := 526) X dX8_digest_526 rfl 0 rfl ?_
  refine x_lmul (pc := 527) X dX8_digest_527 ?_
  refine x_aload_n (pc := 528) X dX8_digest_528 rfl 1 rfl ?_
  refine x_iconst (pc := 529) (v := 0) X dX8_digest_529 (by decide) ?_
  refine x_iconst (pc := 530) (v := 3) X dX8_digest_530 (by decide) ?_
  refine x_iconst (pc := 531) (v := 2) X dX8_digest_531 (by decide) ?_
  refine x_iconst (pc := 532) (v := 4) X dX8_digest_532 (by decide) ?_
  refine x_iconst (pc := 533) (v := (-1)) X dX8_digest_533 (by decide) ?_
  obtain ⟨r534, σ534, hq534, h⟩ := xb2_some h
  refine x_calliV (pc := 534) (As := [.int 0, .int 3, .int 2, .int 4, .int (-1)]) (rest := [.long (31 * ((31 * ((31 * v1) + (Int32.toInt64 r504))) + (Int32.toInt64 r517)))]) X (kX8_frame l X.2.2.2.2.2.2.2 F _ _ _ _ _ _ _ _ hq534) kvX8_358 rfl (qX8) ⟨rfl, rfl, Nat.le_of_ble_eq_true rfl, Nat.le_of_ble_eq_true rfl⟩ rfl rfl (Nat.le_of_ble_eq_true rfl) dX8_digest_534 ?_
  refine x_i2l (pc := 537) X dX8_digest_537 ?_
  refine x_ladd (pc := 538) X dX8_digest_538 ?_
  refine x_lstore_n (pc := 539) (lv' := [(1, .long ((31 * ((31 * ((31 * v1) + (Int32.toInt64 r504))) + (Int32.toInt64 r517))) + (Int32.toInt64 r534))), (0, .ref (ad 0))]) X dX8_digest_539 rfl (by decide) rfl ?_
  refine x_ldc2 (pc := 540) X kcX8_297 dX8_digest_540 ?_
  refine x_lload_n (pc := 543) X dX8_digest_543 rfl 0 rfl ?_
  refine x_lmul (pc := 544) X dX8_digest_544 ?_
  refine x_aload_n (pc := 545) X dX8_digest_545 rfl 1 rfl ?_
  refine x_iconst (pc := 546) (v := 0) X dX8_digest_546 (by decide) ?_
  refine x_iconst (pc := 547) (v := 3) X dX8_digest_547 (by decide) ?_
  refine x_iconst (pc := 548) (v := 2) X dX8_digest_548 (by decide) ?_
  refine x_iconst (pc := 549) (v := 4) X dX8_digest_549 (by decide) ?_
  refine x_iconst (pc := 550) (v := 0) X dX8_digest_550 (by decide) ?_
  obtain ⟨r551, σ551, hq551, h⟩ := xb2_some h
  refine x_calliV (pc := 551) (As := [.int 0, .int 3, .int 2, .int 4, .int 0]) (rest := [.long (31 * ((31 * ((31 * ((31 * v1) + (Int32.toInt64 r504))) + (Int32.toInt64 r517))) + (Int32.toInt64 r534)))]) X (kX8_frame l X.2.2.2.2.2.2.2 F _ _ _ _ _ _ _ _ hq551) kvX8_358 rfl (qX8) ⟨rfl, rfl, Nat.le_of_ble_eq_true rfl, Nat.le_of_ble_eq_true rfl⟩ rfl rfl (Nat.le_of_ble_eq_true rfl) dX8_digest_551 ?_
  refine x_i2l (pc := 554) X dX8_digest_554 ?_
  refine x_ladd (pc := 555) X dX8_digest_555 ?_
  refine x_lstore_n (pc := 556) (lv' := [(1, .long ((31 * ((31 * ((31 * ((31 * v1) + (Int32.toInt64 r504))) + (Int32.toInt64 r517))) + (Int32.toInt64 r534))) + (Int32.toInt64 r551))), (0, .ref (ad 0))]) X dX8_digest_556 rfl (by decide) rfl ?_
  refine x_ldc2 (pc := 557) X kcX8_297 dX8_digest_557 ?_
  refine x_lload_n (pc := 560) X dX8_digest_560 rfl 0 rfl ?_
  refine x_lmul (pc := 561) X dX8_digest_561 ?_
  refine x_aload_n (pc := 562) X dX8_digest_562 rfl 1 rfl ?_
  refine x_iconst (pc := 563) (v := 1) X dX8_digest_563 (by decide) ?_
  refine x_iconst (pc := 564) (v := 4) X dX8_digest_564 (by decide) ?_
  refine x_bipush (pc := 565) (v := 6) X dX8_digest_565 (by decide) ?_
  refine x_iconst (pc := 567) (v := (-1)) X dX8_digest_567 (by decide) ?_
  obtain ⟨r568, σ568, hq568, h⟩ := xb2_some h
  refine x_calliV (pc := 568) (As := [.int 1, .int 4, .int 6, .int (-1)]) (rest := [.long (31 * ((31 * ((31 * ((31 * ((31 * v1) + (Int32.toInt64 r504))) + (Int32.toInt64 r517))) + (Int32.toInt64 r534))) + (Int32.toInt64 r551)))]) X (kX8_air l X.2.2.2.2.2.2.2 F _ _ _ _ _ _ _ hq568) kvX8_362 rfl (qX8) ⟨rfl, rfl, Nat.le_of_ble_eq_true rfl, Nat.le_of_ble_eq_true rfl⟩ rfl rfl (Nat.le_of_ble_eq_true rfl) dX8_digest_568 ?_
  refine x_i2l (pc := 571) X dX8_digest_571 ?_
  refine x_ladd (pc := 572) X dX8_digest_572 ?_
  refine x_lstore_n (pc := 573) (lv' := [(1, .long ((31 * ((31 * ((31 * ((31 * ((31 * v1) + (Int32.toInt64 r504))) + (Int32.toInt64 r517))) + (Int32.toInt64 r534))) + (Int32.toInt64 r551))) + (Int32.toInt64 r568))), (0, .ref (ad 0))]) X dX8_digest_573 rfl (by decide) rfl ?_
  refine x_ldc2 (pc := 574) X kcX8_297 dX8_digest_574 ?_
  refine x_lload_n (pc := 577) X dX8_digest_577 rfl 0 rfl ?_
  refine x_lmul (pc := 578) X dX8_digest_578 ?_
  refine x_aload_n (pc := 579) X dX8_digest_579 rfl 1 rfl ?_
  refine x_iconst (pc := 580) (v := 1) X dX8_digest_580 (by decide) ?_
  refine x_iconst (pc := 581) (v := 4) X dX8_digest_581 (by decide) ?_
  refine x_bipush (pc := 582) (v := 6) X dX8_digest_582 (by decide) ?_
  refine x_iconst (pc := 584) (v := 0) X dX8_digest_584 (by decide) ?_
  obtain ⟨r585, σ585, hq585, h⟩ := xb2_some h
  refine x_calliV (pc := 585) (As := [.int 1, .int 4, .int 6, .int 0]) (rest := [.long (31 * ((31 * ((31 * ((31 * ((31 * ((31 * v1) + (Int32.toInt64 r504))) + (Int32.toInt64 r517))) + (Int32.toInt64 r534))) + (Int32.toInt64 r551))) + (Int32.toInt64 r568)))]) X (kX8_air l X.2.2.2.2.2.2.2 F _ _ _ _ _ _ _ hq585) kvX8_362 rfl (qX8) ⟨rfl, rfl, Nat.le_of_ble_eq_true rfl, Nat.le_of_ble_eq_true rfl⟩ rfl rfl (Nat.le_of_ble_eq_true rfl) dX8_digest_585 ?_
  refine x_i2l (pc := 588) X dX8_digest_588 ?_
  refine x_ladd (pc := 589) X dX8_digest_589 ?_
  exact x_lret (pc := 590) X hr hl h dX8_digest_590
set_option maxRecDepth 100000 in
set_option maxHeartbeats 4000000 in
theorem wX8_digest_S449 {p : Program} {l : Launch} {e : Env} {s : State} {m : MethodId} {args : Array Value} {below : List Frame} {meth : Method} {c : Code} {D : va_G} {A : Nat → Prop} {ad : Nat → Nat} {cI cX : ClassId} {td : Nat} {r : Int64} {σ' : xSt} {c449 : Int64 → Int32 → xSt → Option (Int64 × xSt)} (X : xX p s m args c cX8_digest 7 RX8 D (tyC cI cX) A (wC ad cI cX)) (hr : meth.sig.returnType = (some .long)) (hl : meth.locks = false) (hT : xT td A s) (F : Nat) (hc449 : ∀ (v1 : Int64) (v3 : Int32) (σ : xSt), c449 v1 v3 σ = some (r, σ') → xG p l e ({ frames := 6, cells := 0, slots := 0, locals := 151 }) s m args below meth c (MQ below (xQl D A (wC ad cI cX) r σ') args s 0 0 A) 7 D A (wC ad cI cX) σ 449 [(0, .ref (ad 0)), (1, .long v1), (3, .int v3)] []) (v1 : Int64) (v3 : Int32) (σ : xSt) (h : mX8_digest_S449 F c449 v1 v3 σ = some (r, σ')) : xG p l e ({ frames := 6, cells := 0, slots := 0, locals := 151 }) s m args below meth c (MQ below (xQl D A (wC ad cI cX) r σ') args s 0 0 A) 7 D A (wC ad cI cX) σ 449 [(0, .ref (ad 0)), (1, .long v1), (3, .int v3)] [] := by
  unfold mX8_digest_S449 at h
  refine x_iload_n (pc := 449) X dX8_digest_449 rfl 2 rfl ?_
  refine x_aload_n (pc := 450) X dX8_digest_450 rfl 0 rfl ?_
  refine gX8_12 (pc := 451) X dX8_digest_451 ?_
  refine gX8_109 (pc := 454) X dX8_digest_454 ?_
  refine gX8_117 (pc := 457) X 0 (by decide) dX8_digest_457 ?_
  refine x_icmp_ge (pc := 460) X 497 dX8_digest_460 (by decide) (fun hc => ?_) (fun hc => ?_)
  · have h := xit hc h
    refine x_sub [0, 1] rfl ?_
    exact wX8_digest_L497 X hr hl hT F _ _ h
  · have h := xif hc h
    refine x_ldc2 (pc := 463) X kcX8_297 dX8_digest_463 ?_
    refine x_lload_n (pc := 466) X dX8_digest_466 rfl 1 rfl ?_
    refine x_lmul (pc := 467) X dX8_digest_467 ?_
    refine x_aload_n (pc := 468) X dX8_digest_468 rfl 0 rfl ?_
    refine x_iload_n (pc := 469) X dX8_digest_469 rfl 2 rfl ?_
    obtain ⟨r470, σ470, hq470, h⟩ := xb2_some h
    refine x_calliV (pc := 470) (As := [.int v3]) (rest := [.long (31 * v1)]) X (kX8_who l X.2.2.2.2.2.2.2 F _ _ _ _ hq470) kvX8_349 rfl (qX8) ⟨rfl, rfl, Nat.le_of_ble_eq_true rfl, Nat.le_of_ble_eq_true rfl⟩ rfl rfl (Nat.le_of_ble_eq_true rfl) dX8_digest_470 ?_
    refine x_i2l (pc := 473) X dX8_digest_473 ?_
    refine x_ladd (pc := 474) X dX8_digest_474 ?_
    refine x_lstore_n (pc := 475) (lv' := [(1, .long ((31 * v1) + (Int32.toInt64 r470))), (0, .ref (ad 0)), (3, .int v3)]) X dX8_digest_475 rfl (by decide) rfl ?_
    refine x_ldc2 (pc := 476) X kcX8_297 dX8_digest_476 ?_
    refine x_lload_n (pc := 479) X dX8_digest_479 rfl 0 rfl ?_
    refine x_lmul (pc := 480) X dX8_digest_480 ?_
    refine x_aload_n (pc := 481) X dX8_digest_481 rfl 1 rfl ?_
    refine x_iload_n (pc := 482) X dX8_digest_482 rfl 2 rfl ?_
    refine x_bipush (pc := 483) (v := 9) X dX8_digest_483 (by decide) ?_
    obtain ⟨r485, σ485, hq485, h⟩ := xb2_some h
    refine x_calliV (pc := 485) (As := [.int v3, .int 9]) (rest := [.long (31 * ((31 * v1) + (Int32.toInt64 r470)))]) X (kX8_stand l X.2.2.2.2.2.2.2 F _ _ _ _ _ hq485) kvX8_352 rfl (qX8) ⟨rfl, rfl, Nat.le_of_ble_eq_true rfl, Nat.le_of_ble_eq_true rfl⟩ rfl rfl (Nat.le_of_ble_eq_true rfl) dX8_digest_485 ?_
    refine x_i2l (pc := 488) X dX8_digest_488 ?_
    refine x_ladd (pc := 489) X dX8_digest_489 ?_
    refine x_lstore_n (pc := 490) (lv' := [(1, .long ((31 * ((31 * v1) + (Int32.toInt64 r470))) + (Int32.toInt64 r485))), (0, .ref (ad 0)), (3, .int v3)]) X dX8_digest_490 rfl (by decide) rfl ?_
    refine x_iinc (pc := 491) (v := (v3 + 1)) (lv' := [(3, .int (v3 + 1)), (1, .long ((31 * ((31 * v1) + (Int32.toInt64 r470))) + (Int32.toInt64 r485))), (0, .ref (ad 0))]) X dX8_digest_491 2 rfl rfl (by decide) rfl ?_
    refine x_goto (pc := 494) X 449 dX8_digest_494 (by decide) ?_
    refine x_sub [2, 1, 0] rfl ?_
    exact hc449 _ _ _ h
theorem wX8_digest_L449 {p : Program} {l : Launch} {e : Env} {s : State} {m : MethodId} {args : Array Value} {below : List Frame} {meth : Method} {c : Code} {D : va_G} {A : Nat → Prop} {ad : Nat → Nat} {cI cX : ClassId} {td : Nat} {r : Int64} {σ' : xSt} (X : xX p s m args c cX8_digest 7 RX8 D (tyC cI cX) A (wC ad cI cX)) (hr : meth.sig.returnType = (some .long)) (hl : meth.locks = false) (hT : xT td A s) (F : Nat) : ∀ (n : Nat) (v1 : Int64) (v3 : Int32) (σ : xSt), mX8_digest_L449 F n v1 v3 σ = some (r, σ') → xG p l e ({ frames := 6, cells := 0, slots := 0, locals := 151 }) s m args below meth c (MQ below (xQl D A (wC ad cI cX) r σ') args s 0 0 A) 7 D A (wC ad cI cX) σ 449 [(0, .ref (ad 0)), (1, .long v1), (3, .int v3)] [] := by
  intro n
  induction n with
  | zero => intro v1 v3 σ h; cases h
  | succ n ih => intro v1 v3 σ h; exact wX8_digest_S449 X hr hl hT F ih v1 v3 σ h
set_option maxRecDepth 100000 in
set_option maxHeartbeats 4000000 in
theorem wX8_digest_L447 {p : Program} {l : Launch} {e : Env} {s : State} {m : MethodId} {args : Array Value} {below : List Frame} {meth : Method} {c : Code} {D : va_G} {A : Nat → Prop} {ad : Nat → Nat} {cI cX : ClassId} {td : Nat} {r : Int64} {σ' : xSt} (X : xX p s m args c cX8_digest 7 RX8 D (tyC cI cX) A (wC ad cI cX)) (hr : meth.sig.returnType = (some .long)) (hl : meth.locks = false) (hT : xT td A s) (F : Nat) (v1 : Int64) (σ : xSt) (h : mX8_digest_L447 F v1 σ = some (r, σ')) : xG p l e ({ frames := 6, cells := 0, slots := 0, locals := 151 }) s m args below meth c (MQ below (xQl D A (wC ad cI cX) r σ') args s 0 0 A) 7 D A (wC ad cI cX) σ 447 [(0, .ref (ad 0)), (1, .long v1)] [] := by
  unfold mX8_digest_L447 at h
  refine x_iconst (pc := 447) (v := 0) X dX8_digest_447 (by decide) ?_
  refine x_istore_n (pc := 448) (lv' := [(3, .int 0), (0, .ref (ad 0)), (1, .long v1)]) X dX8_digest_448 rfl (by decide) rfl ?_
  refine x_sub [1, 2, 0] rfl ?_
  exact wX8_digest_L449 X hr hl hT F F _ _ _ h
set_option maxRecDepth 100000 in
set_option maxHeartbeats 4000000 in
theorem wX8_digest_S385 {p : Program} {l : Launch} {e : Env} {s : State} {m : MethodId} {args : Array Value} {below : List Frame} {meth : Method} {c : Code} {D : va_G} {A : Nat → Prop} {ad : Nat → Nat} {cI cX : ClassId} {td : Nat} {r : Int64} {σ' : xSt} {c385 : Int64 → Int32 → Int32 → xSt → Option (Int64 × xSt)} (X : xX p s m args c cX8_digest 7 RX8 D (tyC cI cX) A (wC ad cI cX)) (hr : meth.sig.returnType = (some .long)) (hl : meth.locks = false) (hT : xT td A s) (F : Nat) (hc385 : ∀ (v1 : Int64) (v4 : Int32) (v5 : Int32) (σ : xSt), c385 v1 v4 v5 σ = some (r, σ') → xG p l e ({ frames := 6, cells := 0, slots := 0, locals := 151 }) s m args below meth c (MQ below (xQl D A (wC ad cI cX) r σ') args s 0 0 A) 7 D A (wC ad cI cX) σ 385 [(0, .ref (ad 0)), (1, .long v1), (3, .ref td), (4, .int v4), (5, .int v5)] []) (v1 : Int64) (v4 : Int32) (v5 : Int32) (σ : xSt) (h : mX8_digest_S385 F c385 v1 v4 v5 σ = some (r, σ')) : xG p l e ({ frames := 6, cells := 0, slots := 0, locals := 151 }) s m args below meth c (MQ below (xQl D A (wC ad cI cX) r σ') args s 0 0 A) 7 D A (wC ad cI cX) σ 385 [(0, .ref (ad 0)), (1, .long v1), (3, .ref td), (4, .int v4), (5, .int v5)] [] := by
  unfold mX8_digest_S385 at h
  refine x_iload (pc := 385) X dX8_digest_385 4 rfl ?_
  refine x_iload (pc := 387) X dX8_digest_387 3 rfl ?_
  refine x_icmp_ge (pc := 389) X 447 dX8_digest_389 (by decide) (fun hc => ?_) (fun hc => ?_)
  · have h := xit hc h
    refine x_sub [0, 1] rfl ?_
    exact wX8_digest_L447 X hr hl hT F _ _ h
  · have h := xif hc h
    refine x_aload_n (pc := 392) X dX8_digest_392 rfl 2 rfl ?_
    refine x_iload (pc := 393) X dX8_digest_393 4 rfl ?_
    obtain ⟨hb395, h⟩ := xck_some h
    refine x_tld (pc := 395) X hT hb395 dX8_digest_395 ?_
    refine x_istore (pc := 396) (lv' := [(6, .int (xDH (Int32.toNatClampNeg v5))), (0, .ref (ad 0)), (1, .long v1), (3, .ref td), (4, .int v4), (5, .int v5)]) X dX8_digest_396 (by decide) rfl ?_
    refine x_ldc2 (pc := 398) X kcX8_297 dX8_digest_398 ?_
    refine x_lload_n (pc := 401) X dX8_digest_401 rfl 2 rfl ?_
    refine x_lmul (pc := 402) X dX8_digest_402 ?_
    refine x_aload_n (pc := 403) X dX8_digest_403 rfl 1 rfl ?_
    refine x_iload (pc := 404) X dX8_digest_404 0 rfl ?_
    refine x_iconst (pc := 406) (v := (-1)) X dX8_digest_406 (by decide) ?_
    obtain ⟨r407, σ407, hq407, h⟩ := xb2_some h
    refine x_calliV (pc := 407) (As := [.int (xDH (Int32.toNatClampNeg v5)), .int (-1)]) (rest := [.long (31 * v1)]) X (kX8_tells l X.2.2.2.2.2.2.2 F _ _ _ _ _ hq407) kvX8_340 rfl (qX8) ⟨rfl, rfl, Nat.le_of_ble_eq_true rfl, Nat.le_of_ble_eq_true rfl⟩ rfl rfl (Nat.le_of_ble_eq_true rfl) dX8_digest_407 ?_
    refine x_i2l (pc := 410) X dX8_digest_410 ?_
    refine x_ladd (pc := 411) X dX8_digest_411 ?_
    refine x_lstore_n (pc := 412) (lv' := [(1, .long ((31 * v1) + (Int32.toInt64 r407))), (6, .int (xDH (Int32.toNatClampNeg v5))), (0, .ref (ad 0)), (3, .ref td), (4, .int v4), (5, .int v5)]) X dX8_digest_412 rfl (by decide) rfl ?_
    refine x_ldc2 (pc := 413) X kcX8_297 dX8_digest_413 ?_
    refine x_lload_n (pc := 416) X dX8_digest_416 rfl 0 rfl ?_
    refine x_lmul (pc := 417) X dX8_digest_417 ?_
    refine x_aload_n (pc := 418) X dX8_digest_418 rfl 2 rfl ?_
    refine x_iload (pc := 419) X dX8_digest_419 1 rfl ?_
    obtain ⟨r421, σ421, hq421, h⟩ := xb2_some h
    refine x_calliV (pc := 421) (As := [.int (xDH (Int32.toNatClampNeg v5))]) (rest := [.long (31 * ((31 * v1) + (Int32.toInt64 r407)))]) X (kX8_nowhere l X.2.2.2.2.2.2.2 F _ _ _ _ hq421) kvX8_343 rfl (qX8) ⟨rfl, rfl, Nat.le_of_ble_eq_true rfl, Nat.le_of_ble_eq_true rfl⟩ rfl rfl (Nat.le_of_ble_eq_true rfl) dX8_digest_421 ?_
    refine x_i2l (pc := 424) X dX8_digest_424 ?_
    refine x_ladd (pc := 425) X dX8_digest_425 ?_
    refine x_lstore_n (pc := 426) (lv' := [(1, .long ((31 * ((31 * v1) + (Int32.toInt64 r407))) + (Int32.toInt64 r421))), (6, .int (xDH (Int32.toNatClampNeg v5))), (0, .ref (ad 0)), (3, .ref td), (4, .int v4), (5, .int v5)]) X dX8_digest_426 rfl (by decide) rfl ?_
    refine x_ldc2 (pc := 427) X kcX8_297 dX8_digest_427 ?_
    refine x_lload_n (pc := 430) X dX8_digest_430 rfl 0 rfl ?_
    refine x_lmul (pc := 431) X dX8_digest_431 ?_
    refine x_aload_n (pc := 432) X dX8_digest_432 rfl 2 rfl ?_
    refine x_iload (pc := 433) X dX8_digest_433 1 rfl ?_
    obtain ⟨r435, σ435, hq435, h⟩ := xb2_some h
    refine x_calliV (pc := 435) (As := [.int (xDH (Int32.toNatClampNeg v5))]) (rest := [.long (31 * ((31 * ((31 * v1) + (Int32.toInt64 r407))) + (Int32.toInt64 r421)))]) X (kX8_known l X.2.2.2.2.2.2.2 F _ _ _ _ hq435) kvX8_346 rfl (qX8) ⟨rfl, rfl, Nat.le_of_ble_eq_true rfl, Nat.le_of_ble_eq_true rfl⟩ rfl rfl (Nat.le_of_ble_eq_true rfl) dX8_digest_435 ?_
    refine x_i2l (pc := 438) X dX8_digest_438 ?_
    refine x_ladd (pc := 439) X dX8_digest_439 ?_
    refine x_lstore_n (pc := 440) (lv' := [(1, .long ((31 * ((31 * ((31 * v1) + (Int32.toInt64 r407))) + (Int32.toInt64 r421))) + (Int32.toInt64 r435))), (6, .int (xDH (Int32.toNatClampNeg v5))), (0, .ref (ad 0)), (3, .ref td), (4, .int v4), (5, .int v5)]) X dX8_digest_440 rfl (by decide) rfl ?_
    refine x_iinc (pc := 441) (v := (v5 + 1)) (lv' := [(5, .int (v5 + 1)), (1, .long ((31 * ((31 * ((31 * v1) + (Int32.toInt64 r407))) + (Int32.toInt64 r421))) + (Int32.toInt64 r435))), (6, .int (xDH (Int32.toNatClampNeg v5))), (0, .ref (ad 0)), (3, .ref td), (4, .int v4)]) X dX8_digest_441 5 rfl rfl (by decide) rfl ?_
    refine x_goto (pc := 444) X 385 dX8_digest_444 (by decide) ?_
    refine x_sub [3, 1, 4, 5, 0] rfl ?_
    exact hc385 _ _ _ _ h
theorem wX8_digest_L385 {p : Program} {l : Launch} {e : Env} {s : State} {m : MethodId} {args : Array Value} {below : List Frame} {meth : Method} {c : Code} {D : va_G} {A : Nat → Prop} {ad : Nat → Nat} {cI cX : ClassId} {td : Nat} {r : Int64} {σ' : xSt} (X : xX p s m args c cX8_digest 7 RX8 D (tyC cI cX) A (wC ad cI cX)) (hr : meth.sig.returnType = (some .long)) (hl : meth.locks = false) (hT : xT td A s) (F : Nat) : ∀ (n : Nat) (v1 : Int64) (v4 : Int32) (v5 : Int32) (σ : xSt), mX8_digest_L385 F n v1 v4 v5 σ = some (r, σ') → xG p l e ({ frames := 6, cells := 0, slots := 0, locals := 151 }) s m args below meth c (MQ below (xQl D A (wC ad cI cX) r σ') args s 0 0 A) 7 D A (wC ad cI cX) σ 385 [(0, .ref (ad 0)), (1, .long v1), (3, .ref td), (4, .int v4), (5, .int v5)] [] := by
  intro n
  induction n with
  | zero => intro v1 v4 v5 σ h; cases h
  | succ n ih => intro v1 v4 v5 σ h; exact wX8_digest_S385 X hr hl hT F ih v1 v4 v5 σ h
set_option maxRecDepth 100000 in
set_option maxHeartbeats 4000000 in
theorem wX8_digest_L374 {p : Program} {l : Launch} {e : Env} {s : State} {m : MethodId} {args : Array Value} {below : List Frame} {meth : Method} {c : Code} {D : va_G} {A : Nat → Prop} {ad : Nat → Nat} {cI cX : ClassId} {td : Nat} {r : Int64} {σ' : xSt} (X : xX p s m args c cX8_digest 7 RX8 D (tyC cI cX) A (wC ad cI cX)) (hr : meth.sig.returnType = (some .long)) (hl : meth.locks = false) (hT : xT td A s) (F : Nat) (v1 : Int64) (σ : xSt) (h : mX8_digest_L374 F v1 σ = some (r, σ')) : xG p l e ({ frames := 6, cells := 0, slots := 0, locals := 151 }) s m args below meth c (MQ below (xQl D A (wC ad cI cX) r σ') args s 0 0 A) 7 D A (wC ad cI cX) σ 374 [(0, .ref (ad 0)), (1, .long v1)] [] := by
  unfold mX8_digest_L374 at h
  refine x_gets (pc := 374) X hT kgX8_337 dX8_digest_374 ?_
  refine x_astore_n (pc := 377) (lv' := [(3, .ref td), (0, .ref (ad 0)), (1, .long v1)]) X dX8_digest_377 rfl (by decide) rfl ?_
  refine x_aload_n (pc := 378) X dX8_digest_378 rfl 0 rfl ?_
  refine x_tlen (pc := 379) X hT dX8_digest_379 ?_
  refine x_istore (pc := 380) (lv' := [(4, .int 5), (3, .ref td), (0, .ref (ad 0)), (1, .long v1)]) X dX8_digest_380 (by decide) rfl ?_
  refine x_iconst (pc := 382) (v := 0) X dX8_digest_382 (by decide) ?_
  refine x_istore (pc := 383) (lv' := [(5, .int 0), (4, .int 5), (3, .ref td), (0, .ref (ad 0)), (1, .long v1)]) X dX8_digest_383 (by decide) rfl ?_
  refine x_sub [3, 4, 2, 1, 0] rfl ?_
  exact wX8_digest_L385 X hr hl hT F F _ _ _ _ h
set_option maxRecDepth 100000 in
set_option maxHeartbeats 4000000 in
theorem wX8_digest_S266 {p : Program} {l : Launch} {e : Env} {s : State} {m : MethodId} {args : Array Value} {below : List Frame} {meth : Method} {c : Code} {D : va_G} {A : Nat → Prop} {ad : Nat → Nat} {cI cX : ClassId} {td : Nat} {r : Int64} {σ' : xSt} {c266 : Int64 → Int32 → xSt → Option (Int64 × xSt)} (X : xX p s m args c cX8_digest 7 RX8 D (tyC cI cX) A (wC ad cI cX)) (hr : meth.sig.returnType = (some .long)) (hl : meth.locks = false) (hT : xT td A s) (F : Nat) (hc266 : ∀ (v1 : Int64) (v3 : Int32) (σ : xSt), c266 v1 v3 σ = some (r, σ') → xG p l e ({ frames := 6, cells := 0, slots := 0, locals := 151 }) s m args below meth c (MQ below (xQl D A (wC ad cI cX) r σ') args s 0 0 A) 7 D A (wC ad cI cX) σ 266 [(0, .ref (ad 0)), (1, .long v1), (3, .int v3)] []) (v1 : Int64) (v3 : Int32) (σ : xSt) (h : mX8_digest_S266 F c266 v1 v3 σ = some (r, σ')) : xG p l e ({ frames := 6, cells := 0, slots := 0, locals := 151 }) s m args below meth c (MQ below (xQl D A (wC ad cI cX) r σ') args s 0 0 A) 7 D A (wC ad cI cX) σ 266 [(0, .ref (ad 0)), (1, .long v1), (3, .int v3)] [] := by
  unfold mX8_digest_S266 at h
  refine x_iload_n (pc := 266) X dX8_digest_266 rfl 2 rfl ?_
  refine x_aload_n (pc := 267) X dX8_digest_267 rfl 0 rfl ?_
  refine gX8_12 (pc := 268) X dX8_digest_268 ?_
  refine gX8_97 (pc := 271) X dX8_digest_271 ?_
  refine gX8_211 (pc := 274) X 1 (by decide) dX8_digest_274 ?_
  refine x_icmp_ge (pc := 277) X 374 dX8_digest_277 (by decide) (fun hc => ?_) (fun hc => ?_)
  · have h := xit hc h
    refine x_sub [0, 1] rfl ?_
    exact wX8_digest_L374 X hr hl hT F _ _ h
  · have h := xif hc h
    refine x_ldc2 (pc := 280) X kcX8_297 dX8_digest_280 ?_
    refine x_lload_n (pc := 283) X dX8_digest_283 rfl 1 rfl ?_
    refine x_lmul (pc := 284) X dX8_digest_284 ?_
    refine x_aload_n (pc := 285) X dX8_digest_285 rfl 0 rfl ?_
    refine x_iload_n (pc := 286) X dX8_digest_286 rfl 2 rfl ?_
    refine x_iconst (pc := 287) (v := 0) X dX8_digest_287 (by decide) ?_
    obtain ⟨r288, σ288, hq288, h⟩ := xb2_some h
    refine x_calliV (pc := 288) (As := [.int v3, .int 0]) (rest := [.long (31 * v1)]) X (kX8_person l X.2.2.2.2.2.2.2 F _ _ _ _ _ hq288) kvX8_327 rfl (qX8) ⟨rfl, rfl, Nat.le_of_ble_eq_true rfl, Nat.le_of_ble_eq_true rfl⟩ rfl rfl (Nat.le_of_ble_eq_true rfl) dX8_digest_288 ?_
    refine x_i2l (pc := 291) X dX8_digest_291 ?_
    refine x_ladd (pc := 292) X dX8_digest_292 ?_
    refine x_lstore_n (pc := 293) (lv' := [(1, .long ((31 * v1) + (Int32.toInt64 r288))), (0, .ref (ad 0)), (3, .int v3)]) X dX8_digest_293 rfl (by decide) rfl ?_
    refine x_ldc2 (pc := 294) X kcX8_297 dX8_digest_294 ?_
    refine x_lload_n (pc := 297) X dX8_digest_297 rfl 0 rfl ?_
    refine x_lmul (pc := 298) X dX8_digest_298 ?_
    refine x_aload_n (pc := 299) X dX8_digest_299 rfl 1 rfl ?_
    refine x_iload_n (pc := 300) X dX8_digest_300 rfl 2 rfl ?_
    refine x_iconst (pc := 301) (v := 1) X dX8_digest_301 (by decide) ?_
    obtain ⟨r302, σ302, hq302, h⟩ := xb2_some h
    refine x_calliV (pc := 302) (As := [.int v3, .int 1]) (rest := [.long (31 * ((31 * v1) + (Int32.toInt64 r288)))]) X (kX8_person l X.2.2.2.2.2.2.2 F _ _ _ _ _ hq302) kvX8_327 rfl (qX8) ⟨rfl, rfl, Nat.le_of_ble_eq_true rfl, Nat.le_of_ble_eq_true rfl⟩ rfl rfl (Nat.le_of_ble_eq_true rfl) dX8_digest_302 ?_
    refine x_i2l (pc := 305) X dX8_digest_305 ?_
    refine x_ladd (pc := 306) X dX8_digest_306 ?_
    refine x_lstore_n (pc := 307) (lv' := [(1, .long ((31 * ((31 * v1) + (Int32.toInt64 r288))) + (Int32.toInt64 r302))), (0, .ref (ad 0)), (3, .int v3)]) X dX8_digest_307 rfl (by decide) rfl ?_
    refine x_ldc2 (pc := 308) X kcX8_297 dX8_digest_308 ?_
    refine x_lload_n (pc := 311) X dX8_digest_311 rfl 0 rfl ?_
    refine x_lmul (pc := 312) X dX8_digest_312 ?_
    refine x_aload_n (pc := 313) X dX8_digest_313 rfl 1 rfl ?_
    refine x_iload_n (pc := 314) X dX8_digest_314 rfl 2 rfl ?_
    refine x_iconst (pc := 315) (v := 2) X dX8_digest_315 (by decide) ?_
    obtain ⟨r316, σ316, hq316, h⟩ := xb2_some h
    refine x_calliV (pc := 316) (As := [.int v3, .int 2]) (rest := [.long (31 * ((31 * ((31 * v1) + (Int32.toInt64 r288))) + (Int32.toInt64 r302)))]) X (kX8_person l X.2.2.2.2.2.2.2 F _ _ _ _ _ hq316) kvX8_327 rfl (qX8) ⟨rfl, rfl, Nat.le_of_ble_eq_true rfl, Nat.le_of_ble_eq_true rfl⟩ rfl rfl (Nat.le_of_ble_eq_true rfl) dX8_digest_316 ?_
    refine x_i2l (pc := 319) X dX8_digest_319 ?_
    refine x_ladd (pc := 320) X dX8_digest_320 ?_
    refine x_lstore_n (pc := 321) (lv' := [(1, .long ((31 * ((31 * ((31 * v1) + (Int32.toInt64 r288))) + (Int32.toInt64 r302))) + (Int32.toInt64 r316))), (0, .ref (ad 0)), (3, .int v3)]) X dX8_digest_321 rfl (by decide) rfl ?_
    refine x_ldc2 (pc := 322) X kcX8_297 dX8_digest_322 ?_
    refine x_lload_n (pc := 325) X dX8_digest_325 rfl 0 rfl ?_
    refine x_lmul (pc := 326) X dX8_digest_326 ?_
    refine x_aload_n (pc := 327) X dX8_digest_327 rfl 1 rfl ?_
    refine x_iload_n (pc := 328) X dX8_digest_328 rfl 2 rfl ?_
    refine x_iconst (pc := 329) (v := 3) X dX8_digest_329 (by decide) ?_
    refine x_iconst (pc := 330) (v := 5) X dX8_digest_330 (by decide) ?_
    refine x_iconst (pc := 331) (v := (-1)) X dX8_digest_331 (by decide) ?_
    obtain ⟨r332, σ332, hq332, h⟩ := xb2_some h
    refine x_calliV (pc := 332) (As := [.int v3, .int 3, .int 5, .int (-1)]) (rest := [.long (31 * ((31 * ((31 * ((31 * v1) + (Int32.toInt64 r288))) + (Int32.toInt64 r302))) + (Int32.toInt64 r316)))]) X (kX8_hide l X.2.2.2.2.2.2.2 F _ _ _ _ _ _ _ hq332) kvX8_330 rfl (qX8) ⟨rfl, rfl, Nat.le_of_ble_eq_true rfl, Nat.le_of_ble_eq_true rfl⟩ rfl rfl (Nat.le_of_ble_eq_true rfl) dX8_digest_332 ?_
    refine x_i2l (pc := 335) X dX8_digest_335 ?_
    refine x_ladd (pc := 336) X dX8_digest_336 ?_
    refine x_lstore_n (pc := 337) (lv' := [(1, .long ((31 * ((31 * ((31 * ((31 * v1) + (Int32.toInt64 r288))) + (Int32.toInt64 r302))) + (Int32.toInt64 r316))) + (Int32.toInt64 r332))), (0, .ref (ad 0)), (3, .int v3)]) X dX8_digest_337 rfl (by decide) rfl ?_
    refine x_ldc2 (pc := 338) X kcX8_297 dX8_digest_338 ?_
    refine x_lload_n (pc := 341) X dX8_digest_341 rfl 0 rfl ?_
    refine x_lmul (pc := 342) X dX8_digest_342 ?_
    refine x_aload_n (pc := 343) X dX8_digest_343 rfl 1 rfl ?_
    refine x_iload_n (pc := 344) X dX8_digest_344 rfl 2 rfl ?_
    refine x_iconst (pc := 345) (v := 3) X dX8_digest_345 (by decide) ?_
    refine x_iconst (pc := 346) (v := 5) X dX8_digest_346 (by decide) ?_
    refine x_iconst (pc := 347) (v := 0) X dX8_digest_347 (by decide) ?_
    obtain ⟨r348, σ348, hq348, h⟩ := xb2_some h
    refine x_calliV (pc := 348) (As := [.int v3, .int 3, .int 5, .int 0]) (rest := [.long (31 * ((31 * ((31 * ((31 * ((31 * v1) + (Int32.toInt64 r288))) + (Int32.toInt64 r302))) + (Int32.toInt64 r316))) + (Int32.toInt64 r332)))]) X (kX8_hide l X.2.2.2.2.2.2.2 F _ _ _ _ _ _ _ hq348) kvX8_330 rfl (qX8) ⟨rfl, rfl, Nat.le_of_ble_eq_true rfl, Nat.le_of_ble_eq_true rfl⟩ rfl rfl (Nat.le_of_ble_eq_true rfl) dX8_digest_348 ?_
    refine x_i2l (pc := 351) X dX8_digest_351 ?_
    refine x_ladd (pc := 352) X dX8_digest_352 ?_
    refine x_lstore_n (pc := 353) (lv' := [(1, .long ((31 * ((31 * ((31 * ((31 * ((31 * v1) + (Int32.toInt64 r288))) + (Int32.toInt64 r302))) + (Int32.toInt64 r316))) + (Int32.toInt64 r332))) + (Int32.toInt64 r348))), (0, .ref (ad 0)), (3, .int v3)]) X dX8_digest_353 rfl (by decide) rfl ?_
    refine x_ldc2 (pc := 354) X kcX8_297 dX8_digest_354 ?_
    refine x_lload_n (pc := 357) X dX8_digest_357 rfl 0 rfl ?_
    refine x_lmul (pc := 358) X dX8_digest_358 ?_
    refine x_aload_n (pc := 359) X dX8_digest_359 rfl 1 rfl ?_
    refine x_iload_n (pc := 360) X dX8_digest_360 rfl 2 rfl ?_
    refine x_iconst (pc := 361) (v := 0) X dX8_digest_361 (by decide) ?_
    obtain ⟨r362, σ362, hq362, h⟩ := xb2_some h
    refine x_calliV (pc := 362) (As := [.int v3, .int 0]) (rest := [.long (31 * ((31 * ((31 * ((31 * ((31 * ((31 * v1) + (Int32.toInt64 r288))) + (Int32.toInt64 r302))) + (Int32.toInt64 r316))) + (Int32.toInt64 r332))) + (Int32.toInt64 r348)))]) X (kX8_when l X.2.2.2.2.2.2.2 F _ _ _ _ _ hq362) kvX8_334 rfl (qX8) ⟨rfl, rfl, Nat.le_of_ble_eq_true rfl, Nat.le_of_ble_eq_true rfl⟩ rfl rfl (Nat.le_of_ble_eq_true rfl) dX8_digest_362 ?_
    refine x_i2l (pc := 365) X dX8_digest_365 ?_
    refine x_ladd (pc := 366) X dX8_digest_366 ?_
    refine x_lstore_n (pc := 367) (lv' := [(1, .long ((31 * ((31 * ((31 * ((31 * ((31 * ((31 * v1) + (Int32.toInt64 r288))) + (Int32.toInt64 r302))) + (Int32.toInt64 r316))) + (Int32.toInt64 r332))) + (Int32.toInt64 r348))) + (Int32.toInt64 r362))), (0, .ref (ad 0)), (3, .int v3)]) X dX8_digest_367 rfl (by decide) rfl ?_
    refine x_iinc (pc := 368) (v := (v3 + 1)) (lv' := [(3, .int (v3 + 1)), (1, .long ((31 * ((31 * ((31 * ((31 * ((31 * ((31 * v1) + (Int32.toInt64 r288))) + (Int32.toInt64 r302))) + (Int32.toInt64 r316))) + (Int32.toInt64 r332))) + (Int32.toInt64 r348))) + (Int32.toInt64 r362))), (0, .ref (ad 0))]) X dX8_digest_368 2 rfl rfl (by decide) rfl ?_
    refine x_goto (pc := 371) X 266 dX8_digest_371 (by decide) ?_
    refine x_sub [2, 1, 0] rfl ?_
    exact hc266 _ _ _ h
theorem wX8_digest_L266 {p : Program} {l : Launch} {e : Env} {s : State} {m : MethodId} {args : Array Value} {below : List Frame} {meth : Method} {c : Code} {D : va_G} {A : Nat → Prop} {ad : Nat → Nat} {cI cX : ClassId} {td : Nat} {r : Int64} {σ' : xSt} (X : xX p s m args c cX8_digest 7 RX8 D (tyC cI cX) A (wC ad cI cX)) (hr : meth.sig.returnType = (some .long)) (hl : meth.locks = false) (hT : xT td A s) (F : Nat) : ∀ (n : Nat) (v1 : Int64) (v3 : Int32) (σ : xSt), mX8_digest_L266 F n v1 v3 σ = some (r, σ') → xG p l e ({ frames := 6, cells := 0, slots := 0, locals := 151 }) s m args below meth c (MQ below (xQl D A (wC ad cI cX) r σ') args s 0 0 A) 7 D A (wC ad cI cX) σ 266 [(0, .ref (ad 0)), (1, .long v1), (3, .int v3)] [] := by
  intro n
  induction n with
  | zero => intro v1 v3 σ h; cases h
  | succ n ih => intro v1 v3 σ h; exact wX8_digest_S266 X hr hl hT F ih v1 v3 σ h
set_option maxRecDepth 100000 in
set_option maxHeartbeats 4000000 in
theorem wX8_digest_L264 {p : Program} {l : Launch} {e : Env} {s : State} {m : MethodId} {args : Array Value} {below : List Frame} {meth : Method} {c : Code} {D : va_G} {A : Nat → Prop} {ad : Nat → Nat} {cI cX : ClassId} {td : Nat} {r : Int64} {σ' : xSt} (X : xX p s m args c cX8_digest 7 RX8 D (tyC cI cX) A (wC ad cI cX)) (hr : meth.sig.returnType = (some .long)) (hl : meth.locks = false) (hT : xT td A s) (F : Nat) (v1 : Int64) (σ : xSt) (h : mX8_digest_L264 F v1 σ = some (r, σ')) : xG p l e ({ frames := 6, cells := 0, slots := 0, locals := 151 }) s m args below meth c (MQ below (xQl D A (wC ad cI cX) r σ') args s 0 0 A) 7 D A (wC ad cI cX) σ 264 [(0, .ref (ad 0)), (1, .long v1)] [] := by
  unfold mX8_digest_L264 at h
  refine x_iconst (pc := 264) (v := 0) X dX8_digest_264 (by decide) ?_
  refine x_istore_n (pc := 265) (lv' := [(3, .int 0), (0, .ref (ad 0)), (1, .long v1)]) X dX8_digest_265 rfl (by decide) rfl ?_
  refine x_sub [1, 2, 0] rfl ?_
  exact wX8_digest_L266 X hr hl hT F F _ _ _ h
set_option maxRecDepth 100000 in
set_option maxHeartbeats 4000000 in
theorem wX8_digest_S59 {p : Program} {l : Launch} {e : Env} {s : State} {m : MethodId} {args : Array Value} {below : List Frame} {meth : Method} {c : Code} {D : va_G} {A : Nat → Prop} {ad : Nat → Nat} {cI cX : ClassId} {td : Nat} {r : Int64} {σ' : xSt} {c59 : Int64 → Int32 → xSt → Option (Int64 × xSt)} (X : xX p s m args c cX8_digest 7 RX8 D (tyC cI cX) A (wC ad cI cX)) (hr : meth.sig.returnType = (some .long)) (hl : meth.locks = false) (hT : xT td A s) (F : Nat) (hc59 : ∀ (v1 : Int64) (v3 : Int32) (σ : xSt), c59 v1 v3 σ = some (r, σ') → xG p l e ({ frames := 6, cells := 0, slots := 0, locals := 151 }) s m args below meth c (MQ below (xQl D A (wC ad cI cX) r σ') args s 0 0 A) 7 D A (wC ad cI cX) σ 59 [(0, .ref (ad 0)), (1, .long v1), (3, .int v3)] []) (v1 : Int64) (v3 : Int32) (σ : xSt) (h : mX8_digest_S59 F c59 v1 v3 σ = some (r, σ')) : xG p l e ({ frames := 6, cells := 0, slots := 0, locals := 151 }) s m args below meth c (MQ below (xQl D A (wC ad cI cX) r σ') args s 0 0 A) 7 D A (wC ad cI cX) σ 59 [(0, .ref (ad 0)), (1, .long v1), (3, .int v3)] [] := by
  unfold mX8_digest_S59 at h
  refine x_iload_n (pc := 59) X dX8_digest_59 rfl 2 rfl ?_
  refine x_aload_n (pc := 60) X dX8_digest_60 rfl 0 rfl ?_
  refine gX8_12 (pc := 61) X dX8_digest_61 ?_
  refine gX8_89 (pc := 64) X dX8_digest_64 ?_
  refine gX8_211 (pc := 67) X 0 (by decide) dX8_digest_67 ?_
  refine x_icmp_ge (pc := 70) X 264 dX8_digest_70 (by decide) (fun hc => ?_) (fun hc => ?_)
  · have h := xit hc h
    refine x_sub [0, 1] rfl ?_
    exact wX8_digest_L264 X hr hl hT F _ _ h
  · have h := xif hc h
    refine x_ldc2 (pc := 73) X kcX8_297 dX8_digest_73 ?_
    refine x_lload_n (pc := 76) X dX8_digest_76 rfl 1 rfl ?_
    refine x_lmul (pc := 77) X dX8_digest_77 ?_
    refine x_aload_n (pc := 78) X dX8_digest_78 rfl 0 rfl ?_
    refine x_iload_n (pc := 79) X dX8_digest_79 rfl 2 rfl ?_
    refine x_iconst (pc := 80) (v := 0) X dX8_digest_80 (by decide) ?_
    obtain ⟨r81, σ81, hq81, h⟩ := xb2_some h
    refine x_calliV (pc := 81) (As := [.int v3, .int 0]) (rest := [.long (31 * v1)]) X (kX8_thing l X.2.2.2.2.2.2.2 F _ _ _ _ _ hq81) kvX8_305 rfl (qX8) ⟨rfl, rfl, Nat.le_of_ble_eq_true rfl, Nat.le_of_ble_eq_true rfl⟩ rfl rfl (Nat.le_of_ble_eq_true rfl) dX8_digest_81 ?_
    refine x_i2l (pc := 84) X dX8_digest_84 ?_
    refine x_ladd (pc := 85) X dX8_digest_85 ?_
    refine x_lstore_n (pc := 86) (lv' := [(1, .long ((31 * v1) + (Int32.toInt64 r81))), (0, .ref (ad 0)), (3, .int v3)]) X dX8_digest_86 rfl (by decide) rfl ?_
    refine x_ldc2 (pc := 87) X kcX8_297 dX8_digest_87 ?_
    refine x_lload_n (pc := 90) X dX8_digest_90 rfl 0 rfl ?_
    refine x_lmul (pc := 91) X dX8_digest_91 ?_
    refine x_aload_n (pc := 92) X dX8_digest_92 rfl 1 rfl ?_
    refine x_iload_n (pc := 93) X dX8_digest_93 rfl 2 rfl ?_
    refine x_iconst (pc := 94) (v := 1) X dX8_digest_94 (by decide) ?_
    obtain ⟨r95, σ95, hq95, h⟩ := xb2_some h
    refine x_calliV (pc := 95) (As := [.int v3, .int 1]) (rest := [.long (31 * ((31 * v1) + (Int32.toInt64 r81)))]) X (kX8_thing l X.2.2.2.2.2.2.2 F _ _ _ _ _ hq95) kvX8_305 rfl (qX8) ⟨rfl, rfl, Nat.le_of_ble_eq_true rfl, Nat.le_of_ble_eq_true rfl⟩ rfl rfl (Nat.le_of_ble_eq_true rfl) dX8_digest_95 ?_
    refine x_i2l (pc := 98) X dX8_digest_98 ?_
    refine x_ladd (pc := 99) X dX8_digest_99 ?_
    refine x_lstore_n (pc := 100) (lv' := [(1, .long ((31 * ((31 * v1) + (Int32.toInt64 r81))) + (Int32.toInt64 r95))), (0, .ref (ad 0)), (3, .int v3)]) X dX8_digest_100 rfl (by decide) rfl ?_
    refine x_ldc2 (pc := 101) X kcX8_297 dX8_digest_101 ?_
    refine x_lload_n (pc := 104) X dX8_digest_104 rfl 0 rfl ?_
    refine x_lmul (pc := 105) X dX8_digest_105 ?_
    refine x_aload_n (pc := 106) X dX8_digest_106 rfl 1 rfl ?_
    refine x_iload_n (pc := 107) X dX8_digest_107 rfl 2 rfl ?_
    refine x_iconst (pc := 108) (v := 2) X dX8_digest_108 (by decide) ?_
    obtain ⟨r109, σ109, hq109, h⟩ := xb2_some h
    refine x_calliV (pc := 109) (As := [.int v3, .int 2]) (rest := [.long (31 * ((31 * ((31 * v1) + (Int32.toInt64 r81))) + (Int32.toInt64 r95)))]) X (kX8_thing l X.2.2.2.2.2.2.2 F _ _ _ _ _ hq109) kvX8_305 rfl (qX8) ⟨rfl, rfl, Nat.le_of_ble_eq_true rfl, Nat.le_of_ble_eq_true rfl⟩ rfl rfl (Nat.le_of_ble_eq_true rfl) dX8_digest_109 ?_
    refine x_i2l (pc := 112) X dX8_digest_112 ?_
    refine x_ladd (pc := 113) X dX8_digest_113 ?_
    refine x_lstore_n (pc := 114) (lv' := [(1, .long ((31 * ((31 * ((31 * v1) + (Int32.toInt64 r81))) + (Int32.toInt64 r95))) + (Int32.toInt64 r109))), (0, .ref (ad 0)), (3, .int v3)]) X dX8_digest_114 rfl (by decide) rfl ?_
    refine x_ldc2 (pc := 115) X kcX8_297 dX8_digest_115 ?_
    refine x_lload_n (pc := 118) X dX8_digest_118 rfl 0 rfl ?_
    refine x_lmul (pc := 119) X dX8_digest_119 ?_
    refine x_aload_n (pc := 120) X dX8_digest_120 rfl 1 rfl ?_
    refine x_bipush (pc := 121) (v := 9) X dX8_digest_121 (by decide) ?_
    refine x_iload_n (pc := 123) X dX8_digest_123 rfl 2 rfl ?_
    refine x_iconst (pc := 124) (v := (-1)) X dX8_digest_124 (by decide) ?_
    obtain ⟨r125, σ125, hq125, h⟩ := xb2_some h
    refine x_calliV (pc := 125) (As := [.int 9, .int v3, .int (-1)]) (rest := [.long (31 * ((31 * ((31 * ((31 * v1) + (Int32.toInt64 r81))) + (Int32.toInt64 r95))) + (Int32.toInt64 r109)))]) X (kX8_layers l X.2.2.2.2.2.2.2 F _ _ _ _ _ _ hq125) kvX8_308 rfl (qX8) ⟨rfl, rfl, Nat.le_of_ble_eq_true rfl, Nat.le_of_ble_eq_true rfl⟩ rfl rfl (Nat.le_of_ble_eq_true rfl) dX8_digest_125 ?_
    refine x_i2l (pc := 128) X dX8_digest_128 ?_
    refine x_ladd (pc := 129) X dX8_digest_129 ?_
    refine x_lstore_n (pc := 130) (lv' := [(1, .long ((31 * ((31 * ((31 * ((31 * v1) + (Int32.toInt64 r81))) + (Int32.toInt64 r95))) + (Int32.toInt64 r109))) + (Int32.toInt64 r125))), (0, .ref (ad 0)), (3, .int v3)]) X dX8_digest_130 rfl (by decide) rfl ?_
    refine x_ldc2 (pc := 131) X kcX8_297 dX8_digest_131 ?_
    refine x_lload_n (pc := 134) X dX8_digest_134 rfl 0 rfl ?_
    refine x_lmul (pc := 135) X dX8_digest_135 ?_
    refine x_aload_n (pc := 136) X dX8_digest_136 rfl 1 rfl ?_
    refine x_bipush (pc := 137) (v := 9) X dX8_digest_137 (by decide) ?_
    refine x_iload_n (pc := 139) X dX8_digest_139 rfl 2 rfl ?_
    refine x_iconst (pc := 140) (v := 0) X dX8_digest_140 (by decide) ?_
    obtain ⟨r141, σ141, hq141, h⟩ := xb2_some h
    refine x_calliV (pc := 141) (As := [.int 9, .int v3, .int 0]) (rest := [.long (31 * ((31 * ((31 * ((31 * ((31 * v1) + (Int32.toInt64 r81))) + (Int32.toInt64 r95))) + (Int32.toInt64 r109))) + (Int32.toInt64 r125)))]) X (kX8_layers l X.2.2.2.2.2.2.2 F _ _ _ _ _ _ hq141) kvX8_308 rfl (qX8) ⟨rfl, rfl, Nat.le_of_ble_eq_true rfl, Nat.le_of_ble_eq_true rfl⟩ rfl rfl (Nat.le_of_ble_eq_true rfl) dX8_digest_141 ?_
    refine x_i2l (pc := 144) X dX8_digest_144 ?_
    refine x_ladd (pc := 145) X dX8_digest_145 ?_
    refine x_lstore_n (pc := 146) (lv' := [(1, .long ((31 * ((31 * ((31 * ((31 * ((31 * v1) + (Int32.toInt64 r81))) + (Int32.toInt64 r95))) + (Int32.toInt64 r109))) + (Int32.toInt64 r125))) + (Int32.toInt64 r141))), (0, .ref (ad 0)), (3, .int v3)]) X dX8_digest_146 rfl (by decide) rfl ?_
    refine x_ldc2 (pc := 147) X kcX8_297 dX8_digest_147 ?_
    refine x_lload_n (pc := 150) X dX8_digest_150 rfl 0 rfl ?_
    refine x_lmul (pc := 151) X dX8_digest_151 ?_
    refine x_aload_n (pc := 152) X dX8_digest_152 rfl 1 rfl ?_
    refine x_bipush (pc := 153) (v := 9) X dX8_digest_153 (by decide) ?_
    refine x_iload_n (pc := 155) X dX8_digest_155 rfl 2 rfl ?_
    refine x_iconst (pc := 156) (v := 0) X dX8_digest_156 (by decide) ?_
    obtain ⟨r157, σ157, hq157, h⟩ := xb2_some h
    refine x_calliV (pc := 157) (As := [.int 9, .int v3, .int 0]) (rest := [.long (31 * ((31 * ((31 * ((31 * ((31 * ((31 * v1) + (Int32.toInt64 r81))) + (Int32.toInt64 r95))) + (Int32.toInt64 r109))) + (Int32.toInt64 r125))) + (Int32.toInt64 r141)))]) X (kX8_strong l X.2.2.2.2.2.2.2 F _ _ _ _ _ _ hq157) kvX8_310 rfl (qX8) ⟨rfl, rfl, Nat.le_of_ble_eq_true rfl, Nat.le_of_ble_eq_true rfl⟩ rfl rfl (Nat.le_of_ble_eq_true rfl) dX8_digest_157 ?_
    refine x_i2l (pc := 160) X dX8_digest_160 ?_
    refine x_ladd (pc := 161) X dX8_digest_161 ?_
    refine x_lstore_n (pc := 162) (lv' := [(1, .long ((31 * ((31 * ((31 * ((31 * ((31 * ((31 * v1) + (Int32.toInt64 r81))) + (Int32.toInt64 r95))) + (Int32.toInt64 r109))) + (Int32.toInt64 r125))) + (Int32.toInt64 r141))) + (Int32.toInt64 r157))), (0, .ref (ad 0)), (3, .int v3)]) X dX8_digest_162 rfl (by decide) rfl ?_
    refine x_ldc2 (pc := 163) X kcX8_297 dX8_digest_163 ?_
    refine x_lload_n (pc := 166) X dX8_digest_166 rfl 0 rfl ?_
    refine x_lmul (pc := 167) X dX8_digest_167 ?_
    refine x_aload_n (pc := 168) X dX8_digest_168 rfl 1 rfl ?_
    refine x_iload_n (pc := 169) X dX8_digest_169 rfl 2 rfl ?_
    refine x_iconst (pc := 170) (v := 0) X dX8_digest_170 (by decide) ?_
    obtain ⟨r171, σ171, hq171, h⟩ := xb2_some h
    refine x_calliV (pc := 171) (As := [.int v3, .int 0]) (rest := [.long (31 * ((31 * ((31 * ((31 * ((31 * ((31 * ((31 * v1) + (Int32.toInt64 r81))) + (Int32.toInt64 r95))) + (Int32.toInt64 r109))) + (Int32.toInt64 r125))) + (Int32.toInt64 r141))) + (Int32.toInt64 r157)))]) X (kX8_last l X.2.2.2.2.2.2.2 F _ _ _ _ _ hq171) kvX8_313 rfl (qX8) ⟨rfl, rfl, Nat.le_of_ble_eq_true rfl, Nat.le_of_ble_eq_true rfl⟩ rfl rfl (Nat.le_of_ble_eq_true rfl) dX8_digest_171 ?_
    refine x_i2l (pc := 174) X dX8_digest_174 ?_
    refine x_ladd (pc := 175) X dX8_digest_175 ?_
    refine x_lstore_n (pc := 176) (lv' := [(1, .long ((31 * ((31 * ((31 * ((31 * ((31 * ((31 * ((31 * v1) + (Int32.toInt64 r81))) + (Int32.toInt64 r95))) + (Int32.toInt64 r109))) + (Int32.toInt64 r125))) + (Int32.toInt64 r141))) + (Int32.toInt64 r157))) + (Int32.toInt64 r171))), (0, .ref (ad 0)), (3, .int v3)]) X dX8_digest_176 rfl (by decide) rfl ?_
    refine x_ldc2 (pc := 177) X kcX8_297 dX8_digest_177 ?_
    refine x_lload_n (pc := 180) X dX8_digest_180 rfl 0 rfl ?_
    refine x_lmul (pc := 181) X dX8_digest_181 ?_
    refine x_aload_n (pc := 182) X dX8_digest_182 rfl 1 rfl ?_
    refine x_iconst (pc := 183) (v := 5) X dX8_digest_183 (by decide) ?_
    refine x_iload_n (pc := 184) X dX8_digest_184 rfl 2 rfl ?_
    refine x_iconst (pc := 185) (v := 0) X dX8_digest_185 (by decide) ?_
    refine x_iconst (pc := 186) (v := 4) X dX8_digest_186 (by decide) ?_
    refine x_iconst (pc := 187) (v := 0) X dX8_digest_187 (by decide) ?_
    obtain ⟨r188, σ188, hq188, h⟩ := xb2_some h
    refine x_calllV (pc := 188) (As := [.int 5, .int v3, .int 0, .int 4, .int 0]) (rest := [.long (31 * ((31 * ((31 * ((31 * ((31 * ((31 * ((31 * ((31 * v1) + (Int32.toInt64 r81))) + (Int32.toInt64 r95))) + (Int32.toInt64 r109))) + (Int32.toInt64 r125))) + (Int32.toInt64 r141))) + (Int32.toInt64 r157))) + (Int32.toInt64 r171)))]) X (kX8_draughts l X.2.2.2.2.2.2.2 F _ _ _ _ _ _ _ _ hq188) kvX8_316 rfl (qX8) ⟨rfl, rfl, Nat.le_of_ble_eq_true rfl, Nat.le_of_ble_eq_true rfl⟩ rfl rfl (Nat.le_of_ble_eq_true rfl) dX8_digest_188 ?_
    refine x_ladd (pc := 191) X dX8_digest_191 ?_
    refine x_lstore_n (pc := 192) (lv' := [(1, .long ((31 * ((31 * ((31 * ((31 * ((31 * ((31 * ((31 * ((31 * v1) + (Int32.toInt64 r81))) + (Int32.toInt64 r95))) + (Int32.toInt64 r109))) + (Int32.toInt64 r125))) + (Int32.toInt64 r141))) + (Int32.toInt64 r157))) + (Int32.toInt64 r171))) + r188)), (0, .ref (ad 0)), (3, .int v3)]) X dX8_digest_192 rfl (by decide) rfl ?_
    refine x_ldc2 (pc := 193) X kcX8_297 dX8_digest_193 ?_
    refine x_lload_n (pc := 196) X dX8_digest_196 rfl 0 rfl ?_
    refine x_lmul (pc := 197) X dX8_digest_197 ?_
    refine x_aload_n (pc := 198) X dX8_digest_198 rfl 1 rfl ?_
    refine x_iconst (pc := 199) (v := 5) X dX8_digest_199 (by decide) ?_
    refine x_iload_n (pc := 200) X dX8_digest_200 rfl 2 rfl ?_
    refine x_iconst (pc := 201) (v := 0) X dX8_digest_201 (by decide) ?_
    refine x_iconst (pc := 202) (v := 4) X dX8_digest_202 (by decide) ?_
    refine x_iconst (pc := 203) (v := 1) X dX8_digest_203 (by decide) ?_
    obtain ⟨r204, σ204, hq204, h⟩ := xb2_some h
    refine x_calllV (pc := 204) (As := [.int 5, .int v3, .int 0, .int 4, .int 1]) (rest := [.long (31 * ((31 * ((31 * ((31 * ((31 * ((31 * ((31 * ((31 * ((31 * v1) + (Int32.toInt64 r81))) + (Int32.toInt64 r95))) + (Int32.toInt64 r109))) + (Int32.toInt64 r125))) + (Int32.toInt64 r141))) + (Int32.toInt64 r157))) + (Int32.toInt64 r171))) + r188))]) X (kX8_draughts l X.2.2.2.2.2.2.2 F _ _ _ _ _ _ _ _ hq204) kvX8_316 rfl (qX8) ⟨rfl, rfl, Nat.le_of_ble_eq_true rfl, Nat.le_of_ble_eq_true rfl⟩ rfl rfl (Nat.le_of_ble_eq_true rfl) dX8_digest_204 ?_
    refine x_ladd (pc := 207) X dX8_digest_207 ?_
    refine x_lstore_n (pc := 208) (lv' := [(1, .long ((31 * ((31 * ((31 * ((31 * ((31 * ((31 * ((31 * ((31 * ((31 * v1) + (Int32.toInt64 r81))) + (Int32.toInt64 r95))) + (Int32.toInt64 r109))) + (Int32.toInt64 r125))) + (Int32.toInt64 r141))) + (Int32.toInt64 r157))) + (Int32.toInt64 r171))) + r188)) + r204)), (0, .ref (ad 0)), (3, .int v3)]) X dX8_digest_208 rfl (by decide) rfl ?_
    refine x_ldc2 (pc := 209) X kcX8_297 dX8_digest_209 ?_
    refine x_lload_n (pc := 212) X dX8_digest_212 rfl 0 rfl ?_
    refine x_lmul (pc := 213) X dX8_digest_213 ?_
    refine x_aload_n (pc := 214) X dX8_digest_214 rfl 1 rfl ?_
    refine x_bipush (pc := 215) (v := 21) X dX8_digest_215 (by decide) ?_
    refine x_iload_n (pc := 217) X dX8_digest_217 rfl 2 rfl ?_
    refine x_iconst (pc := 218) (v := 1) X dX8_digest_218 (by decide) ?_
    refine x_iconst (pc := 219) (v := 0) X dX8_digest_219 (by decide) ?_
    obtain ⟨r220, σ220, hq220, h⟩ := xb2_some h
    refine x_calllV (pc := 220) (As := [.int 21, .int v3, .int 1, .int 0]) (rest := [.long (31 * ((31 * ((31 * ((31 * ((31 * ((31 * ((31 * ((31 * ((31 * ((31 * v1) + (Int32.toInt64 r81))) + (Int32.toInt64 r95))) + (Int32.toInt64 r109))) + (Int32.toInt64 r125))) + (Int32.toInt64 r141))) + (Int32.toInt64 r157))) + (Int32.toInt64 r171))) + r188)) + r204))]) X (kX8_found l X.2.2.2.2.2.2.2 F _ _ _ _ _ _ _ hq220) kvX8_320 rfl (qX8) ⟨rfl, rfl, Nat.le_of_ble_eq_true rfl, Nat.le_of_ble_eq_true rfl⟩ rfl rfl (Nat.le_of_ble_eq_true rfl) dX8_digest_220 ?_
    refine x_ladd (pc := 223) X dX8_digest_223 ?_
    refine x_lstore_n (pc := 224) (lv' := [(1, .long ((31 * ((31 * ((31 * ((31 * ((31 * ((31 * ((31 * ((31 * ((31 * ((31 * v1) + (Int32.toInt64 r81))) + (Int32.toInt64 r95))) + (Int32.toInt64 r109))) + (Int32.toInt64 r125))) + (Int32.toInt64 r141))) + (Int32.toInt64 r157))) + (Int32.toInt64 r171))) + r188)) + r204)) + r220)), (0, .ref (ad 0)), (3, .int v3)]) X dX8_digest_224 rfl (by decide) rfl ?_
    refine x_ldc2 (pc := 225) X kcX8_297 dX8_digest_225 ?_
    refine x_lload_n (pc := 228) X dX8_digest_228 rfl 0 rfl ?_
    refine x_lmul (pc := 229) X dX8_digest_229 ?_
    refine x_aload_n (pc := 230) X dX8_digest_230 rfl 1 rfl ?_
    refine x_bipush (pc := 231) (v := 21) X dX8_digest_231 (by decide) ?_
    refine x_iload_n (pc := 233) X dX8_digest_233 rfl 2 rfl ?_
    refine x_iconst (pc := 234) (v := 1) X dX8_digest_234 (by decide) ?_
    refine x_iconst (pc := 235) (v := 1) X dX8_digest_235 (by decide) ?_
    obtain ⟨r236, σ236, hq236, h⟩ := xb2_some h
    refine x_calllV (pc := 236) (As := [.int 21, .int v3, .int 1, .int 1]) (rest := [.long (31 * ((31 * ((31 * ((31 * ((31 * ((31 * ((31 * ((31 * ((31 * ((31 * ((31 * v1) + (Int32.toInt64 r81))) + (Int32.toInt64 r95))) + (Int32.toInt64 r109))) + (Int32.toInt64 r125))) + (Int32.toInt64 r141))) + (Int32.toInt64 r157))) + (Int32.toInt64 r171))) + r188)) + r204)) + r220))]) X (kX8_found l X.2.2.2.2.2.2.2 F _ _ _ _ _ _ _ hq236) kvX8_320 rfl (qX8) ⟨rfl, rfl, Nat.le_of_ble_eq_true rfl, Nat.le_of_ble_eq_true rfl⟩ rfl rfl (Nat.le_of_ble_eq_true rfl) dX8_digest_236 ?_
    refine x_ladd (pc := 239) X dX8_digest_239 ?_
    refine x_lstore_n (pc := 240) (lv' := [(1, .long ((31 * ((31 * ((31 * ((31 * ((31 * ((31 * ((31 * ((31 * ((31 * ((31 * ((31 * v1) + (Int32.toInt64 r81))) + (Int32.toInt64 r95))) + (Int32.toInt64 r109))) + (Int32.toInt64 r125))) + (Int32.toInt64 r141))) + (Int32.toInt64 r157))) + (Int32.toInt64 r171))) + r188)) + r204)) + r220)) + r236)), (0, .ref (ad 0)), (3, .int v3)]) X dX8_digest_240 rfl (by decide) rfl ?_
    refine x_ldc2 (pc := 241) X kcX8_297 dX8_digest_241 ?_
    refine x_lload_n (pc := 244) X dX8_digest_244 rfl 0 rfl ?_
    refine x_lmul (pc := 245) X dX8_digest_245 ?_
    refine x_aload_n (pc := 246) X dX8_digest_246 rfl 1 rfl ?_
    refine x_bipush (pc := 247) (v := 7) X dX8_digest_247 (by decide) ?_
    refine x_bipush (pc := 249) (v := 12) X dX8_digest_249 (by decide) ?_
    refine x_iload_n (pc := 251) X dX8_digest_251 rfl 2 rfl ?_
    obtain ⟨r252, σ252, hq252, h⟩ := xb2_some h
    refine x_calliV (pc := 252) (As := [.int 7, .int 12, .int v3]) (rest := [.long (31 * ((31 * ((31 * ((31 * ((31 * ((31 * ((31 * ((31 * ((31 * ((31 * ((31 * ((31 * v1) + (Int32.toInt64 r81))) + (Int32.toInt64 r95))) + (Int32.toInt64 r109))) + (Int32.toInt64 r125))) + (Int32.toInt64 r141))) + (Int32.toInt64 r157))) + (Int32.toInt64 r171))) + r188)) + r204)) + r220)) + r236))]) X (kX8_day l X.2.2.2.2.2.2.2 F _ _ _ _ _ _ hq252) kvX8_324 rfl (qX8) ⟨rfl, rfl, Nat.le_of_ble_eq_true rfl, Nat.le_of_ble_eq_true rfl⟩ rfl rfl (Nat.le_of_ble_eq_true rfl) dX8_digest_252 ?_
    refine x_i2l (pc := 255) X dX8_digest_255 ?_
    refine x_ladd (pc := 256) X dX8_digest_256 ?_
    refine x_lstore_n (pc := 257) (lv' := [(1, .long ((31 * ((31 * ((31 * ((31 * ((31 * ((31 * ((31 * ((31 * ((31 * ((31 * ((31 * ((31 * v1) + (Int32.toInt64 r81))) + (Int32.toInt64 r95))) + (Int32.toInt64 r109))) + (Int32.toInt64 r125))) + (Int32.toInt64 r141))) + (Int32.toInt64 r157))) + (Int32.toInt64 r171))) + r188)) + r204)) + r220)) + r236)) + (Int32.toInt64 r252))), (0, .ref (ad 0)), (3, .int v3)]) X dX8_digest_257 rfl (by decide) rfl ?_
    refine x_iinc (pc := 258) (v := (v3 + 1)) (lv' := [(3, .int (v3 + 1)), (1, .long ((31 * ((31 * ((31 * ((31 * ((31 * ((31 * ((31 * ((31 * ((31 * ((31 * ((31 * ((31 * v1) + (Int32.toInt64 r81))) + (Int32.toInt64 r95))) + (Int32.toInt64 r109))) + (Int32.toInt64 r125))) + (Int32.toInt64 r141))) + (Int32.toInt64 r157))) + (Int32.toInt64 r171))) + r188)) + r204)) + r220)) + r236)) + (Int32.toInt64 r252))), (0, .ref (ad 0))]) X dX8_digest_258 2 rfl rfl (by decide) rfl ?_
    refine x_goto (pc := 261) X 59 dX8_digest_261 (by decide) ?_
    refine x_sub [2, 1, 0] rfl ?_
    exact hc59 _ _ _ h
theorem wX8_digest_L59 {p : Program} {l : Launch} {e : Env} {s : State} {m : MethodId} {args : Array Value} {below : List Frame} {meth : Method} {c : Code} {D : va_G} {A : Nat → Prop} {ad : Nat → Nat} {cI cX : ClassId} {td : Nat} {r : Int64} {σ' : xSt} (X : xX p s m args c cX8_digest 7 RX8 D (tyC cI cX) A (wC ad cI cX)) (hr : meth.sig.returnType = (some .long)) (hl : meth.locks = false) (hT : xT td A s) (F : Nat) : ∀ (n : Nat) (v1 : Int64) (v3 : Int32) (σ : xSt), mX8_digest_L59 F n v1 v3 σ = some (r, σ') → xG p l e ({ frames := 6, cells := 0, slots := 0, locals := 151 }) s m args below meth c (MQ below (xQl D A (wC ad cI cX) r σ') args s 0 0 A) 7 D A (wC ad cI cX) σ 59 [(0, .ref (ad 0)), (1, .long v1), (3, .int v3)] [] := by
  intro n
  induction n with
  | zero => intro v1 v3 σ h; cases h
  | succ n ih => intro v1 v3 σ h; exact wX8_digest_S59 X hr hl hT F ih v1 v3 σ h
set_option maxRecDepth 100000 in
set_option maxHeartbeats 4000000 in
theorem wX8_digest_L31 {p : Program} {l : Launch} {e : Env} {s : State} {m : MethodId} {args : Array Value} {below : List Frame} {meth : Method} {c : Code} {D : va_G} {A : Nat → Prop} {ad : Nat → Nat} {cI cX : ClassId} {td : Nat} {r : Int64} {σ' : xSt} (X : xX p s m args c cX8_digest 7 RX8 D (tyC cI cX) A (wC ad cI cX)) (hr : meth.sig.returnType = (some .long)) (hl : meth.locks = false) (hT : xT td A s) (F : Nat) (v1 : Int64) (σ : xSt) (h : mX8_digest_L31 F v1 σ = some (r, σ')) : xG p l e ({ frames := 6, cells := 0, slots := 0, locals := 151 }) s m args below meth c (MQ below (xQl D A (wC ad cI cX) r σ') args s 0 0 A) 7 D A (wC ad cI cX) σ 31 [(0, .ref (ad 0)), (1, .long v1)] [] := by
  unfold mX8_digest_L31 at h
  refine x_ldc2 (pc := 31) X kcX8_297 dX8_digest_31 ?_
  refine x_lload_n (pc := 34) X dX8_digest_34 rfl 1 rfl ?_
  refine x_lmul (pc := 35) X dX8_digest_35 ?_
  refine x_aload_n (pc := 36) X dX8_digest_36 rfl 0 rfl ?_
  refine x_iconst (pc := 37) (v := 0) X dX8_digest_37 (by decide) ?_
  obtain ⟨r38, σ38, hq38, h⟩ := xb2_some h
  refine x_calliV (pc := 38) (As := [.int 0]) (rest := [.long (31 * v1)]) X (kX8_fault l X.2.2.2.2.2.2.2 F _ _ _ _ hq38) kvX8_302 rfl (qX8) ⟨rfl, rfl, Nat.le_of_ble_eq_true rfl, Nat.le_of_ble_eq_true rfl⟩ rfl rfl (Nat.le_of_ble_eq_true rfl) dX8_digest_38 ?_
  refine x_i2l (pc := 41) X dX8_digest_41 ?_
  refine x_ladd (pc := 42) X dX8_digest_42 ?_
  refine x_lstore_n (pc := 43) (lv' := [(1, .long ((31 * v1) + (Int32.toInt64 r38))), (0, .ref (ad 0))]) X dX8_digest_43 rfl (by decide) rfl ?_
  refine x_ldc2 (pc := 44) X kcX8_297 dX8_digest_44 ?_
  refine x_lload_n (pc := 47) X dX8_digest_47 rfl 0 rfl ?_
  refine x_lmul (pc := 48) X dX8_digest_48 ?_
  refine x_aload_n (pc := 49) X dX8_digest_49 rfl 1 rfl ?_
  refine x_iconst (pc := 50) (v := 1) X dX8_digest_50 (by decide) ?_
  obtain ⟨r51, σ51, hq51, h⟩ := xb2_some h
  refine x_calliV (pc := 51) (As := [.int 1]) (rest := [.long (31 * ((31 * v1) + (Int32.toInt64 r38)))]) X (kX8_fault l X.2.2.2.2.2.2.2 F _ _ _ _ hq51) kvX8_302 rfl (qX8) ⟨rfl, rfl, Nat.le_of_ble_eq_true rfl, Nat.le_of_ble_eq_true rfl⟩ rfl rfl (Nat.le_of_ble_eq_true rfl) dX8_digest_51 ?_
  refine x_i2l (pc := 54) X dX8_digest_54 ?_
  refine x_ladd (pc := 55) X dX8_digest_55 ?_
  refine x_lstore_n (pc := 56) (lv' := [(1, .long ((31 * ((31 * v1) + (Int32.toInt64 r38))) + (Int32.toInt64 r51))), (0, .ref (ad 0))]) X dX8_digest_56 rfl (by decide) rfl ?_
  refine x_iconst (pc := 57) (v := 0) X dX8_digest_57 (by decide) ?_
  refine x_istore_n (pc := 58) (lv' := [(3, .int 0), (1, .long ((31 * ((31 * v1) + (Int32.toInt64 r38))) + (Int32.toInt64 r51))), (0, .ref (ad 0))]) X dX8_digest_58 rfl (by decide) rfl ?_
  refine x_sub [2, 1, 0] rfl ?_
  exact wX8_digest_L59 X hr hl hT F F _ _ _ h
set_option maxRecDepth 100000 in
set_option maxHeartbeats 4000000 in
theorem wX8_digest_S6 {p : Program} {l : Launch} {e : Env} {s : State} {m : MethodId} {args : Array Value} {below : List Frame} {meth : Method} {c : Code} {D : va_G} {A : Nat → Prop} {ad : Nat → Nat} {cI cX : ClassId} {td : Nat} {r : Int64} {σ' : xSt} {c6 : Int64 → Int32 → xSt → Option (Int64 × xSt)} (X : xX p s m args c cX8_digest 7 RX8 D (tyC cI cX) A (wC ad cI cX)) (hr : meth.sig.returnType = (some .long)) (hl : meth.locks = false) (hT : xT td A s) (F : Nat) (hc6 : ∀ (v1 : Int64) (v3 : Int32) (σ : xSt), c6 v1 v3 σ = some (r, σ') → xG p l e ({ frames := 6, cells := 0, slots := 0, locals := 151 }) s m args below meth c (MQ below (xQl D A (wC ad cI cX) r σ') args s 0 0 A) 7 D A (wC ad cI cX) σ 6 [(0, .ref (ad 0)), (1, .long v1), (3, .int v3)] []) (v1 : Int64) (v3 : Int32) (σ : xSt) (h : mX8_digest_S6 F c6 v1 v3 σ = some (r, σ')) : xG p l e ({ frames := 6, cells := 0, slots := 0, locals := 151 }) s m args below meth c (MQ below (xQl D A (wC ad cI cX) r σ') args s 0 0 A) 7 D A (wC ad cI cX) σ 6 [(0, .ref (ad 0)), (1, .long v1), (3, .int v3)] [] := by
  unfold mX8_digest_S6 at h
  refine x_iload_n (pc := 6) X dX8_digest_6 rfl 2 rfl ?_
  refine x_bipush (pc := 7) (v := 8) X dX8_digest_7 (by decide) ?_
  refine x_icmp_ge (pc := 9) X 31 dX8_digest_9 (by decide) (fun hc => ?_) (fun hc => ?_)
  · have h := xit hc h
    refine x_sub [0, 1] rfl ?_
    exact wX8_digest_L31 X hr hl hT F _ _ h
  · have h := xif hc h
    refine x_ldc2 (pc := 12) X kcX8_297 dX8_digest_12 ?_
    refine x_lload_n (pc := 15) X dX8_digest_15 rfl 1 rfl ?_
    refine x_lmul (pc := 16) X dX8_digest_16 ?_
    refine x_aload_n (pc := 17) X dX8_digest_17 rfl 0 rfl ?_
    refine x_iload_n (pc := 18) X dX8_digest_18 rfl 2 rfl ?_
    obtain ⟨r19, σ19, hq19, h⟩ := xb2_some h
    refine x_calliV (pc := 19) (As := [.int v3]) (rest := [.long (31 * v1)]) X (kX8_count l X.2.2.2.2.2.2.2 F _ _ _ _ hq19) kvX8_299 rfl (qX8) ⟨rfl, rfl, Nat.le_of_ble_eq_true rfl, Nat.le_of_ble_eq_true rfl⟩ rfl rfl (Nat.le_of_ble_eq_true rfl) dX8_digest_19 ?_
    refine x_i2l (pc := 22) X dX8_digest_22 ?_
    refine x_ladd (pc := 23) X dX8_digest_23 ?_
    refine x_lstore_n (pc := 24) (lv' := [(1, .long ((31 * v1) + (Int32.toInt64 r19))), (0, .ref (ad 0)), (3, .int v3)]) X dX8_digest_24 rfl (by decide) rfl ?_
    refine x_iinc (pc := 25) (v := (v3 + 1)) (lv' := [(3, .int (v3 + 1)), (1, .long ((31 * v1) + (Int32.toInt64 r19))), (0, .ref (ad 0))]) X dX8_digest_25 2 rfl rfl (by decide) rfl ?_
    refine x_goto (pc := 28) X 6 dX8_digest_28 (by decide) ?_
    refine x_sub [2, 1, 0] rfl ?_
    exact hc6 _ _ _ h
theorem wX8_digest_L6 {p : Program} {l : Launch} {e : Env} {s : State} {m : MethodId} {args : Array Value} {below : List Frame} {meth : Method} {c : Code} {D : va_G} {A : Nat → Prop} {ad : Nat → Nat} {cI cX : ClassId} {td : Nat} {r : Int64} {σ' : xSt} (X : xX p s m args c cX8_digest 7 RX8 D (tyC cI cX) A (wC ad cI cX)) (hr : meth.sig.returnType = (some .long)) (hl : meth.locks = false) (hT : xT td A s) (F : Nat) : ∀ (n : Nat) (v1 : Int64) (v3 : Int32) (σ : xSt), mX8_digest_L6 F n v1 v3 σ = some (r, σ') → xG p l e ({ frames := 6, cells := 0, slots := 0, locals := 151 }) s m args below meth c (MQ below (xQl D A (wC ad cI cX) r σ') args s 0 0 A) 7 D A (wC ad cI cX) σ 6 [(0, .ref (ad 0)), (1, .long v1), (3, .int v3)] [] := by
  intro n
  induction n with
  | zero => intro v1 v3 σ h; cases h
  | succ n ih => intro v1 v3 σ h; exact wX8_digest_S6 X hr hl hT F ih v1 v3 σ h
set_option maxRecDepth 100000 in
set_option maxHeartbeats 4000000 in
theorem kX8_digest (l : Launch) {D : va_G} {A : Nat → Prop} {ad : Nat → Nat} {cI cX : ClassId} (td : Nat) (hD : ∀ σ, va_D A ((wC ad cI cX) σ)) (F : Nat) (σ : xSt) (r : Int64) (σ' : xSt) (h : mX8_digest F σ = some (r, σ')) : xMd l yX8_digest cX8_digest 7 (some .long) ({ frames := 6, cells := 0, slots := 0, locals := 151 }) D (tyC cI cX) A (wC ad cI cX) [.ref (ad 0)] σ td (xQl D A (wC ad cI cX) r σ') := by
  refine xMd_of (lv := [(0, .ref (ad 0))]) [.ref (ad 0)] (by decide) hD rfl (Nat.le_of_ble_eq_true rfl) ?_
  intro p e s m args below meth c X hT hr hl
  unfold mX8_digest at h
  refine x_ldc2 (pc := 0) X kcX8_295 dX8_digest_0 ?_
  refine x_lstore_n (pc := 3) (lv' := [(1, .long 17), (0, .ref (ad 0))]) X dX8_digest_3 rfl (by decide) rfl ?_
  refine x_iconst (pc := 4) (v := 0) X dX8_digest_4 (by decide) ?_
  refine x_istore_n (pc := 5) (lv' := [(3, .int 0), (1, .long 17), (0, .ref (ad 0))]) X dX8_digest_5 rfl (by decide) rfl ?_
  refine x_sub [2, 1, 0] rfl ?_
  exact wX8_digest_L6 X hr hl hT F F _ _ _ h
