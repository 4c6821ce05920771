section LAWC
variable {l : Launch} {G : GG} {n : Nat} {i : IP} {r : RP} {C K O k j q : Nat} {E : EE} {Gd : Nat → Prop} {A : AP} {Q : QP} {nm : String}
theorem lw_c_timeR (hS : LwS G C K O E Gd A n i r) (hl : G.2.2.2.1 ≤ 2048) (hq : 4 * q + 4 ≤ G.2.2.2.1) (hK : K + 1969350 ≤ 2 ^ 30) (hO : O + 2500000 < 2 ^ 31) (hk : 60 ≤ k) (hj : 420 ≤ j) (next : LwN l G nm C K O (k - 60) (j - 420) q Q) : Go l G (mLw nm) 11 k j 394 (lwLo G C q) [] n i r Q := by
  have hL := hS.1.1
  have hC := hS.2.1.1
  have hE := hS.2.1.2.1
  obtain ⟨hgn, hgC, h60, hEk⟩ := hS.gn
  have hY := hS.2.2.1.1
  have hR := hS.2.2.1.2
  have hW := hS.2.2.2.1
  have hA := hS.2.2.2.2.1
  have hP := hS.2.2.2.2.2
  have hq0 := AInv.q hA.1 hE
  obtain ⟨T, hT, hI⟩ := id hA.1
  have okC := hL.1
  have okM := hY.1.1
  refine go_aload_n (z := 395) dL_law_394 rfl rfl ?_
  refine go_aload_n (z := 396) dL_law_395 rfl rfl ?_
  refine go_iload_n (z := 397) dL_law_396 rfl rfl ?_
  refine go_iconst (z := 398) (v := 1) dL_law_397 rfl (by decide) ?_
  refine go_iadd (z := 399) dL_law_398 rfl ?_
  refine go_sld (z := 400) (4 * q + 1) (by omega) (nI_add (4 * q) 1) (by omega) dL_law_399 rfl ?_
  refine go_aload_n (z := 401) dL_law_400 rfl rfl ?_
  refine go_iload_n (z := 402) dL_law_401 rfl rfl ?_
  refine go_iconst (z := 403) (v := 2) dL_law_402 rfl (by decide) ?_
  refine go_iadd (z := 404) dL_law_403 rfl ?_
  refine go_sld (z := 405) (4 * q + 2) (by omega) (nI_add (4 * q) 2) (by omega) dL_law_404 rfl ?_
  refine go_callV (z := 408) (t := 5) [.int (G.2.2.2.2 (4 * q + 1)), .int (G.2.2.2.2 (4 * q + 2))] dL_law_405 rfl mlX5_time vL_66 ⟨by decide, rfl⟩ okC rfl rfl (by decide) (cat_i (cat_i cat_nil)) (by simp) (by decide) (by first | decide | omega) (by first | decide | omega) (c_ceTm hL hC) ?_
  refine ret_elim ?_
  refine go_aload_n (z := 409) dL_law_408 rfl rfl ?_
  refine go_aload_n (z := 410) dL_law_409 rfl rfl ?_
  refine go_iload_n (z := 411) dL_law_410 rfl rfl ?_
  refine go_iconst (z := 412) (v := 1) dL_law_411 rfl (by decide) ?_
  refine go_iadd (z := 413) dL_law_412 rfl ?_
  refine go_sld (z := 414) (4 * q + 1) (by omega) (nI_add (4 * q) 1) (by omega) dL_law_413 rfl ?_
  refine go_aload_n (z := 415) dL_law_414 rfl rfl ?_
  refine go_iload_n (z := 416) dL_law_415 rfl rfl ?_
  refine go_iconst (z := 417) (v := 2) dL_law_416 rfl (by decide) ?_
  refine go_iadd (z := 418) dL_law_417 rfl ?_
  refine go_sld (z := 419) (4 * q + 2) (by omega) (nI_add (4 * q) 2) (by omega) dL_law_418 rfl ?_
  refine go_callV (z := 422) (t := 6) [.int (G.2.2.2.2 (4 * q + 1)), .int (G.2.2.2.2 (4 * q + 2))] dL_law_419 rfl mlX6_time vL_69 ⟨by decide, rfl⟩ okM rfl rfl (by decide) (cat_i (cat_i cat_nil)) (by simp) (by decide) (by first | decide | omega) (by first | decide | omega) (c_mTm hY hR) ?_
  refine ret_elim ?_
  refine go_icmp_eq (z := 644) (z2 := 425) dL_law_422 rfl (by decide) (fun _ => ?_) (fun h => absurd rfl h)
  exact go_less (next _ _ _ _ _ _ (hS.more (by omega) (by omega))) (Nat.le_refl _) (by omega) (by omega)
theorem lw_c_bankR (hS : LwS G C K O E Gd A n i r) (hl : G.2.2.2.1 ≤ 2048) (hq : 4 * q + 4 ≤ G.2.2.2.1) (hK : K + 1969350 ≤ 2 ^ 30) (hO : O + 2500000 < 2 ^ 31) (hk : 60 ≤ k) (hj : 420 ≤ j) (next : LwN l G nm C K O (k - 60) (j - 420) q Q) : Go l G (mLw nm) 11 k j 427 (lwLo G C q) [] n i r Q := by
  have hL := hS.1.1
  have hC := hS.2.1.1
  have hE := hS.2.1.2.1
  obtain ⟨hgn, hgC, h60, hEk⟩ := hS.gn
  have hY := hS.2.2.1.1
  have hR := hS.2.2.1.2
  have hW := hS.2.2.2.1
  have hA := hS.2.2.2.2.1
  have hP := hS.2.2.2.2.2
  have hq0 := AInv.q hA.1 hE
  obtain ⟨T, hT, hI⟩ := id hA.1
  have okC := hL.1
  have okM := hY.1.1
  refine go_aload_n (z := 428) dL_law_427 rfl rfl ?_
  refine go_aload_n (z := 429) dL_law_428 rfl rfl ?_
  refine go_iload_n (z := 430) dL_law_429 rfl rfl ?_
  refine go_iconst (z := 431) (v := 1) dL_law_430 rfl (by decide) ?_
  refine go_iadd (z := 432) dL_law_431 rfl ?_
  refine go_sld (z := 433) (4 * q + 1) (by omega) (nI_add (4 * q) 1) (by omega) dL_law_432 rfl ?_
  refine go_callV (z := 436) (t := 5) [.int (G.2.2.2.2 (4 * q + 1))] dL_law_433 rfl mlX5_bankTime vL_70 ⟨by decide, rfl⟩ okC rfl rfl (by decide) (cat_i cat_nil) (by simp) (by decide) (by first | decide | omega) (by first | decide | omega) (c_ceBt hL hC) ?_
  refine ret_elim ?_
  refine go_aload_n (z := 437) dL_law_436 rfl rfl ?_
  refine go_aload_n (z := 438) dL_law_437 rfl rfl ?_
  refine go_iload_n (z := 439) dL_law_438 rfl rfl ?_
  refine go_iconst (z := 440) (v := 1) dL_law_439 rfl (by decide) ?_
  refine go_iadd (z := 441) dL_law_440 rfl ?_
  refine go_sld (z := 442) (4 * q + 1) (by omega) (nI_add (4 * q) 1) (by omega) dL_law_441 rfl ?_
  refine go_callV (z := 445) (t := 6) [.int (G.2.2.2.2 (4 * q + 1))] dL_law_442 rfl mlX6_bankTime vL_73 ⟨by decide, rfl⟩ okM rfl rfl (by decide) (cat_i cat_nil) (by simp) (by decide) (by first | decide | omega) (by first | decide | omega) (c_mBt hY hR) ?_
  refine ret_elim ?_
  refine go_icmp_eq (z := 644) (z2 := 448) dL_law_445 rfl (by decide) (fun _ => ?_) (fun h => absurd rfl h)
  exact go_less (next _ _ _ _ _ _ (hS.more (by omega) (by omega))) (Nat.le_refl _) (by omega) (by omega)
theorem lw_c_houseR (hS : LwS G C K O E Gd A n i r) (hl : G.2.2.2.1 ≤ 2048) (hq : 4 * q + 4 ≤ G.2.2.2.1) (hK : K + 1969350 ≤ 2 ^ 30) (hO : O + 2500000 < 2 ^ 31) (hk : 60 ≤ k) (hj : 420 ≤ j) (next : LwN l G nm C K O (k - 60) (j - 420) q Q) : Go l G (mLw nm) 11 k j 450 (lwLo G C q) [] n i r Q := by
  have hL := hS.1.1
  have hC := hS.2.1.1
  have hE := hS.2.1.2.1
  obtain ⟨hgn, hgC, h60, hEk⟩ := hS.gn
  have hY := hS.2.2.1.1
  have hR := hS.2.2.1.2
  have hW := hS.2.2.2.1
  have hA := hS.2.2.2.2.1
  have hP := hS.2.2.2.2.2
  have hq0 := AInv.q hA.1 hE
  obtain ⟨T, hT, hI⟩ := id hA.1
  have okC := hL.1
  have okM := hY.1.1
  refine go_aload_n (z := 451) dL_law_450 rfl rfl ?_
  refine go_aload_n (z := 452) dL_law_451 rfl rfl ?_
  refine go_iload_n (z := 453) dL_law_452 rfl rfl ?_
  refine go_iconst (z := 454) (v := 1) dL_law_453 rfl (by decide) ?_
  refine go_iadd (z := 455) dL_law_454 rfl ?_
  refine go_sld (z := 456) (4 * q + 1) (by omega) (nI_add (4 * q) 1) (by omega) dL_law_455 rfl ?_
  refine go_aload_n (z := 457) dL_law_456 rfl rfl ?_
  refine go_iload_n (z := 458) dL_law_457 rfl rfl ?_
  refine go_iconst (z := 459) (v := 2) dL_law_458 rfl (by decide) ?_
  refine go_iadd (z := 460) dL_law_459 rfl ?_
  refine go_sld (z := 461) (4 * q + 2) (by omega) (nI_add (4 * q) 2) (by omega) dL_law_460 rfl ?_
  refine go_callV (z := 464) (t := 5) [.int (G.2.2.2.2 (4 * q + 1)), .int (G.2.2.2.2 (4 * q + 2))] dL_law_461 rfl mlX5_house vL_74 ⟨by decide, rfl⟩ okC rfl rfl (by decide) (cat_i (cat_i cat_nil)) (by simp) (by decide) (by first | decide | omega) (by first | decide | omega) (c_ceHouse hL hC) ?_
  refine ret_elim ?_
  refine go_aload_n (z := 465) dL_law_464 rfl rfl ?_
  refine go_aload_n (z := 466) dL_law_465 rfl rfl ?_
  refine go_iload_n (z := 467) dL_law_466 rfl rfl ?_
  refine go_iconst (z := 468) (v := 1) dL_law_467 rfl (by decide) ?_
  refine go_iadd (z := 469) dL_law_468 rfl ?_
  refine go_sld (z := 470) (4 * q + 1) (by omega) (nI_add (4 * q) 1) (by omega) dL_law_469 rfl ?_
  refine go_aload_n (z := 471) dL_law_470 rfl rfl ?_
  refine go_iload_n (z := 472) dL_law_471 rfl rfl ?_
  refine go_iconst (z := 473) (v := 2) dL_law_472 rfl (by decide) ?_
  refine go_iadd (z := 474) dL_law_473 rfl ?_
  refine go_sld (z := 475) (4 * q + 2) (by omega) (nI_add (4 * q) 2) (by omega) dL_law_474 rfl ?_
  refine go_callV (z := 478) (t := 6) [.int (G.2.2.2.2 (4 * q + 1)), .int (G.2.2.2.2 (4 * q + 2))] dL_law_475 rfl mlX6_house vL_77 ⟨by decide, rfl⟩ okM rfl rfl (by decide) (cat_i (cat_i cat_nil)) (by simp) (by decide) (by first | decide | omega) (by first | decide | omega) (c_mHouse hY hR) ?_
  refine ret_elim ?_
  refine go_icmp_eq (z := 644) (z2 := 481) dL_law_478 rfl (by decide) (fun _ => ?_) (fun h => absurd rfl h)
  exact go_less (next _ _ _ _ _ _ (hS.more (by omega) (by omega))) (Nat.le_refl _) (by omega) (by omega)
theorem lw_c_waitR (hS : LwS G C K O E Gd A n i r) (hl : G.2.2.2.1 ≤ 2048) (hq : 4 * q + 4 ≤ G.2.2.2.1) (hK : K + 1969350 ≤ 2 ^ 30) (hO : O + 2500000 < 2 ^ 31) (hk : 60 ≤ k) (hj : 420 ≤ j) (next : LwN l G nm C K O (k - 60) (j - 420) q Q) : Go l G (mLw nm) 11 k j 483 (lwLo G C q) [] n i r Q := by
  have hL := hS.1.1
  have hC := hS.2.1.1
  have hE := hS.2.1.2.1
  obtain ⟨hgn, hgC, h60, hEk⟩ := hS.gn
  have hY := hS.2.2.1.1
  have hR := hS.2.2.1.2
  have hW := hS.2.2.2.1
  have hA := hS.2.2.2.2.1
  have hP := hS.2.2.2.2.2
  have hq0 := AInv.q hA.1 hE
  obtain ⟨T, hT, hI⟩ := id hA.1
  have okC := hL.1
  have okM := hY.1.1
  refine go_aload_n (z := 484) dL_law_483 rfl rfl ?_
  refine go_aload_n (z := 485) dL_law_484 rfl rfl ?_
  refine go_iload_n (z := 486) dL_law_485 rfl rfl ?_
  refine go_iconst (z := 487) (v := 1) dL_law_486 rfl (by decide) ?_
  refine go_iadd (z := 488) dL_law_487 rfl ?_
  refine go_sld (z := 489) (4 * q + 1) (by omega) (nI_add (4 * q) 1) (by omega) dL_law_488 rfl ?_
  refine go_aload_n (z := 490) dL_law_489 rfl rfl ?_
  refine go_iload_n (z := 491) dL_law_490 rfl rfl ?_
  refine go_iconst (z := 492) (v := 2) dL_law_491 rfl (by decide) ?_
  refine go_iadd (z := 493) dL_law_492 rfl ?_
  refine go_sld (z := 494) (4 * q + 2) (by omega) (nI_add (4 * q) 2) (by omega) dL_law_493 rfl ?_
  refine go_aload_n (z := 495) dL_law_494 rfl rfl ?_
  refine go_iload_n (z := 496) dL_law_495 rfl rfl ?_
  refine go_iconst (z := 497) (v := 3) dL_law_496 rfl (by decide) ?_
  refine go_iadd (z := 498) dL_law_497 rfl ?_
  refine go_sld (z := 499) (4 * q + 3) (by omega) (nI_add (4 * q) 3) (by omega) dL_law_498 rfl ?_
  refine go_callV (z := 502) (t := 5) [.int (G.2.2.2.2 (4 * q + 1)), .int (G.2.2.2.2 (4 * q + 2)), .int (G.2.2.2.2 (4 * q + 3))] dL_law_499 rfl mlX5_waiting vL_78 ⟨by decide, rfl⟩ okC rfl rfl (by decide) (cat_i (cat_i (cat_i cat_nil))) (by simp) (by decide) (by first | decide | omega) (by first | decide | omega) (c_ceWait hL hC hE hA.ms.2.2) ?_
  refine ret_elim ?_
  refine go_aload_n (z := 503) dL_law_502 rfl rfl ?_
  refine go_aload_n (z := 504) dL_law_503 rfl rfl ?_
  refine go_iload_n (z := 505) dL_law_504 rfl rfl ?_
  refine go_iconst (z := 506) (v := 1) dL_law_505 rfl (by decide) ?_
  refine go_iadd (z := 507) dL_law_506 rfl ?_
  refine go_sld (z := 508) (4 * q + 1) (by omega) (nI_add (4 * q) 1) (by omega) dL_law_507 rfl ?_
  refine go_aload_n (z := 509) dL_law_508 rfl rfl ?_
  refine go_iload_n (z := 510) dL_law_509 rfl rfl ?_
  refine go_iconst (z := 511) (v := 2) dL_law_510 rfl (by decide) ?_
  refine go_iadd (z := 512) dL_law_511 rfl ?_
  refine go_sld (z := 513) (4 * q + 2) (by omega) (nI_add (4 * q) 2) (by omega) dL_law_512 rfl ?_
  refine go_aload_n (z := 514) dL_law_513 rfl rfl ?_
  refine go_iload_n (z := 515) dL_law_514 rfl rfl ?_
  refine go_iconst (z := 516) (v := 3) dL_law_515 rfl (by decide) ?_
  refine go_iadd (z := 517) dL_law_516 rfl ?_
  refine go_sld (z := 518) (4 * q + 3) (by omega) (nI_add (4 * q) 3) (by omega) dL_law_517 rfl ?_
  refine go_callV (z := 521) (t := 6) [.int (G.2.2.2.2 (4 * q + 1)), .int (G.2.2.2.2 (4 * q + 2)), .int (G.2.2.2.2 (4 * q + 3))] dL_law_518 rfl mlX6_waiting vL_81 ⟨by decide, rfl⟩ okM rfl rfl (by decide) (cat_i (cat_i (cat_i cat_nil))) (by simp) (by decide) (by first | decide | omega) (by first | decide | omega) (c_mWait hY hEk hR) ?_
  refine ret_elim ?_
  refine go_icmp_eq (z := 644) (z2 := 524) dL_law_521 rfl (by decide) (fun _ => ?_) (fun h => absurd rfl h)
  exact go_less (next _ _ _ _ _ _ (hS.more (by omega) (by omega))) (Nat.le_refl _) (by omega) (by omega)
theorem lw_c_msgR (hS : LwS G C K O E Gd A n i r) (hl : G.2.2.2.1 ≤ 2048) (hq : 4 * q + 4 ≤ G.2.2.2.1) (hK : K + 1969350 ≤ 2 ^ 30) (hO : O + 2500000 < 2 ^ 31) (hk : 60 ≤ k) (hj : 420 ≤ j) (next : LwN l G nm C K O (k - 60) (j - 420) q Q) : Go l G (mLw nm) 11 k j 526 (lwLo G C q) [] n i r Q := by
  have hL := hS.1.1
  have hC := hS.2.1.1
  have hE := hS.2.1.2.1
  obtain ⟨hgn, hgC, h60, hEk⟩ := hS.gn
  have hY := hS.2.2.1.1
  have hR := hS.2.2.1.2
  have hW := hS.2.2.2.1
  have hA := hS.2.2.2.2.1
  have hP := hS.2.2.2.2.2
  have hq0 := AInv.q hA.1 hE
  obtain ⟨T, hT, hI⟩ := id hA.1
  have okC := hL.1
  have okM := hY.1.1
  refine go_aload_n (z := 527) dL_law_526 rfl rfl ?_
  refine go_aload_n (z := 528) dL_law_527 rfl rfl ?_
  refine go_iload_n (z := 529) dL_law_528 rfl rfl ?_
  refine go_iconst (z := 530) (v := 1) dL_law_529 rfl (by decide) ?_
  refine go_iadd (z := 531) dL_law_530 rfl ?_
  refine go_sld (z := 532) (4 * q + 1) (by omega) (nI_add (4 * q) 1) (by omega) dL_law_531 rfl ?_
  refine go_aload_n (z := 533) dL_law_532 rfl rfl ?_
  refine go_iload_n (z := 534) dL_law_533 rfl rfl ?_
  refine go_iconst (z := 535) (v := 2) dL_law_534 rfl (by decide) ?_
  refine go_iadd (z := 536) dL_law_535 rfl ?_
  refine go_sld (z := 537) (4 * q + 2) (by omega) (nI_add (4 * q) 2) (by omega) dL_law_536 rfl ?_
  refine go_callV (z := 540) (t := 5) [.int (G.2.2.2.2 (4 * q + 1)), .int (G.2.2.2.2 (4 * q + 2))] dL_law_537 rfl mlX5_message vL_82 ⟨by decide, rfl⟩ okC rfl rfl (by decide) (cat_i (cat_i cat_nil)) (by simp) (by decide) (by first | decide | omega) (by first | decide | omega) (c_ceMsg hL hC hE hA.ms.2.1) ?_
  refine ret_elim ?_
  refine go_aload_n (z := 541) dL_law_540 rfl rfl ?_
  refine go_aload_n (z := 542) dL_law_541 rfl rfl ?_
  refine go_iload_n (z := 543) dL_law_542 rfl rfl ?_
  refine go_iconst (z := 544) (v := 1) dL_law_543 rfl (by decide) ?_
  refine go_iadd (z := 545) dL_law_544 rfl ?_
  refine go_sld (z := 546) (4 * q + 1) (by omega) (nI_add (4 * q) 1) (by omega) dL_law_545 rfl ?_
  refine go_aload_n (z := 547) dL_law_546 rfl rfl ?_
  refine go_iload_n (z := 548) dL_law_547 rfl rfl ?_
  refine go_iconst (z := 549) (v := 2) dL_law_548 rfl (by decide) ?_
  refine go_iadd (z := 550) dL_law_549 rfl ?_
  refine go_sld (z := 551) (4 * q + 2) (by omega) (nI_add (4 * q) 2) (by omega) dL_law_550 rfl ?_
  refine go_callV (z := 554) (t := 6) [.int (G.2.2.2.2 (4 * q + 1)), .int (G.2.2.2.2 (4 * q + 2))] dL_law_551 rfl mlX6_message vL_85 ⟨by decide, rfl⟩ okM rfl rfl (by decide) (cat_i (cat_i cat_nil)) (by simp) (by decide) (by first | decide | omega) (by first | decide | omega) (c_mMsg hY hEk hR (fun y hy => (hA.ms.1 y hy).2)) ?_
  refine ret_elim ?_
  refine go_icmp_eq (z := 644) (z2 := 557) dL_law_554 rfl (by decide) (fun _ => ?_) (fun h => absurd rfl h)
  exact go_less (next _ _ _ _ _ _ (hS.more (by omega) (by omega))) (Nat.le_refl _) (by omega) (by omega)
theorem lw_c_totR (hS : LwS G C K O E Gd A n i r) (hl : G.2.2.2.1 ≤ 2048) (hq : 4 * q + 4 ≤ G.2.2.2.1) (hK : K + 1969350 ≤ 2 ^ 30) (hO : O + 2500000 < 2 ^ 31) (hk : 60 ≤ k) (hj : 420 ≤ j) (next : LwN l G nm C K O (k - 60) (j - 420) q Q) : Go l G (mLw nm) 11 k j 559 (lwLo G C q) [] n i r Q := by
  have hL := hS.1.1
  have hC := hS.2.1.1
  have hE := hS.2.1.2.1
  obtain ⟨hgn, hgC, h60, hEk⟩ := hS.gn
  have hY := hS.2.2.1.1
  have hR := hS.2.2.1.2
  have hW := hS.2.2.2.1
  have hA := hS.2.2.2.2.1
  have hP := hS.2.2.2.2.2
  have hq0 := AInv.q hA.1 hE
  obtain ⟨T, hT, hI⟩ := id hA.1
  have okC := hL.1
  have okM := hY.1.1
  refine go_aload_n (z := 560) dL_law_559 rfl rfl ?_
  refine go_aload_n (z := 561) dL_law_560 rfl rfl ?_
  refine go_iload_n (z := 562) dL_law_561 rfl rfl ?_
  refine go_iconst (z := 563) (v := 1) dL_law_562 rfl (by decide) ?_
  refine go_iadd (z := 564) dL_law_563 rfl ?_
  refine go_sld (z := 565) (4 * q + 1) (by omega) (nI_add (4 * q) 1) (by omega) dL_law_564 rfl ?_
  refine go_callV (z := 568) (t := 5) [.int (G.2.2.2.2 (4 * q + 1))] dL_law_565 rfl mlX5_total vL_86 ⟨by decide, rfl⟩ okC rfl rfl (by decide) (cat_i cat_nil) (by simp) (by decide) (by first | decide | omega) (by first | decide | omega) (c_ceTot hL hC) ?_
  refine ret_elim ?_
  refine go_aload_n (z := 569) dL_law_568 rfl rfl ?_
  refine go_aload_n (z := 570) dL_law_569 rfl rfl ?_
  refine go_iload_n (z := 571) dL_law_570 rfl rfl ?_
  refine go_iconst (z := 572) (v := 1) dL_law_571 rfl (by decide) ?_
  refine go_iadd (z := 573) dL_law_572 rfl ?_
  refine go_sld (z := 574) (4 * q + 1) (by omega) (nI_add (4 * q) 1) (by omega) dL_law_573 rfl ?_
  refine go_callV (z := 577) (t := 6) [.int (G.2.2.2.2 (4 * q + 1))] dL_law_574 rfl mlX6_total vL_89 ⟨by decide, rfl⟩ okM rfl rfl (by decide) (cat_i cat_nil) (by simp) (by decide) (by first | decide | omega) (by first | decide | omega) (c_mTot hY hR) ?_
  refine ret_elim ?_
  refine go_icmp_eq (z := 644) (z2 := 580) dL_law_577 rfl (by decide) (fun _ => ?_) (fun h => absurd rfl h)
  exact go_less (next _ _ _ _ _ _ (hS.more (by omega) (by omega))) (Nat.le_refl _) (by omega) (by omega)
end LAWC
