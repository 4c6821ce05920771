/-! P25: the act that launches; an act -/
section ACT3
variable {l : Launch} {G : GG} {n : Nat} {i : IP} {r : RP} {C K T B : Nat} {E : EE} {Gd : Nat → Prop} {A : AP} {c0 c1 c3 la v w : Int32} {a b t : Nat}
theorem plan_v (h : aErr A = none) : aPlan A 0 = nI (aL A).length := by
  unfold aPlan
  rw [if_pos ⟨by decide, by decide⟩, h]
  rfl
theorem act_launch (hS : LawS G n C E Gd K T B c0 c1 c3 A i r) (hT : T + 100 ≤ 900000) (hla : la = A.1.1 10) : Go l G mL_act 9 120 840 383 (actLo C v w a b la) [] n i r (ActQ G n C K T B) := by
  have hD := hS.1
  have okC := hD.1.1
  have hT0 := hS.2.1
  obtain ⟨q0, q1, q3⟩ := hS.2.2.2.2.1
  obtain ⟨hCc, hCn, htag, hGn, hgd⟩ := hS.2.2.2.2.2
  have hN5 := lowN_lt (v := v >>> (4 &&& 31)) (N := 5) (by omega)
  obtain ⟨N, hN⟩ : ∃ N, N = 1 + lowN (v >>> (4 &&& 31)) 5 := ⟨_, rfl⟩
  have hty := c_types (l := l) (v := v >>> (4 &&& 31)) (w := w) hD
  rw [← hN] at hty
  refine go_aload_n (z := 384) dL_act_383 rfl rfl ?_
  refine go_iload_n (z := 385) dL_act_384 rfl rfl ?_
  refine go_iconst (z := 386) (v := 4) dL_act_385 rfl (by decide) ?_
  refine go_ishr (z := 387) dL_act_386 rfl ?_
  refine go_iload_n (z := 388) dL_act_387 rfl rfl ?_
  refine go_callS (z := 391) [.ref C, .int (v >>> (4 &&& 31)), .int w] dL_act_388 rfl mlL_types sL_93 rfl rfl (by decide) (cat_r (cat_i (cat_i cat_nil))) (by simp) (by decide) (by first | decide | omega) (by first | decide | omega) (hty) ?_
  rintro v1 n1 i1 r1 ⟨p1, p2, ho1, A1, e1, e2, hErr, hLen, hD1⟩
  rw [p1, p2]
  have hL1 := hD1.1
  have hC1 := hD1.2.1
  have hE1 := hD1.2.2.1
  have hT1 : A1.1.1 0 = nI T := by rw [e1]; exact hT0
  have hI1 := hD1.inv hT1 (by omega)
  have hms := hD1.2.2.2.2.1.ms
  refine go_istore (z := 393) dL_act_391 rfl (by decide) ?_
  refine go_aload_n (z := 394) dL_act_393 rfl rfl ?_
  refine go_iconst (z := 395) (v := 0) dL_act_394 rfl (by decide) ?_
  refine go_callV (z := 398) (t := 5) [.int 0] dL_act_395 rfl mlX5_planned vL_97 ⟨by decide, rfl⟩ okC rfl rfl (by decide) (cat_i cat_nil) (by simp) (by decide) (by first | decide | omega) (by first | decide | omega) (c_cePlan hL1 hC1 hE1 (by omega) (fun x hx => htag x (by omega)) hGn) ?_
  rintro v2 n2 i2 r2 ⟨p1, hn1, hn2, hC2, hE2, ho2⟩
  have hC2 : RepC C A1 i2 r2 := hC2
  have hE2 : RepE G n2 E Gd i2 r2 := hE2
  have p1 : v2 = some (.int (aPlan A1 0)) := p1
  rw [p1, plan_v hErr, hLen]
  have hL2 := hL1.mono hn1
  have okC2 := hL2.1
  have hgn : ∀ x, Gd x → x < n2 := fun x hx => (hE2 x hx).1.2.1
  have hcap := hD1.2.2.2.2.1.cap hE1.ok
  have h60 : A1.2.2.2.2.2 ≤ 60 := hC2.2.1.2.2.2.2.2
  refine go_istore (z := 400) dL_act_398 rfl (by decide) ?_
  refine go_aload_n (z := 401) dL_act_400 rfl rfl ?_
  refine go_iconst (z := 402) (v := 1) dL_act_401 rfl (by decide) ?_
  refine go_callV (z := 405) (t := 5) [.int 1] dL_act_402 rfl mlX5_total vL_30 ⟨by decide, rfl⟩ okC2 rfl rfl (by decide) (cat_i cat_nil) (by simp) (by decide) (by first | decide | omega) (by first | decide | omega) (c_ceTot hL2 hC2) ?_
  refine ret_elim ?_
  rw [show aTot A1 1 = A1.1.1 7 from rfl]
  refine go_istore (z := 407) dL_act_405 rfl (by decide) ?_
  refine go_aload_n (z := 408) dL_act_407 rfl rfl ?_
  refine go_bipush (z := 410) (v := 9) dL_act_408 rfl (by decide) ?_
  refine go_callV (z := 413) (t := 5) [.int 9] dL_act_410 rfl mlX5_total vL_30 ⟨by decide, rfl⟩ okC2 rfl rfl (by decide) (cat_i cat_nil) (by simp) (by decide) (by first | decide | omega) (by first | decide | omega) (c_ceTot hL2 hC2) ?_
  refine ret_elim ?_
  rw [show aTot A1 9 = A1.1.1 11 from rfl]
  refine go_istore (z := 415) dL_act_413 rfl (by decide) ?_
  refine go_aload_n (z := 416) dL_act_415 rfl rfl ?_
  refine go_callV (z := 419) (t := 5) [] dL_act_416 rfl mlX5_launch vL_100 ⟨by decide, rfl⟩ okC2 rfl rfl (by decide) cat_nil (by simp) (by decide) (by first | decide | omega) (by first | decide | omega) (c_ceLaunch hL2 hC2 hE2 hD1.2.2.2.1 (by omega) (fun x hx => htag x (by omega)) (by omega) hms.2.2 hms.2.1 hcap.1 (hcap.2 _)) ?_
  rintro v3 n3 i3 r3 ⟨p1, hn3, hn4, hC3, hE3, ho3⟩
  obtain ⟨hW3, hA3, hP3, hG3⟩ := hD1.2.2.2.2.1.launch hD1.2.2.2.2.2.1 hE1.ok hD1.2.2.2.2.2.2 hgn h60
  rw [p1]
  have hcc : i3 (C + 1105) = i (C + 1105) := (ho3 (C + 1105) (by omega)).1.trans ((ho2 (C + 1105) (by omega)).1.trans (ho1 (C + 1105) (by omega)).1)
  have hL3 := hL2.mono hn3
  have okC3 := hL3.1
  have hCI1 : CI 0 c0 c1 c3 B 0 (fun _ => 0) (fun _ => True) (fun _ => c3 = 0) A1.1 := by rw [e1]; exact hS.2.2.1
  have hWS1 : WS A1.1 := by rw [e1]; exact hS.2.2.2.1
  have hla1 : la = A1.1.1 10 := by rw [e1]; exact hla
  -- the end of it
  have fin : ∀ (A3 : AP) (E3 : EE) (Gd3 : Nat → Prop) (B3 : Nat), RepC C A3 i3 r3 → RepE G n3 E3 Gd3 i3 r3 → EW E3 Gd3 → AInv E3 Gd3 A3 → AllS (PI E3 (K + 1969350)) A3 → (∀ x, Gd3 x → Gd x ∨ n2 ≤ x) → A3.1.1 0 = nI T → CI 0 c0 c1 c3 B3 0 (fun _ => 0) (fun _ => True) (fun _ => c3 = 0) A3.1 → WS A3.1 → B3 ≤ B + 327680 → ActQ G n C K T B (some (.int 1)) n3 i3 r3 := by
    intro A3 E3 Gd3 B3 x1 x2 x3 x4 x5 x6 x7 x8 x9 x10
    have g3' : ∀ x, Gd3 x → C + 1106 ≤ x := fun x hx => by
      rcases x6 x hx with c | c
      · exact hgd x c
      · omega
    exact ⟨rfl, by omega, by omega, E3, Gd3, K + 1969350, T, B3, c0, c1, c3, A3, ⟨⟨hL3, x1, x2, fun x hx => by have := g3' x hx; omega, x4, x5, x3⟩, x7, x8, x9, ⟨by rw [hcc]; exact q0, by rw [hcc]; exact q1, by rw [hcc]; exact q3⟩, ⟨hCc.mono (by omega), by omega, htag, by omega, g3'⟩⟩, Nat.le_refl _, by omega, Nat.le_trans x10 (by rw [Nat.add_assoc]; exact Nat.add_le_add_left (Nat.le_add_left _ _) B)⟩
  by_cases hc : mAll E A1.1 + (aL A1).length ≤ 80
  · have eL : aLaunch E Gd n2 A1 = (nI (rootsOf n2 (aL A1)).length, aR A1 (mLaunch (eExt n2 (aL A1) E) (rootsOf n2 (aL A1)) A1.1), eExt n2 (aL A1) E, gExt n2 (aL A1) Gd) := by
      unfold aLaunch
      rw [hErr]
      exact if_pos hc
    rw [eL] at hC3 hE3 hW3 hA3 hP3 hG3 ⊢
    obtain ⟨f1, f2, f3, f4, f5⟩ := read_fi h60 hErr
    have hE' := hE1.ok.ext hgn f1 f2 f3
    have hs := roots_sum (n0 := n2) (E := E) f1
    have hr := roots_gd (n0 := n2) (Gd := Gd) f1
    have hR1 := hE'.line hr
    rw [hs, hLen] at hR1
    have hR0 : 1 ≤ (rootsOf n2 (aL A1)).length := by
      rcases Nat.eq_zero_or_pos (rootsOf n2 (aL A1)).length with c | c
      · rw [List.length_eq_zero_iff.mp c] at hs
        have hs : (0 : Nat) = (aL A1).length := hs
        omega
      · exact c
    obtain ⟨z10, z11, z7, z1⟩ := launch_z (E := eExt n2 (aL A1) E) (rootsOf n2 (aL A1)) A1.1
    obtain ⟨ww, w0⟩ := launch_w (E := eExt n2 (aL A1) E) (rootsOf n2 (aL A1)) A1.1
    have hcl := CI.launch (E := eExt n2 (aL A1) E) (rootsOf n2 (aL A1)) hCI1 hI1.1.2.2.1 hI1.1.2.2.2.1
    have hco : coin A1.1 = (1 : Int32) <<< (A1.1.1 1 &&& 31) := rfl
    generalize mLaunch (eExt n2 (aL A1) E) (rootsOf n2 (aL A1)) A1.1 = ml at *
    generalize (rootsOf n2 (aL A1)).length = R at *
    have hfin := fin (aR A1 ml) _ _ (B + 65536 * R) hC3 hE3 hW3 hA3 hP3 hG3 (w0.trans hT1) hcl (hWS1.of ww) (by omega)
    have hC3 : RepC C (aR A1 ml) i3 r3 := hC3
    refine go_istore (z := 421) dL_act_419 rfl (by decide) ?_
    refine go_iload (z := 423) dL_act_421 rfl rfl ?_
    refine go_iload (z := 425) dL_act_423 rfl rfl ?_
    refine go_icmp_ne (z := 452) (z2 := 428) dL_act_425 rfl (by decide) (fun q => absurd rfl q) (fun _ => ?_)
    refine go_iload (z := 430) dL_act_428 rfl rfl ?_
    refine go_bipush (z := 432) (v := (-3)) dL_act_430 rfl (by decide) ?_
    refine go_icmp_eq (z := 448) (z2 := 435) dL_act_432 rfl (by decide) (fun q => absurd (show nI R < 0 by rw [show nI R = -3 from q]; decide) (nI_pos (by omega))) (fun _ => ?_)
    refine go_iload (z := 437) dL_act_435 rfl rfl ?_
    refine go_iconst (z := 438) (v := 1) dL_act_437 rfl (by decide) ?_
    refine go_icmp_lt (z := 452) (z2 := 441) dL_act_438 rfl (by decide) (fun q => absurd q (nI_nlt (b := 1) (a := R) hR0 (by omega))) (fun _ => ?_)
    refine go_iload (z := 443) dL_act_441 rfl rfl ?_
    refine go_iload (z := 445) dL_act_443 rfl rfl ?_
    refine go_icmp_gt (z := 452) (z2 := 448) dL_act_445 rfl (by decide) (fun q => absurd q (nI_nlt hR1 (by omega))) (fun _ => ?_)
    refine go_iconst (z := 449) (v := 1) dL_act_448 rfl (by decide) ?_
    refine go_goto (z := 453) dL_act_449 (by decide) ?_
    refine go_istore (z := 455) dL_act_453 rfl (by decide) ?_
    refine go_iload (z := 457) dL_act_455 rfl rfl ?_
    refine go_if_ge (z := 464) (z2 := 460) dL_act_457 rfl (by decide) (fun _ => ?_) (fun q => absurd (nI_pos' (by omega)) q)
    refine go_iload (z := 466) dL_act_464 rfl rfl ?_
    refine go_iconst (z := 467) (v := 1) dL_act_466 rfl (by decide) ?_
    refine go_aload_n (z := 468) dL_act_467 rfl rfl ?_
    refine go_bipush (z := 470) (v := 13) dL_act_468 rfl (by decide) ?_
    refine go_callV (z := 473) (t := 5) [.int 13] dL_act_470 rfl mlX5_total vL_30 ⟨by decide, rfl⟩ okC3 rfl rfl (by decide) (cat_i cat_nil) (by simp) (by decide) (by first | decide | omega) (by first | decide | omega) (c_ceTot hL3 hC3) ?_
    refine ret_elim ?_
    rw [show aTot (aR A1 ml) 13 = ml.1 1 from rfl, z1]
    refine go_ishl (z := 474) dL_act_473 rfl rfl ?_
    refine go_imul (z := 475) dL_act_474 rfl ?_
    refine go_istore (z := 477) dL_act_475 rfl (by decide) ?_
    refine go_iload (z := 479) dL_act_477 rfl rfl ?_
    refine go_if_eq (z := 545) (z2 := 482) dL_act_479 rfl (by decide) (fun q => absurd q (by decide)) (fun _ => ?_)
    refine go_aload_n (z := 483) dL_act_482 rfl rfl ?_
    refine go_bipush (z := 485) (v := 8) dL_act_483 rfl (by decide) ?_
    refine go_callV (z := 488) (t := 5) [.int 8] dL_act_485 rfl mlX5_total vL_30 ⟨by decide, rfl⟩ okC3 rfl rfl (by decide) (cat_i cat_nil) (by simp) (by decide) (by first | decide | omega) (by first | decide | omega) (c_ceTot hL3 hC3) ?_
    refine ret_elim ?_
    rw [show aTot (aR A1 ml) 8 = ml.1 10 from rfl, z10]
    refine go_iload (z := 490) dL_act_488 rfl rfl ?_
    refine go_iload (z := 492) dL_act_490 rfl rfl ?_
    refine go_if_ge (z := 499) (z2 := 495) dL_act_492 rfl (by decide) (fun _ => ?_) (fun q => absurd (nI_pos' (by omega)) q)
    refine go_iload (z := 501) dL_act_499 rfl rfl ?_
    refine go_iadd (z := 502) dL_act_501 rfl ?_
    refine go_icmp_ne (z := 545) (z2 := 505) dL_act_502 rfl (by decide) (fun q => absurd (by rw [hla1]) q) (fun _ => ?_)
    refine go_aload_n (z := 506) dL_act_505 rfl rfl ?_
    refine go_bipush (z := 508) (v := 9) dL_act_506 rfl (by decide) ?_
    refine go_callV (z := 511) (t := 5) [.int 9] dL_act_508 rfl mlX5_total vL_30 ⟨by decide, rfl⟩ okC3 rfl rfl (by decide) (cat_i cat_nil) (by simp) (by decide) (by first | decide | omega) (by first | decide | omega) (c_ceTot hL3 hC3) ?_
    refine ret_elim ?_
    rw [show aTot (aR A1 ml) 9 = ml.1 11 from rfl, z11]
    refine go_iload (z := 513) dL_act_511 rfl rfl ?_
    refine go_iload (z := 515) dL_act_513 rfl rfl ?_
    refine go_if_ge (z := 522) (z2 := 518) dL_act_515 rfl (by decide) (fun _ => ?_) (fun q => absurd (nI_pos' (by omega)) q)
    refine go_iload (z := 524) dL_act_522 rfl rfl ?_
    refine go_iadd (z := 525) dL_act_524 rfl ?_
    refine go_icmp_ne (z := 545) (z2 := 528) dL_act_525 rfl (by decide) (fun q => absurd rfl q) (fun _ => ?_)
    refine go_aload_n (z := 529) dL_act_528 rfl rfl ?_
    refine go_iconst (z := 530) (v := 1) dL_act_529 rfl (by decide) ?_
    refine go_callV (z := 533) (t := 5) [.int 1] dL_act_530 rfl mlX5_total vL_30 ⟨by decide, rfl⟩ okC3 rfl rfl (by decide) (cat_i cat_nil) (by simp) (by decide) (by first | decide | omega) (by first | decide | omega) (c_ceTot hL3 hC3) ?_
    refine ret_elim ?_
    rw [show aTot (aR A1 ml) 1 = ml.1 7 from rfl, z7, hco]
    refine go_iload (z := 535) dL_act_533 rfl rfl ?_
    refine go_iload (z := 537) dL_act_535 rfl rfl ?_
    refine go_iadd (z := 538) dL_act_537 rfl ?_
    refine go_icmp_ne (z := 545) (z2 := 541) dL_act_538 rfl (by decide) (fun q => absurd rfl q) (fun _ => ?_)
    refine go_iconst (z := 542) (v := 1) dL_act_541 rfl (by decide) ?_
    refine go_goto (z := 546) dL_act_542 (by decide) ?_
    exact go_zret dL_act_546 rfl (congrArg Value.int (by decide)) hfin
  · have eL : aLaunch E Gd n2 A1 = (-3, A1, E, Gd) := by
      unfold aLaunch
      rw [hErr]
      exact if_neg hc
    rw [eL] at hC3 hE3 hW3 hA3 hP3 hG3 ⊢
    have hfin := fin A1 E Gd B hC3 hE3 hW3 hA3 hP3 hG3 hT1 hCI1 hWS1 (by omega)
    have hC3 : RepC C A1 i3 r3 := hC3
    refine go_istore (z := 421) dL_act_419 rfl (by decide) ?_
    refine go_iload (z := 423) dL_act_421 rfl rfl ?_
    refine go_iload (z := 425) dL_act_423 rfl rfl ?_
    refine go_icmp_ne (z := 452) (z2 := 428) dL_act_425 rfl (by decide) (fun q => absurd rfl q) (fun _ => ?_)
    refine go_iload (z := 430) dL_act_428 rfl rfl ?_
    refine go_bipush (z := 432) (v := (-3)) dL_act_430 rfl (by decide) ?_
    refine go_icmp_eq (z := 448) (z2 := 435) dL_act_432 rfl (by decide) (fun _ => ?_) (fun q => absurd rfl q)
    refine go_iconst (z := 449) (v := 1) dL_act_448 rfl (by decide) ?_
    refine go_goto (z := 453) dL_act_449 (by decide) ?_
    refine go_istore (z := 455) dL_act_453 rfl (by decide) ?_
    refine go_iload (z := 457) dL_act_455 rfl rfl ?_
    refine go_if_ge (z := 464) (z2 := 460) dL_act_457 rfl (by decide) (fun q => absurd (show (0 : Int32) ≤ -3 from q) (by decide)) (fun _ => ?_)
    refine go_iconst (z := 461) (v := 0) dL_act_460 rfl (by decide) ?_
    refine go_goto (z := 475) dL_act_461 (by decide) ?_
    refine go_istore (z := 477) dL_act_475 rfl (by decide) ?_
    refine go_iload (z := 479) dL_act_477 rfl rfl ?_
    refine go_if_eq (z := 545) (z2 := 482) dL_act_479 rfl (by decide) (fun q => absurd q (by decide)) (fun _ => ?_)
    refine go_aload_n (z := 483) dL_act_482 rfl rfl ?_
    refine go_bipush (z := 485) (v := 8) dL_act_483 rfl (by decide) ?_
    refine go_callV (z := 488) (t := 5) [.int 8] dL_act_485 rfl mlX5_total vL_30 ⟨by decide, rfl⟩ okC3 rfl rfl (by decide) (cat_i cat_nil) (by simp) (by decide) (by first | decide | omega) (by first | decide | omega) (c_ceTot hL3 hC3) ?_
    refine ret_elim ?_
    rw [show aTot A1 8 = A1.1.1 10 from rfl]
    refine go_iload (z := 490) dL_act_488 rfl rfl ?_
    refine go_iload (z := 492) dL_act_490 rfl rfl ?_
    refine go_if_ge (z := 499) (z2 := 495) dL_act_492 rfl (by decide) (fun q => absurd (show (0 : Int32) ≤ -3 from q) (by decide)) (fun _ => ?_)
    refine go_iconst (z := 496) (v := 0) dL_act_495 rfl (by decide) ?_
    refine go_goto (z := 501) dL_act_496 (by decide) ?_
    refine go_iadd (z := 502) dL_act_501 rfl ?_
    refine go_icmp_ne (z := 545) (z2 := 505) dL_act_502 rfl (by decide) (fun q => absurd (by rw [hla1, Int32.add_zero]) q) (fun _ => ?_)
    refine go_aload_n (z := 506) dL_act_505 rfl rfl ?_
    refine go_bipush (z := 508) (v := 9) dL_act_506 rfl (by decide) ?_
    refine go_callV (z := 511) (t := 5) [.int 9] dL_act_508 rfl mlX5_total vL_30 ⟨by decide, rfl⟩ okC3 rfl rfl (by decide) (cat_i cat_nil) (by simp) (by decide) (by first | decide | omega) (by first | decide | omega) (c_ceTot hL3 hC3) ?_
    refine ret_elim ?_
    rw [show aTot A1 9 = A1.1.1 11 from rfl]
    refine go_iload (z := 513) dL_act_511 rfl rfl ?_
    refine go_iload (z := 515) dL_act_513 rfl rfl ?_
    refine go_if_ge (z := 522) (z2 := 518) dL_act_515 rfl (by decide) (fun q => absurd (show (0 : Int32) ≤ -3 from q) (by decide)) (fun _ => ?_)
    refine go_iconst (z := 519) (v := 0) dL_act_518 rfl (by decide) ?_
    refine go_goto (z := 524) dL_act_519 (by decide) ?_
    refine go_iadd (z := 525) dL_act_524 rfl ?_
    refine go_icmp_ne (z := 545) (z2 := 528) dL_act_525 rfl (by decide) (fun q => absurd (Int32.add_zero _).symm q) (fun _ => ?_)
    refine go_aload_n (z := 529) dL_act_528 rfl rfl ?_
    refine go_iconst (z := 530) (v := 1) dL_act_529 rfl (by decide) ?_
    refine go_callV (z := 533) (t := 5) [.int 1] dL_act_530 rfl mlX5_total vL_30 ⟨by decide, rfl⟩ okC3 rfl rfl (by decide) (cat_i cat_nil) (by simp) (by decide) (by first | decide | omega) (by first | decide | omega) (c_ceTot hL3 hC3) ?_
    refine ret_elim ?_
    rw [show aTot A1 1 = A1.1.1 7 from rfl]
    refine go_iload (z := 535) dL_act_533 rfl rfl ?_
    refine go_iload (z := 537) dL_act_535 rfl rfl ?_
    refine go_iadd (z := 538) dL_act_537 rfl ?_
    refine go_icmp_ne (z := 545) (z2 := 541) dL_act_538 rfl (by decide) (fun q => absurd (Int32.add_zero _).symm q) (fun _ => ?_)
    refine go_iconst (z := 542) (v := 1) dL_act_541 rfl (by decide) ?_
    refine go_goto (z := 546) dL_act_542 (by decide) ?_
    exact go_zret dL_act_546 rfl (congrArg Value.int (by decide)) hfin
theorem c_act (hS : LawS G n C E Gd K T B c0 c1 c3 A i r) (hT : T + 100 ≤ 900000) (hK : K ≤ 2 ^ 30) (hB : ∀ t, t ≤ 100 → B + tB * t + 65536 < 2 ^ 31) : Go l G mL_act 9 120 840 0 (lentry [.ref C, .int v, .int w, .ref (C + 1105)] 14) [] n i r (ActQ G n C K T B) := by
  have hD := hS.1
  have okC := hD.1.1
  have hL := hD.1
  have hC := hD.2.1
  have hB0 : B < 2 ^ 31 := Nat.lt_of_le_of_lt (Nat.le_trans (Nat.le_add_right B (tB * 0)) (Nat.le_add_right _ 65536)) (hB 0 (Nat.zero_le _))
  have ha := lowN_lt (v := w) (N := 6) (by omega)
  have hb := lowN_lt (v := w >>> (3 &&& 31)) (N := 6) (by omega)
  have hs := lowN_lt (v := v) (N := 14) (by omega)
  refine go_iload_n (z := 1) dL_act_0 rfl rfl ?_
  refine go_bipush (z := 3) (v := 6) dL_act_1 rfl (by decide) ?_
  refine go_callS (z := 6) [.int w, .int (nI 6)] dL_act_3 rfl mlL_low sL_20 rfl rfl (by decide) (cat_i (cat_i cat_nil)) (by simp) (by decide) (by first | decide | omega) (by first | decide | omega) (c_low (by omega) (by omega)) ?_
  refine ret_elim ?_
  refine go_istore (z := 8) dL_act_6 rfl (by decide) ?_
  refine go_iload_n (z := 9) dL_act_8 rfl rfl ?_
  refine go_iconst (z := 10) (v := 3) dL_act_9 rfl (by decide) ?_
  refine go_ishr (z := 11) dL_act_10 rfl ?_
  refine go_bipush (z := 13) (v := 6) dL_act_11 rfl (by decide) ?_
  refine go_callS (z := 16) [.int (w >>> (3 &&& 31)), .int (nI 6)] dL_act_13 rfl mlL_low sL_20 rfl rfl (by decide) (cat_i (cat_i cat_nil)) (by simp) (by decide) (by first | decide | omega) (by first | decide | omega) (c_low (by omega) (by omega)) ?_
  refine ret_elim ?_
  refine go_istore (z := 18) dL_act_16 rfl (by decide) ?_
  refine go_aload_n (z := 19) dL_act_18 rfl rfl ?_
  refine go_bipush (z := 21) (v := 8) dL_act_19 rfl (by decide) ?_
  refine go_callV (z := 24) (t := 5) [.int 8] dL_act_21 rfl mlX5_total vL_30 ⟨by decide, rfl⟩ okC rfl rfl (by decide) (cat_i cat_nil) (by simp) (by decide) (by first | decide | omega) (by first | decide | omega) (c_ceTot hL hC) ?_
  refine ret_elim ?_
  rw [show aTot A 8 = A.1.1 10 from rfl]
  refine go_istore (z := 26) dL_act_24 rfl (by decide) ?_
  refine go_iload_n (z := 27) dL_act_26 rfl rfl ?_
  refine go_bipush (z := 29) (v := 14) dL_act_27 rfl (by decide) ?_
  refine go_callS (z := 32) [.int v, .int (nI 14)] dL_act_29 rfl mlL_low sL_20 rfl rfl (by decide) (cat_i (cat_i cat_nil)) (by simp) (by decide) (by first | decide | omega) (by first | decide | omega) (c_low (by omega) (by omega)) ?_
  refine ret_elim ?_
  refine go_tabS (z := 757) dL_act_32 (by decide) (fun _ => go_lo rfl (act_pass hS hT hK hB)) (fun q hq h0 h7 => ?_)
  rcases (show q = 0 ∨ q = 1 ∨ q = 2 ∨ q = 3 ∨ q = 4 ∨ q = 5 ∨ q = 6 ∨ q = 7 by omega) with rfl | rfl | rfl | rfl | rfl | rfl | rfl | rfl
  · refine go_tabIn (z := 80) 0 dL_act_32 hq (by decide) (by decide) rfl (by decide) ?_
    exact go_lo rfl (act_time hS ha hb)
  · refine go_tabIn (z := 195) 1 dL_act_32 hq (by decide) (by decide) rfl (by decide) ?_
    exact go_lo rfl (act_bank hS ha)
  · refine go_tabIn (z := 258) 2 dL_act_32 hq (by decide) (by decide) rfl (by decide) ?_
    exact go_lo rfl (act_set hS)
  · refine go_tabIn (z := 383) 3 dL_act_32 hq (by decide) (by decide) rfl (by decide) ?_
    exact go_lo rfl (act_launch hS hT rfl)
  · refine go_tabIn (z := 383) 4 dL_act_32 hq (by decide) (by decide) rfl (by decide) ?_
    exact go_lo rfl (act_launch hS hT rfl)
  · refine go_tabIn (z := 383) 5 dL_act_32 hq (by decide) (by decide) rfl (by decide) ?_
    exact go_lo rfl (act_launch hS hT rfl)
  · refine go_tabIn (z := 547) 6 dL_act_32 hq (by decide) (by decide) rfl (by decide) ?_
    exact go_lo rfl (act_lose hS hT hB0)
  · refine go_tabIn (z := 676) 7 dL_act_32 hq (by decide) (by decide) rfl (by decide) ?_
    exact go_lo rfl (act_good hS hT hB0)
end ACT3
