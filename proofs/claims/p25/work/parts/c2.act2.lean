/-! P25: the acts that pass, lose, make good -/
theorem aR_1 {A : AP} {m : MS} : (aR A m).1 = m := rfl
section ACT2
variable {l : Launch} {G : GG} {n : Nat} {i : IP} {r : RP} {C K T B : Nat} {E : EE} {Gd : Nat → Prop} {A : AP} {c0 c1 c3 la v w : Int32} {a b t : Nat}
theorem act_pass (hS : LawS G n C E Gd K T B c0 c1 c3 A i r) (hT : T + 100 ≤ 900000) (hK : K ≤ 2 ^ 30) (hB : ∀ t, t ≤ 100 → B + tB * t + 65536 < 2 ^ 31) : Go l G mL_act 9 120 840 757 (actLo C v w a b la) [] n i r (ActQ G n C K T B) := by
  have hD := hS.1
  have okC := hD.1.1
  have hL := hD.1
  have hC := hD.2.1
  have hT0 := hS.2.1
  have hI := hD.inv hT0 (by omega)
  have hE := hD.2.2.1.ok
  have c780 : ∀ c, 1 ≤ c → c ≤ 100 → Go l G mL_act 9 120 840 780 (actLo C v w a b la) [.int (nI c)] n i r (ActQ G n C K T B) := by
    intro c h1 h2
    have hA1 := hD.2.2.2.2.1.pass hE (nI c)
    have hP1 := PA.pass hD.2.2.2.2.2.1 hD.2.2.2.2.1 hE hD.2.2.2.2.2.2 hK (nI c)
    rw [pass_eq hI hE h1 h2 (by omega)] at hA1 hP1
    refine go_istore (z := 782) dL_act_780 rfl (by decide) ?_
    refine go_aload_n (z := 783) dL_act_782 rfl rfl ?_
    refine go_iconst (z := 784) (v := 0) dL_act_783 rfl (by decide) ?_
    refine go_callV (z := 787) (t := 5) [.int 0] dL_act_784 rfl mlX5_total vL_30 ⟨by decide, rfl⟩ okC rfl rfl (by decide) (cat_i cat_nil) (by simp) (by decide) (by first | decide | omega) (by first | decide | omega) (c_ceTot hL hC) ?_
    refine ret_elim ?_
    rw [tot_v.1, hT0]
    refine go_istore (z := 789) dL_act_787 rfl (by decide) ?_
    refine go_aload_n (z := 790) dL_act_789 rfl rfl ?_
    refine go_iload (z := 792) dL_act_790 rfl rfl ?_
    refine go_callV (z := 795) (t := 5) [.int (nI c)] dL_act_792 rfl mlX5_pass vL_59 ⟨by decide, rfl⟩ okC rfl rfl (by decide) (cat_i cat_nil) (by simp) (by decide) (by first | decide | omega) (by first | decide | omega) (c_dsPass hD hT0 hK h1 h2 (by omega)) ?_
    rintro v1 n1 i1 r1 ⟨p1, p2, ho1, h1'⟩
    rw [p1, p2]
    have hL1 := h1'.1
    have hC1 := h1'.2.1
    have hTc : (aR A (mTicks E c A.1)).1.1 0 = nI (T + c) := (hI.ticks hE c (by omega)).2.1.1
    have fin : ActQ G n C K T B (some (.int 1)) n i1 r1 := act_fin hS ho1 hC1 hA1 hP1 (T1 := T + c) (B1 := B + tB * c) hTc (hS.2.2.1.ticks hE hD.2.2.2.2.2.2 hK c hI (by omega) hD.2.2.2.2.2.1.1 (hB c h2)) (hS.2.2.2.1.of (ticks_w c _)) (by omega) (Nat.le_trans (Nat.add_le_add_left (Nat.mul_le_mul (Nat.le_refl tB) h2) B) (Nat.le_add_right _ _))
    refine go_iload (z := 797) dL_act_795 rfl rfl ?_
    refine go_iload (z := 799) dL_act_797 rfl rfl ?_
    refine go_iadd (z := 800) dL_act_799 rfl ?_
    rw [nI_add]
    refine go_icmp_ne (z := 820) (z2 := 803) dL_act_800 rfl (by decide) (fun q => absurd rfl q) (fun _ => ?_)
    refine go_aload_n (z := 804) dL_act_803 rfl rfl ?_
    refine go_iconst (z := 805) (v := 0) dL_act_804 rfl (by decide) ?_
    refine go_callV (z := 808) (t := 5) [.int 0] dL_act_805 rfl mlX5_total vL_30 ⟨by decide, rfl⟩ okC rfl rfl (by decide) (cat_i cat_nil) (by simp) (by decide) (by first | decide | omega) (by first | decide | omega) (c_ceTot hL1 hC1) ?_
    refine ret_elim ?_
    rw [tot_v.1, hTc]
    refine go_iload (z := 810) dL_act_808 rfl rfl ?_
    refine go_iload (z := 812) dL_act_810 rfl rfl ?_
    refine go_iadd (z := 813) dL_act_812 rfl ?_
    rw [nI_add]
    refine go_icmp_ne (z := 820) (z2 := 816) dL_act_813 rfl (by decide) (fun q => absurd rfl q) (fun _ => ?_)
    refine go_iconst (z := 817) (v := 1) dL_act_816 rfl (by decide) ?_
    refine go_goto (z := 821) dL_act_817 (by decide) ?_
    exact go_zret dL_act_821 rfl (congrArg Value.int (by decide)) fin
  have c776 : ∀ M, 0 < M → M ≤ 100 → Go l G mL_act 9 120 840 776 (actLo C v w a b la) [.int (nI M), .int w, .int 1] n i r (ActQ G n C K T B) := by
    intro M m1 m2
    have hlo := lowN_lt (v := w) m1
    refine go_callS (z := 779) [.int w, .int (nI M)] dL_act_776 rfl mlL_low sL_20 rfl rfl (by decide) (cat_i (cat_i cat_nil)) (by simp) (by decide) (by first | decide | omega) (by first | decide | omega) (c_low m1 (by omega)) ?_
    refine ret_elim ?_
    refine go_iadd (z := 780) dL_act_779 rfl ?_
    rw [show (1 : Int32) + nI (lowN w M) = nI (1 + lowN w M) from nI_add 1 _]
    exact go_lo rfl (c780 _ (by omega) (by omega))
  refine go_iconst (z := 758) (v := 1) dL_act_757 rfl (by decide) ?_
  refine go_iload_n (z := 759) dL_act_758 rfl rfl ?_
  refine go_iload_n (z := 760) dL_act_759 rfl rfl ?_
  refine go_bipush (z := 762) (v := 7) dL_act_760 rfl (by decide) ?_
  refine go_ishr (z := 763) dL_act_762 rfl ?_
  refine go_iconst (z := 764) (v := 4) dL_act_763 rfl (by decide) ?_
  refine go_callS (z := 767) [.int (w >>> (7 &&& 31)), .int (nI 4)] dL_act_764 rfl mlL_low sL_20 rfl rfl (by decide) (cat_i (cat_i cat_nil)) (by simp) (by decide) (by first | decide | omega) (by first | decide | omega) (c_low (by omega) (by omega)) ?_
  refine ret_elim ?_
  refine go_if_ne (z := 775) (z2 := 770) dL_act_767 rfl (by decide) (fun _ => ?_) (fun _ => ?_)
  · refine go_iconst (z := 776) (v := 5) dL_act_775 rfl (by decide) ?_
    exact go_lo rfl (c776 5 (by omega) (by omega))
  · refine go_bipush (z := 772) (v := 100) dL_act_770 rfl (by decide) ?_
    refine go_goto (z := 776) dL_act_772 (by decide) ?_
    exact go_lo rfl (c776 100 (by omega) (by omega))
theorem act_good (hS : LawS G n C E Gd K T B c0 c1 c3 A i r) (hT : T + 100 ≤ 900000) (hB : B < 2 ^ 31) : Go l G mL_act 9 120 840 676 (actLo C v w a b la) [] n i r (ActQ G n C K T B) := by
  have hD := hS.1
  have okC := hD.1.1
  have hL := hD.1
  have hC := hD.2.1
  have hT0 := hS.2.1
  have hI := hD.inv hT0 (by omega)
  have hE := hD.2.2.1.ok
  have hz : A.1.1 13 = c3 := hS.2.2.1.1.2.2.2.1
  obtain ⟨q0, q1, q3⟩ := hS.2.2.2.2.1
  have hCc := hS.2.2.2.2.2.1
  have hA1 := hD.2.2.2.2.1.good hE
  have hP1 := PA.good hD.2.2.2.2.2.1 hD.2.2.2.2.1 hE
  refine go_aload_n (z := 677) dL_act_676 rfl rfl ?_
  refine go_iconst (z := 678) (v := 5) dL_act_677 rfl (by decide) ?_
  refine go_callV (z := 681) (t := 5) [.int 5] dL_act_678 rfl mlX5_total vL_30 ⟨by decide, rfl⟩ okC rfl rfl (by decide) (cat_i cat_nil) (by simp) (by decide) (by first | decide | omega) (by first | decide | omega) (c_ceTot hL hC) ?_
  refine ret_elim ?_
  rw [show aTot A 5 = A.1.1 9 from rfl]
  refine go_istore (z := 683) dL_act_681 rfl (by decide) ?_
  refine go_aload_n (z := 684) dL_act_683 rfl rfl ?_
  refine go_iconst (z := 685) (v := 2) dL_act_684 rfl (by decide) ?_
  refine go_callV (z := 688) (t := 5) [.int 2] dL_act_685 rfl mlX5_total vL_30 ⟨by decide, rfl⟩ okC rfl rfl (by decide) (cat_i cat_nil) (by simp) (by decide) (by first | decide | omega) (by first | decide | omega) (c_ceTot hL hC) ?_
  refine ret_elim ?_
  rw [show aTot A 2 = A.1.1 8 from rfl]
  refine go_istore (z := 690) dL_act_688 rfl (by decide) ?_
  refine go_aload_n (z := 691) dL_act_690 rfl rfl ?_
  refine go_callV (z := 694) (t := 5) [] dL_act_691 rfl mlX5_makeGood vL_106 ⟨by decide, rfl⟩ okC rfl rfl (by decide) cat_nil (by simp) (by decide) (by first | decide | omega) (by first | decide | omega) (c_ceGood hL hC hD.2.2.1 hD.2.2.2.1 (AInv.q hD.2.2.2.2.1.1 hD.2.2.1) (hI.good hE (Nat.le_refl _)).1) ?_
  rintro v1 n1 i1 r1 ⟨p1, p2, hC1, ho1⟩
  rw [p1, p2]
  have hcc := (ho1 (C + 1105) (by omega)).1
  by_cases hc : c3 = 0
  · have e : aGood E A = (-5, A) := if_pos (by rw [hz]; exact hc)
    rw [e] at hC1 hA1 hP1 ⊢
    have fin : ActQ G n C K T B (some (.int 1)) n i1 r1 := act_fin hS ho1 hC1 hA1 hP1 (T1 := T) (B1 := B) hT0 hS.2.2.1 hS.2.2.2.1 (by omega) (by omega)
    refine go_istore (z := 696) dL_act_694 rfl (by decide) ?_
    refine go_aload_n (z := 697) dL_act_696 rfl rfl ?_
    refine go_iconst (z := 698) (v := 3) dL_act_697 rfl (by decide) ?_
    refine go_iald (z := 699) 3 hCc (by decide) rfl (by omega) dL_act_698 rfl ?_
    rw [hcc, q3, hc]
    refine go_if_ne (z := 715) (z2 := 702) dL_act_699 rfl (by decide) (fun q => absurd rfl q) (fun _ => ?_)
    refine go_iload (z := 704) dL_act_702 rfl rfl ?_
    refine go_bipush (z := 706) (v := (-5)) dL_act_704 rfl (by decide) ?_
    refine go_icmp_ne (z := 713) (z2 := 709) dL_act_706 rfl (by decide) (fun q => absurd rfl q) (fun _ => ?_)
    refine go_iconst (z := 710) (v := 1) dL_act_709 rfl (by decide) ?_
    refine go_goto (z := 714) dL_act_710 (by decide) ?_
    exact go_zret dL_act_714 rfl (congrArg Value.int (by decide)) fin
  · have e : aGood E A = (A.1.1 9, aR A (mGood E A.1)) := if_neg (by rw [hz]; exact hc)
    rw [e] at hC1 hA1 hP1 ⊢
    obtain ⟨g1, g2⟩ := good_zw (E := E) (m := A.1)
    have f9 : (mGood E A.1).1 9 = 0 := by
      rw [g1]
      rfl
    have f8 : (mGood E A.1).1 8 = A.1.1 8 + A.1.1 9 := by
      rw [g1]
      rfl
    have f0 : (mGood E A.1).1 0 = nI T := by
      rw [g1]
      exact hT0
    have hI1 : CI 0 c0 c1 0 B 0 (fun _ => 0) (fun _ => True) (fun _ => (0 : Int32) = 0) (mGood E A.1) := (hS.2.2.1.good hI hE hB).reW (fun _ _ k => Or.inl k) (fun _ _ _ => Or.inl trivial)
    clear g1 e
    generalize mGood E A.1 = mg at hC1 hA1 hP1 f9 f8 f0 hI1 g2 ⊢
    refine go_istore (z := 696) dL_act_694 rfl (by decide) ?_
    refine go_aload_n (z := 697) dL_act_696 rfl rfl ?_
    refine go_iconst (z := 698) (v := 3) dL_act_697 rfl (by decide) ?_
    refine go_iald (z := 699) 3 hCc (by decide) rfl (by omega) dL_act_698 rfl ?_
    rw [hcc, q3]
    refine go_if_ne (z := 715) (z2 := 702) dL_act_699 rfl (by decide) (fun _ => ?_) (fun q => absurd q hc)
    refine go_aload_n (z := 716) dL_act_715 rfl rfl ?_
    refine go_iconst (z := 717) (v := 2) dL_act_716 rfl (by decide) ?_
    refine go_iconst (z := 718) (v := 1) dL_act_717 rfl (by decide) ?_
    refine go_iast (z := 719) 2 hCc (by decide) rfl (by omega) dL_act_718 rfl ?_
    refine go_aload_n (z := 720) dL_act_719 rfl rfl ?_
    refine go_iconst (z := 721) (v := 3) dL_act_720 rfl (by decide) ?_
    refine go_iconst (z := 722) (v := 0) dL_act_721 rfl (by decide) ?_
    refine go_iast (z := 723) 3 hCc (by decide) rfl (by omega) dL_act_722 rfl ?_
    obtain ⟨i2, hi2⟩ : ∃ i2, i2 = ups (ups i1 (C + 1105) 2 1) (C + 1105) 3 0 := ⟨_, rfl⟩
    rw [← hi2]
    have fin : ActQ G n C K T B (some (.int 1)) n i2 r1 := by
      refine act_finC hS ho1 hC1 hA1 hP1 (T1 := T) (B1 := B) (d0 := c0) (d1 := c1) (d3 := 0) f0 hI1 (hS.2.2.2.1.of g2) (fun x hx => ?_) ?_ ?_ ?_ (by omega) (by omega)
      · rw [hi2, ups_row hx, ups_row hx]
      · rw [hi2, ups_k (by decide), ups_k (by decide), hcc]; exact q0
      · rw [hi2, ups_k (by decide), ups_k (by decide), hcc]; exact q1
      · rw [hi2]; exact ups_s
    have hC2 : RepC C (aR A mg) i2 r1 := hC1.same (fun x x1 x2 => ⟨by rw [hi2, ups_row (by omega), ups_row (by omega)], rfl⟩)
    refine go_iload (z := 725) dL_act_723 rfl rfl ?_
    refine go_iload (z := 727) dL_act_725 rfl rfl ?_
    refine go_icmp_ne (z := 755) (z2 := 730) dL_act_727 rfl (by decide) (fun q => absurd rfl q) (fun _ => ?_)
    refine go_aload_n (z := 731) dL_act_730 rfl rfl ?_
    refine go_iconst (z := 732) (v := 5) dL_act_731 rfl (by decide) ?_
    refine go_callV (z := 735) (t := 5) [.int 5] dL_act_732 rfl mlX5_total vL_30 ⟨by decide, rfl⟩ okC rfl rfl (by decide) (cat_i cat_nil) (by simp) (by decide) (by first | decide | omega) (by first | decide | omega) (c_ceTot hL hC2) ?_
    refine ret_elim ?_
    rw [show aTot (aR A mg) 5 = mg.1 9 from rfl, f9]
    refine go_if_ne (z := 755) (z2 := 738) dL_act_735 rfl (by decide) (fun q => absurd rfl q) (fun _ => ?_)
    refine go_aload_n (z := 739) dL_act_738 rfl rfl ?_
    refine go_iconst (z := 740) (v := 2) dL_act_739 rfl (by decide) ?_
    refine go_callV (z := 743) (t := 5) [.int 2] dL_act_740 rfl mlX5_total vL_30 ⟨by decide, rfl⟩ okC rfl rfl (by decide) (cat_i cat_nil) (by simp) (by decide) (by first | decide | omega) (by first | decide | omega) (c_ceTot hL hC2) ?_
    refine ret_elim ?_
    rw [show aTot (aR A mg) 2 = mg.1 8 from rfl, f8]
    refine go_iload (z := 745) dL_act_743 rfl rfl ?_
    refine go_iload (z := 747) dL_act_745 rfl rfl ?_
    refine go_iadd (z := 748) dL_act_747 rfl ?_
    refine go_icmp_ne (z := 755) (z2 := 751) dL_act_748 rfl (by decide) (fun q => absurd rfl q) (fun _ => ?_)
    refine go_iconst (z := 752) (v := 1) dL_act_751 rfl (by decide) ?_
    refine go_goto (z := 756) dL_act_752 (by decide) ?_
    exact go_zret dL_act_756 rfl (congrArg Value.int (by decide)) fin
theorem act_lose (hS : LawS G n C E Gd K T B c0 c1 c3 A i r) (hT : T + 100 ≤ 900000) (hB : B < 2 ^ 31) : Go l G mL_act 9 120 840 547 (actLo C v w a b la) [] n i r (ActQ G n C K T B) := by
  have hD := hS.1
  have okC := hD.1.1
  have hL := hD.1
  have hC := hD.2.1
  have hT0 := hS.2.1
  have hI := hD.inv hT0 (by omega)
  have hE := hD.2.2.1
  obtain ⟨-, -, -, hgQ, hgM, hlen⟩ := hD.vw
  obtain ⟨q0, q1, q3⟩ := hS.2.2.2.2.1
  have hCc := hS.2.2.2.2.2.1
  have hms := hD.2.2.2.2.1.ms
  refine go_iload_n (z := 548) dL_act_547 rfl rfl ?_
  refine go_aload_n (z := 549) dL_act_548 rfl rfl ?_
  refine go_bipush (z := 551) (v := 6) dL_act_549 rfl (by decide) ?_
  refine go_callV (z := 554) (t := 5) [.int 6] dL_act_551 rfl mlX5_total vL_30 ⟨by decide, rfl⟩ okC rfl rfl (by decide) (cat_i cat_nil) (by simp) (by decide) (by first | decide | omega) (by first | decide | omega) (c_ceTot hL hC) ?_
  refine ret_elim ?_
  rw [show aTot A 6 = nI A.1.2.2.2.2.length from rfl]
  refine go_iconst (z := 555) (v := 1) dL_act_554 rfl (by decide) ?_
  refine go_iadd (z := 556) dL_act_555 rfl ?_
  rw [show nI A.1.2.2.2.2.length + 1 = nI (A.1.2.2.2.2.length + 1) from nI_1 _]
  have hk := lowN_lt (v := w) (N := A.1.2.2.2.2.length + 1) (by omega)
  refine go_callS (z := 559) [.int w, .int (nI (A.1.2.2.2.2.length + 1))] dL_act_556 rfl mlL_low sL_20 rfl rfl (by decide) (cat_i (cat_i cat_nil)) (by simp) (by decide) (by first | decide | omega) (by first | decide | omega) (c_low (by omega) (by omega)) ?_
  refine ret_elim ?_
  refine go_istore (z := 561) dL_act_559 rfl (by decide) ?_
  generalize lowN w (A.1.2.2.2.2.length + 1) = k at hk ⊢
  have hA1 := hD.2.2.2.2.1.lose (nI k)
  have hP1 := PA.lose hD.2.2.2.2.2.1 hD.2.2.2.2.1 (nI k)
  have eL : aLose A (nI k) = aLoseO A k A.1.2.2.2.2[k]? := by
    unfold aLose
    rw [if_neg (nI_pos (by omega)), nI_clamp (by omega)]
  rw [eL] at hA1 hP1
  cases hx : A.1.2.2.2.2[k]? with
  | none =>
    rw [hx] at eL hA1 hP1
    refine go_aload_n (z := 562) dL_act_561 rfl rfl ?_
    refine go_iload (z := 564) dL_act_562 rfl rfl ?_
    refine go_iconst (z := 565) (v := 0) dL_act_564 rfl (by decide) ?_
    refine go_callV (z := 568) (t := 5) [.int (nI k), .int 0] dL_act_565 rfl mlX5_message vL_34 ⟨by decide, rfl⟩ okC rfl rfl (by decide) (cat_i (cat_i cat_nil)) (by simp) (by decide) (by first | decide | omega) (by first | decide | omega) (c_ceMsg hL hC hE hgM) ?_
    refine ret_elim ?_
    rw [msg_out hx (by omega) (by decide) (by decide)]
    refine go_istore (z := 570) dL_act_568 rfl (by decide) ?_
    refine go_aload_n (z := 571) dL_act_570 rfl rfl ?_
    refine go_iload (z := 573) dL_act_571 rfl rfl ?_
    refine go_iconst (z := 574) (v := 3) dL_act_573 rfl (by decide) ?_
    refine go_callV (z := 577) (t := 5) [.int (nI k), .int 3] dL_act_574 rfl mlX5_message vL_34 ⟨by decide, rfl⟩ okC rfl rfl (by decide) (cat_i (cat_i cat_nil)) (by simp) (by decide) (by first | decide | omega) (by first | decide | omega) (c_ceMsg hL hC hE hgM) ?_
    refine ret_elim ?_
    rw [msg_out hx (by omega) (by decide) (by decide)]
    refine go_istore (z := 579) dL_act_577 rfl (by decide) ?_
    refine go_aload_n (z := 580) dL_act_579 rfl rfl ?_
    refine go_iconst (z := 581) (v := 5) dL_act_580 rfl (by decide) ?_
    refine go_callV (z := 584) (t := 5) [.int 5] dL_act_581 rfl mlX5_total vL_30 ⟨by decide, rfl⟩ okC rfl rfl (by decide) (cat_i cat_nil) (by simp) (by decide) (by first | decide | omega) (by first | decide | omega) (c_ceTot hL hC) ?_
    refine ret_elim ?_
    rw [show aTot A 5 = A.1.1 9 from rfl]
    refine go_istore (z := 586) dL_act_584 rfl (by decide) ?_
    refine go_aload_n (z := 587) dL_act_586 rfl rfl ?_
    refine go_iload (z := 589) dL_act_587 rfl rfl ?_
    refine go_callV (z := 592) (t := 5) [.int (nI k)] dL_act_589 rfl mlX5_lose vL_103 ⟨by decide, rfl⟩ okC rfl rfl (by decide) (cat_i cat_nil) (by simp) (by decide) (by first | decide | omega) (by first | decide | omega) (c_ceLose hL hC (AInv.q hD.2.2.2.2.1.1 hE) (fun y hy => (hms.1 y hy).1)) ?_
    rintro v1 n1 i1 r1 ⟨p1, p2, hC1, ho1⟩
    rw [eL] at p1 hC1
    rw [p1, p2]
    have fin : ActQ G n C K T B (some (.int 1)) n i1 r1 := act_fin hS ho1 hC1 hA1 hP1 (T1 := T) (B1 := B) hT0 hS.2.2.1 hS.2.2.2.1 (by omega) (by omega)
    refine go_istore (z := 594) dL_act_592 rfl (by decide) ?_
    refine go_iload (z := 596) dL_act_594 rfl rfl ?_
    refine go_bipush (z := 598) (v := (-5)) dL_act_596 rfl (by decide) ?_
    refine go_icmp_ne (z := 613) (z2 := 601) dL_act_598 rfl (by decide) (fun q => absurd rfl q) (fun _ => ?_)
    refine go_iload (z := 603) dL_act_601 rfl rfl ?_
    refine go_iconst (z := 604) (v := (-1)) dL_act_603 rfl (by decide) ?_
    refine go_icmp_ne (z := 611) (z2 := 607) dL_act_604 rfl (by decide) (fun q => absurd rfl q) (fun _ => ?_)
    refine go_iconst (z := 608) (v := 1) dL_act_607 rfl (by decide) ?_
    refine go_goto (z := 612) dL_act_608 (by decide) ?_
    exact go_zret dL_act_612 rfl (congrArg Value.int (by decide)) fin
  | some x =>
    rw [hx] at eL hA1 hP1
    have hxm := List.mem_of_getElem? hx
    obtain ⟨hok, -⟩ := hI.2.2.2.1 x hxm
    have hmk := mk_of hok (hS.2.2.1.2.2.2 x hxm)
    have hk5 : ¬ x.1 0 = -5 := by
      rcases hmk with q | q | q | q
      · rw [q.1]; decide
      · rw [q.1]; decide
      · rw [q.1]; decide
      · rw [q.1]; decide
    obtain ⟨v0, -, -, v3, -⟩ := msg_v (E := E) hx (show k < 2 ^ 31 by omega)
    have hIx : CI 0 (c0 + kC 0 x) (c1 + kC 1 x) 1 B 0 (fun _ => 0) (fun _ => True) (fun _ => (1 : Int32) = 0) (mDrop k x A.1) := (hS.2.2.1.drop hx hok hB).reW (fun _ _ k => Or.inl k) (fun _ _ k => absurd k (by decide))
    obtain ⟨z0, z9⟩ := drop_z (m := A.1) (k := k) (x := x)
    refine go_aload_n (z := 562) dL_act_561 rfl rfl ?_
    refine go_iload (z := 564) dL_act_562 rfl rfl ?_
    refine go_iconst (z := 565) (v := 0) dL_act_564 rfl (by decide) ?_
    refine go_callV (z := 568) (t := 5) [.int (nI k), .int 0] dL_act_565 rfl mlX5_message vL_34 ⟨by decide, rfl⟩ okC rfl rfl (by decide) (cat_i (cat_i cat_nil)) (by simp) (by decide) (by first | decide | omega) (by first | decide | omega) (c_ceMsg hL hC hE hgM) ?_
    refine ret_elim ?_
    rw [v0]
    refine go_istore (z := 570) dL_act_568 rfl (by decide) ?_
    refine go_aload_n (z := 571) dL_act_570 rfl rfl ?_
    refine go_iload (z := 573) dL_act_571 rfl rfl ?_
    refine go_iconst (z := 574) (v := 3) dL_act_573 rfl (by decide) ?_
    refine go_callV (z := 577) (t := 5) [.int (nI k), .int 3] dL_act_574 rfl mlX5_message vL_34 ⟨by decide, rfl⟩ okC rfl rfl (by decide) (cat_i (cat_i cat_nil)) (by simp) (by decide) (by first | decide | omega) (by first | decide | omega) (c_ceMsg hL hC hE hgM) ?_
    refine ret_elim ?_
    rw [v3]
    refine go_istore (z := 579) dL_act_577 rfl (by decide) ?_
    refine go_aload_n (z := 580) dL_act_579 rfl rfl ?_
    refine go_iconst (z := 581) (v := 5) dL_act_580 rfl (by decide) ?_
    refine go_callV (z := 584) (t := 5) [.int 5] dL_act_581 rfl mlX5_total vL_30 ⟨by decide, rfl⟩ okC rfl rfl (by decide) (cat_i cat_nil) (by simp) (by decide) (by first | decide | omega) (by first | decide | omega) (c_ceTot hL hC) ?_
    refine ret_elim ?_
    rw [show aTot A 5 = A.1.1 9 from rfl]
    refine go_istore (z := 586) dL_act_584 rfl (by decide) ?_
    refine go_aload_n (z := 587) dL_act_586 rfl rfl ?_
    refine go_iload (z := 589) dL_act_587 rfl rfl ?_
    refine go_callV (z := 592) (t := 5) [.int (nI k)] dL_act_589 rfl mlX5_lose vL_103 ⟨by decide, rfl⟩ okC rfl rfl (by decide) (cat_i cat_nil) (by simp) (by decide) (by first | decide | omega) (by first | decide | omega) (c_ceLose hL hC (AInv.q hD.2.2.2.2.1.1 hE) (fun y hy => (hms.1 y hy).1)) ?_
    rintro v1 n1 i1 r1 ⟨p1, p2, hC1, ho1⟩
    rw [eL] at p1 hC1
    rw [p1, p2]
    have hcc := (ho1 (C + 1105) (by omega)).1
    have fin : ∀ i2, i2 = ups (ups (ups i1 (C + 1105) 0 (c0 + kC 0 x)) (C + 1105) 1 (c1 + kC 1 x)) (C + 1105) 3 1 → Go l G mL_act 9 120 840 650 [some (.ref C), some (.int v), some (.int w), some (.ref (C + 1105)), some (.int (nI a)), some (.int (nI b)), some (.int la), some (.int (nI k)), some (.int (x.1 0)), some (.int (x.1 3)), some (.int (A.1.1 9)), some (.int (x.1 3)), none, none] [] n i2 r1 (ActQ G n C K T B) := by
      intro i2 hi2
      have fin : ActQ G n C K T B (some (.int 1)) n i2 r1 := by
        refine act_finC hS ho1 hC1 hA1 hP1 (T1 := T) (B1 := B) (d0 := c0 + kC 0 x) (d1 := c1 + kC 1 x) (d3 := 1) (z0.trans hT0) hIx (hS.2.2.2.1.of drop_w) (fun y hy => ?_) ?_ ?_ ?_ (by omega) (by omega)
        · rw [hi2, ups_row hy, ups_row hy, ups_row hy]
        · rw [hi2, ups_k (by decide), ups_k (by decide), ups_s]
        · rw [hi2, ups_k (by decide), ups_s]
        · rw [hi2]; exact ups_s
      have hC2 : RepC C (aR A (mDrop k x A.1)) i2 r1 := RepC.same hC1 (fun y y1 y2 => ⟨by rw [hi2, ups_row (by omega), ups_row (by omega), ups_row (by omega)], rfl⟩)
      refine go_iload (z := 652) dL_act_650 rfl rfl ?_
      refine go_iload (z := 654) dL_act_652 rfl rfl ?_
      refine go_icmp_ne (z := 674) (z2 := 657) dL_act_654 rfl (by decide) (fun q => absurd rfl q) (fun _ => ?_)
      refine go_aload_n (z := 658) dL_act_657 rfl rfl ?_
      refine go_iconst (z := 659) (v := 5) dL_act_658 rfl (by decide) ?_
      refine go_callV (z := 662) (t := 5) [.int 5] dL_act_659 rfl mlX5_total vL_30 ⟨by decide, rfl⟩ okC rfl rfl (by decide) (cat_i cat_nil) (by simp) (by decide) (by first | decide | omega) (by first | decide | omega) (c_ceTot hL hC2) ?_
      refine ret_elim ?_
      rw [show aTot (aR A (mDrop k x A.1)) 5 = (mDrop k x A.1).1 9 from rfl, z9]
      refine go_iload (z := 664) dL_act_662 rfl rfl ?_
      refine go_iload (z := 666) dL_act_664 rfl rfl ?_
      refine go_iadd (z := 667) dL_act_666 rfl ?_
      refine go_icmp_ne (z := 674) (z2 := 670) dL_act_667 rfl (by decide) (fun q => absurd rfl q) (fun _ => ?_)
      refine go_iconst (z := 671) (v := 1) dL_act_670 rfl (by decide) ?_
      refine go_goto (z := 675) dL_act_671 (by decide) ?_
      exact go_zret dL_act_675 rfl (congrArg Value.int (by decide)) fin
    have c644 : ∀ y i2, y = kC 1 x → i2 = ups i1 (C + 1105) 0 (c0 + kC 0 x) → Go l G mL_act 9 120 840 644 [some (.ref C), some (.int v), some (.int w), some (.ref (C + 1105)), some (.int (nI a)), some (.int (nI b)), some (.int la), some (.int (nI k)), some (.int (x.1 0)), some (.int (x.1 3)), some (.int (A.1.1 9)), some (.int (x.1 3)), none, none] [.int y, .int c1, .int 1, .ref (C + 1105)] n i2 r1 (ActQ G n C K T B) := by
      intro y i2 hy hi2
      refine go_iadd (z := 645) dL_act_644 rfl ?_
      refine go_iast (z := 646) 1 hCc (by decide) rfl (by omega) dL_act_645 rfl ?_
      refine go_aload_n (z := 647) dL_act_646 rfl rfl ?_
      refine go_iconst (z := 648) (v := 3) dL_act_647 rfl (by decide) ?_
      refine go_iconst (z := 649) (v := 1) dL_act_648 rfl (by decide) ?_
      refine go_iast (z := 650) 3 hCc (by decide) rfl (by omega) dL_act_649 rfl ?_
      exact fin _ (by rw [hi2, hy])
    have c627 : ∀ y, y = kC 0 x → Go l G mL_act 9 120 840 627 [some (.ref C), some (.int v), some (.int w), some (.ref (C + 1105)), some (.int (nI a)), some (.int (nI b)), some (.int la), some (.int (nI k)), some (.int (x.1 0)), some (.int (x.1 3)), some (.int (A.1.1 9)), some (.int (x.1 3)), none, none] [.int y, .int c0, .int 0, .ref (C + 1105)] n i1 r1 (ActQ G n C K T B) := by
      intro y hy
      refine go_iadd (z := 628) dL_act_627 rfl ?_
      refine go_iast (z := 629) 0 hCc (by decide) rfl (by omega) dL_act_628 rfl ?_
      refine go_aload_n (z := 630) dL_act_629 rfl rfl ?_
      refine go_iconst (z := 631) (v := 1) dL_act_630 rfl (by decide) ?_
      refine go_dup2 (z := 632) dL_act_631 rfl rfl rfl ?_
      refine go_iald (z := 633) 1 hCc (by decide) rfl (by omega) dL_act_632 rfl ?_
      refine go_iload (z := 635) dL_act_633 rfl rfl ?_
      refine go_iconst (z := 636) (v := 1) dL_act_635 rfl (by decide) ?_
      rw [ups_k (show (1 : Nat) ≠ 0 by decide), hcc, q1]
      refine go_icmp_ne (z := 643) (z2 := 639) dL_act_636 rfl (by decide) (fun q => ?_) (fun q => ?_)
      · refine go_iconst (z := 644) (v := 0) dL_act_643 rfl (by decide) ?_
        exact c644 0 _ (if_neg q).symm (by rw [hy])
      · refine go_iconst (z := 640) (v := 1) dL_act_639 rfl (by decide) ?_
        refine go_goto (z := 644) dL_act_640 (by decide) ?_
        exact c644 1 _ (if_pos q).symm (by rw [hy])
    refine go_istore (z := 594) dL_act_592 rfl (by decide) ?_
    refine go_iload (z := 596) dL_act_594 rfl rfl ?_
    refine go_bipush (z := 598) (v := (-5)) dL_act_596 rfl (by decide) ?_
    refine go_icmp_ne (z := 613) (z2 := 601) dL_act_598 rfl (by decide) (fun _ => ?_) (fun q => absurd q hk5)
    refine go_aload_n (z := 614) dL_act_613 rfl rfl ?_
    refine go_iconst (z := 615) (v := 0) dL_act_614 rfl (by decide) ?_
    refine go_dup2 (z := 616) dL_act_615 rfl rfl rfl ?_
    refine go_iald (z := 617) 0 hCc (by decide) rfl (by omega) dL_act_616 rfl ?_
    refine go_iload (z := 619) dL_act_617 rfl rfl ?_
    rw [hcc, q0]
    refine go_if_ne (z := 626) (z2 := 622) dL_act_619 rfl (by decide) (fun q => ?_) (fun q => ?_)
    · refine go_iconst (z := 627) (v := 0) dL_act_626 rfl (by decide) ?_
      exact go_lo rfl (c627 0 (if_neg q).symm)
    · refine go_iconst (z := 623) (v := 1) dL_act_622 rfl (by decide) ?_
      refine go_goto (z := 627) dL_act_623 (by decide) ?_
      exact go_lo rfl (c627 1 (if_pos q).symm)
end ACT2
