/-! record -/
theorem CeH.put {C c : Nat} {H : List MS} {m : MS} {i i' : IP} {r r' : RP} {p : Nat → Nat} (a1 : ∀ j, j < 4 → p j < 4 ∧ r (C + 472) j = some (C + 477 + 157 * p j) ∧ ∃ m, Rep (C + 477 + 157 * p j) m i r) (a2 : ∀ j k, j < 4 → k < 4 → p j = p k → j = k) (a3 : ∀ (j : Nat) (m : MS), H[j]? = some m → Rep (C + 477 + 157 * p j) m i r) (hc : H.length = c) (hc4 : c < 4) (hR : Rep (C + 477 + 157 * p c) m i' r') (ho : Out (C + 477 + 157 * p c) i r i' r') : CeH C (H ++ [m]) i' r' := by
  have dj : ∀ j, j < 4 → j ≠ c → C + 477 + 157 * p j + 157 ≤ C + 477 + 157 * p c ∨ C + 477 + 157 * p c + 157 ≤ C + 477 + 157 * p j := by
    intro j hj hn
    have : p j ≠ p c := fun e => hn (a2 j c hj hc4 e)
    omega
  refine ⟨p, fun j hj => ⟨(a1 j hj).1, ?_, ?_⟩, a2, fun j x hx => ?_⟩
  · rw [(ho (C + 472) (by omega)).2]; exact (a1 j hj).2.1
  · by_cases e : j = c
    · subst e; exact ⟨m, hR⟩
    · obtain ⟨x, hx⟩ := (a1 j hj).2.2
      exact ⟨x, hx.o ho (dj j hj e)⟩
  · by_cases e : j < c
    · rw [List.getElem?_append_left (by omega)] at hx
      exact (a3 j x hx).o ho (dj j (by omega) (by omega))
    · rw [List.getElem?_append_right (by omega)] at hx
      have h1 : j - H.length < 1 := (List.getElem?_eq_some_iff.mp hx).1
      have h2 : j = c := by omega
      subst h2
      rw [hc, Nat.sub_self] at hx
      rw [← Option.some.inj hx]
      exact hR
/-- what a record leaves as it was: also the text and the reader -/
def OutRc (C : Nat) (i : IP) (r : RP) (i' : IP) (r' : RP) : Prop := ∀ a, a < C ∨ C + 1105 ≤ a ∨ (C + 473 ≤ a ∧ a < C + 477) → i' a = i a ∧ r' a = r a
theorem OutRc.tr {C : Nat} {i i1 i2 : IP} {r r1 r2 : RP} (h1 : OutRc C i r i1 r1) (h2 : OutRc C i1 r1 i2 r2) : OutRc C i r i2 r2 := fun a ha => ⟨(h2 a ha).1.trans (h1 a ha).1, (h2 a ha).2.trans (h1 a ha).2⟩
section CE2
variable {l : Launch} {G : GG} {n : Nat} {i : IP} {r : RP} {C : Nat} {A : AP}
theorem c_recFin {o1 o2 : Option Value} (hL : CeL G n C) (hC : RepC C A i r) (hl : A.2.1.length < 4) (hq : ∀ h, h < 6 → ∀ e ∈ A.1.2.2.2.1 h, Ok G n e 0) : Go l G mX5_record 2 0 0 76 [some (.ref C), o1, o2] [] n i r (fun v n' i' r' => v = none ∧ n' = n ∧ RepC C (A.1, A.2.1 ++ [A.1], A.2.2) i' r' ∧ OutRc C i r i' r') := by
  obtain ⟨L1, L2, L3, L4, L5, L6, L7, L8, L9, L10⟩ := hL
  have hC0 := hC
  obtain ⟨⟨f0, f1, f2, f3, f6, f8, f80, f82⟩, ⟨g4, g5, g7, gt, gh, gl⟩, a3, a4, a5, p, b1, b2, b3⟩ := hC
  obtain ⟨pc, rc, mc, hmc⟩ := b1 A.2.1.length hl
  have Lc := L10 _ pc
  have hS1 := L2.s
  have hS2 := Lc.s
  refine go_aload_n (z := 77) dX5_record_76 rfl rfl ?_
  refine go_getI (z := 80) dX5_record_77 rfl fX5_100 (by assumption) rfl ?_
  rw [g4]
  refine go_if_lt (z := 121) (z2 := 83) dX5_record_80 rfl (by decide) (fun h => absurd h (nI_pos (by omega))) (fun _ => ?_)
  refine go_aload_n (z := 84) dX5_record_83 rfl rfl ?_
  refine go_getI (z := 87) dX5_record_84 rfl fX5_100 (by assumption) rfl ?_
  refine go_aload_n (z := 88) dX5_record_87 rfl rfl ?_
  refine go_getR (z := 91) dX5_record_88 rfl fX5_22 (by assumption) rfl (by assumption) ?_
  refine go_alen (z := 92) L5 (by decide) dX5_record_91 rfl ?_
  rw [g4]
  refine go_icmp_ge (z := 121) (z2 := 95) dX5_record_92 rfl (by decide) (fun h => absurd ((nI_leI (a := 4) (by omega) (by omega)).mp h) (by omega)) (fun _ => ?_)
  refine go_aload_n (z := 96) dX5_record_95 rfl rfl ?_
  refine go_getR (z := 99) dX5_record_96 rfl fX5_22 (by assumption) rfl (by assumption) ?_
  refine go_aload_n (z := 100) dX5_record_99 rfl rfl ?_
  refine go_getI (z := 103) dX5_record_100 rfl fX5_100 (by assumption) rfl ?_
  refine go_aaldR (z := 104) A.2.1.length L5 ⟨by decide, by decide⟩ (by decide) g4 (by omega) rc dX5_record_103 rfl ?_
  refine go_aload_n (z := 105) dX5_record_104 rfl rfl ?_
  refine go_getR (z := 108) dX5_record_105 rfl fX5_12 (by assumption) rfl (by assumption) ?_
  refine go_callV (z := 111) (t := 4) [.ref (C + 1)] dX5_record_108 rfl mlX4_copyFrom vX5_103 ⟨by decide, rfl⟩ hS2 rfl rfl (by decide) (cat_r cat_nil) (by simp) (by decide) (by first | decide | omega) (by first | decide | omega) (c_State_copyFrom Lc L2 (by omega) hmc a3 hq) ?_
  refine chg_elim (fun i2 r2 hR2 hO2 => ?_)
  have e4 : i2 C 4 = nI A.2.1.length := by rw [(hO2 C (by omega)).1]; exact g4
  refine go_aload_n (z := 112) dX5_record_111 rfl rfl ?_
  refine go_dup (z := 113) dX5_record_112 rfl rfl ?_
  refine go_getI (z := 116) dX5_record_113 rfl fX5_100 (by assumption) rfl ?_
  refine go_iconst (z := 117) (v := 1) dX5_record_116 rfl (by decide) ?_
  refine go_iadd (z := 118) dX5_record_117 rfl ?_
  refine go_putI (z := 121) dX5_record_118 rfl fX5_100 (by assumption) rfl (Or.inl rfl) rfl ?_
  rw [e4, nI_1]
  refine go_vret dX5_record_121 rfl ⟨rfl, rfl, ?_, OutRc.tr (fun a ha => hO2 a (by omega)) (fun a ha => ⟨ups_row (by omega), rfl⟩)⟩
  have hH := CeH.put b1 b2 b3 rfl hl hR2 hO2
  have fr : ∀ S m, S + 157 ≤ C + 472 → Rep S m i r → C < S → Rep S m (ups i2 C 4 (nI (A.2.1.length + 1))) r2 := fun S m c1 hR c2 => (hR.o hO2 (by omega)).frame (fun a d1 d2 => ⟨ups_row (by omega), rfl⟩)
  refine ⟨CeF.o (C := C) ⟨f0, f1, f2, f3, f6, f8, f80, f82⟩ hO2 (by omega) (by omega), ⟨?_, ?_, ?_, ?_, ?_, gl⟩, fr _ _ (by omega) a3 (by omega), fr _ _ (by omega) a4 (by omega), ?_, ?_⟩
  · rw [ups_s]; show _ = nI (A.2.1 ++ [A.1]).length; rw [List.length_append]; rfl
  · rw [ups_k (by decide), (hO2 C (by omega)).1]; exact g5
  · rw [ups_k (by decide), (hO2 C (by omega)).1]; exact g7
  · intro k hk; rw [ups_a (by omega), (hO2 _ (by omega)).1]; exact gt k hk
  · show (A.2.1 ++ [A.1]).length ≤ 4; rw [List.length_append]; simp; omega
  · obtain ⟨m, hm⟩ := a5
    exact ⟨m, fr _ _ (by omega) hm (by omega)⟩
  · obtain ⟨p', z1, z2, z3⟩ := hH
    have fr2 : ∀ S m, C < S → Rep S m i2 r2 → Rep S m (ups i2 C 4 (nI (A.2.1.length + 1))) r2 := fun S m c1 hR => hR.frame (fun a d1 d2 => ⟨ups_row (by omega), rfl⟩)
    refine ⟨p', fun j hj => ⟨(z1 j hj).1, (z1 j hj).2.1, ?_⟩, z2, fun j m hm => fr2 _ _ (by omega) (z3 j m hm)⟩
    obtain ⟨m, hm⟩ := (z1 j hj).2.2
    exact ⟨m, fr2 _ _ (by omega) hm⟩
theorem c_record2 (hL : CeL G n C) (hC : RepC C A i r) (hq : ∀ h, h < 6 → ∀ e ∈ A.1.2.2.2.1 h, Ok G n e 0) : Go l G mX5_record 2 0 0 0 (lentry [.ref C] 3) [] n i r (fun v n' i' r' => v = none ∧ n' = n ∧ RepC C (aRec A) i' r' ∧ OutRc C i r i' r') := by
  have hL0 := hL
  obtain ⟨L1, L2, L3, L4, L5, L6, L7, L8, L9, L10⟩ := hL
  have hC0 := hC
  obtain ⟨⟨f0, f1, f2, f3, f6, f8, f80, f82⟩, ⟨g4, g5, g7, gt, gh, gl⟩, a3, a4, a5, p, b1, b2, b3⟩ := hC
  refine go_aload_n (z := 1) dX5_record_0 rfl rfl ?_
  refine go_getI (z := 4) dX5_record_1 rfl fX5_100 (by assumption) rfl ?_
  refine go_aload_n (z := 5) dX5_record_4 rfl rfl ?_
  refine go_getR (z := 8) dX5_record_5 rfl fX5_22 (by assumption) rfl (by assumption) ?_
  refine go_alen (z := 9) L5 (by decide) dX5_record_8 rfl ?_
  rw [g4]
  refine go_icmp_lt (z := 76) (z2 := 12) dX5_record_9 rfl (by decide) (fun h => ?_) (fun h => ?_)
  · have hl : A.2.1.length < 4 := (nI_ltI (b := 4) (by omega) (by omega)).mp h
    have e : aRec A = (A.1, A.2.1 ++ [A.1], A.2.2) := by unfold aRec; rw [if_pos hl]
    rw [e]
    exact go_lo (lo' := [some (.ref C), none, none]) rfl (c_recFin hL0 hC0 hl hq)
  have hl : ¬ A.2.1.length < 4 := fun q => h ((nI_ltI (b := 4) (by omega) (by omega)).mpr q)
  have hl4 : A.2.1.length = 4 := by omega
  have e : aRec A = (A.1, A.2.1.tail ++ [A.1], A.2.2) := by unfold aRec; rw [if_neg hl]
  rw [e]
  obtain ⟨p0, r0, -⟩ := b1 0 (by omega)
  obtain ⟨p1, r1, -⟩ := b1 1 (by omega)
  obtain ⟨p2, r2, -⟩ := b1 2 (by omega)
  obtain ⟨p3, r3, -⟩ := b1 3 (by omega)
  have s0 := (L10 _ p0).s
  have s1 := (L10 _ p1).s
  have s2 := (L10 _ p2).s
  have s3 := (L10 _ p3).s
  have hne : C ≠ C + 472 := by omega
  refine go_aload_n (z := 13) dX5_record_12 rfl rfl ?_
  refine go_getR (z := 16) dX5_record_13 rfl fX5_22 (by assumption) rfl f3 ?_
  refine go_iconst (z := 17) (v := 0) dX5_record_16 rfl (by decide) ?_
  refine go_aaldR (z := 18) 0 L5 ⟨by decide, by decide⟩ (by decide) rfl (by omega) r0 dX5_record_17 rfl ?_
  refine go_astore_n (z := 19) dX5_record_18 rfl (by decide) ?_
  refine go_iconst (z := 20) (v := 0) dX5_record_19 rfl (by decide) ?_
  refine go_istore_n (z := 21) dX5_record_20 rfl (by decide) ?_
  refine go_lo (lo' := [some (.ref C), some (.ref (C + 477 + 157 * p 0)), some (.int (nI 0))]) rfl ?_
  refine go_iload_n (z := 22) dX5_record_21 rfl rfl ?_
  refine go_iconst (z := 23) (v := 1) dX5_record_22 rfl (by decide) ?_
  refine go_iadd (z := 24) dX5_record_23 rfl ?_
  refine go_aload_n (z := 25) dX5_record_24 rfl rfl ?_
  refine go_getR (z := 28) dX5_record_25 rfl fX5_22 (by assumption) rfl f3 ?_
  refine go_alen (z := 29) L5 (by decide) dX5_record_28 rfl ?_
  refine go_icmp_ge (z := 52) (z2 := 32) dX5_record_29 rfl (by decide) (fun h => absurd h (by decide)) (fun _ => ?_)
  refine go_aload_n (z := 33) dX5_record_32 rfl rfl ?_
  refine go_getR (z := 36) dX5_record_33 rfl fX5_22 (by assumption) rfl f3 ?_
  refine go_iload_n (z := 37) dX5_record_36 rfl rfl ?_
  refine go_aload_n (z := 38) dX5_record_37 rfl rfl ?_
  refine go_getR (z := 41) dX5_record_38 rfl fX5_22 (by assumption) rfl f3 ?_
  refine go_iload_n (z := 42) dX5_record_41 rfl rfl ?_
  refine go_iconst (z := 43) (v := 1) dX5_record_42 rfl (by decide) ?_
  refine go_iadd (z := 44) dX5_record_43 rfl ?_
  refine go_aaldR (z := 45) 1 L5 ⟨by decide, by decide⟩ (by decide) (nI_1 0) (by omega) r1 dX5_record_44 rfl ?_
  refine go_aastR (z := 46) 0 L5 ⟨by decide, by decide⟩ (by decide) rfl (by omega) s1 (by decide) rfl dX5_record_45 rfl ?_
  refine go_iinc (z := 49) dX5_record_46 rfl rfl (nI_1 0) (by decide) ?_
  refine go_goto (z := 21) dX5_record_49 (by decide) ?_
  refine go_iload_n (z := 22) dX5_record_21 rfl rfl ?_
  refine go_iconst (z := 23) (v := 1) dX5_record_22 rfl (by decide) ?_
  refine go_iadd (z := 24) dX5_record_23 rfl ?_
  refine go_aload_n (z := 25) dX5_record_24 rfl rfl ?_
  refine go_getR (z := 28) dX5_record_25 rfl fX5_22 (by assumption) rfl ((ups_a hne).trans f3) ?_
  refine go_alen (z := 29) L5 (by decide) dX5_record_28 rfl ?_
  refine go_icmp_ge (z := 52) (z2 := 32) dX5_record_29 rfl (by decide) (fun h => absurd h (by decide)) (fun _ => ?_)
  refine go_aload_n (z := 33) dX5_record_32 rfl rfl ?_
  refine go_getR (z := 36) dX5_record_33 rfl fX5_22 (by assumption) rfl ((ups_a hne).trans f3) ?_
  refine go_iload_n (z := 37) dX5_record_36 rfl rfl ?_
  refine go_aload_n (z := 38) dX5_record_37 rfl rfl ?_
  refine go_getR (z := 41) dX5_record_38 rfl fX5_22 (by assumption) rfl ((ups_a hne).trans f3) ?_
  refine go_iload_n (z := 42) dX5_record_41 rfl rfl ?_
  refine go_iconst (z := 43) (v := 1) dX5_record_42 rfl (by decide) ?_
  refine go_iadd (z := 44) dX5_record_43 rfl ?_
  refine go_aaldR (z := 45) 2 L5 ⟨by decide, by decide⟩ (by decide) (nI_1 1) (by omega) ((ups_k (by decide)).trans r2) dX5_record_44 rfl ?_
  refine go_aastR (z := 46) 1 L5 ⟨by decide, by decide⟩ (by decide) rfl (by omega) s2 (by decide) rfl dX5_record_45 rfl ?_
  refine go_iinc (z := 49) dX5_record_46 rfl rfl (nI_1 1) (by decide) ?_
  refine go_goto (z := 21) dX5_record_49 (by decide) ?_
  refine go_iload_n (z := 22) dX5_record_21 rfl rfl ?_
  refine go_iconst (z := 23) (v := 1) dX5_record_22 rfl (by decide) ?_
  refine go_iadd (z := 24) dX5_record_23 rfl ?_
  refine go_aload_n (z := 25) dX5_record_24 rfl rfl ?_
  refine go_getR (z := 28) dX5_record_25 rfl fX5_22 (by assumption) rfl ((ups_a hne).trans ((ups_a hne).trans f3)) ?_
  refine go_alen (z := 29) L5 (by decide) dX5_record_28 rfl ?_
  refine go_icmp_ge (z := 52) (z2 := 32) dX5_record_29 rfl (by decide) (fun h => absurd h (by decide)) (fun _ => ?_)
  refine go_aload_n (z := 33) dX5_record_32 rfl rfl ?_
  refine go_getR (z := 36) dX5_record_33 rfl fX5_22 (by assumption) rfl ((ups_a hne).trans ((ups_a hne).trans f3)) ?_
  refine go_iload_n (z := 37) dX5_record_36 rfl rfl ?_
  refine go_aload_n (z := 38) dX5_record_37 rfl rfl ?_
  refine go_getR (z := 41) dX5_record_38 rfl fX5_22 (by assumption) rfl ((ups_a hne).trans ((ups_a hne).trans f3)) ?_
  refine go_iload_n (z := 42) dX5_record_41 rfl rfl ?_
  refine go_iconst (z := 43) (v := 1) dX5_record_42 rfl (by decide) ?_
  refine go_iadd (z := 44) dX5_record_43 rfl ?_
  refine go_aaldR (z := 45) 3 L5 ⟨by decide, by decide⟩ (by decide) (nI_1 2) (by omega) ((ups_k (by decide)).trans ((ups_k (by decide)).trans r3)) dX5_record_44 rfl ?_
  refine go_aastR (z := 46) 2 L5 ⟨by decide, by decide⟩ (by decide) rfl (by omega) s3 (by decide) rfl dX5_record_45 rfl ?_
  refine go_iinc (z := 49) dX5_record_46 rfl rfl (nI_1 2) (by decide) ?_
  refine go_goto (z := 21) dX5_record_49 (by decide) ?_
  refine go_iload_n (z := 22) dX5_record_21 rfl rfl ?_
  refine go_iconst (z := 23) (v := 1) dX5_record_22 rfl (by decide) ?_
  refine go_iadd (z := 24) dX5_record_23 rfl ?_
  refine go_aload_n (z := 25) dX5_record_24 rfl rfl ?_
  refine go_getR (z := 28) dX5_record_25 rfl fX5_22 (by assumption) rfl ((ups_a hne).trans ((ups_a hne).trans ((ups_a hne).trans f3))) ?_
  refine go_alen (z := 29) L5 (by decide) dX5_record_28 rfl ?_
  refine go_icmp_ge (z := 52) (z2 := 32) dX5_record_29 rfl (by decide) (fun _ => ?_) (fun h => absurd (by decide) h)
  refine go_aload_n (z := 53) dX5_record_52 rfl rfl ?_
  refine go_getR (z := 56) dX5_record_53 rfl fX5_22 (by assumption) rfl ((ups_a hne).trans ((ups_a hne).trans ((ups_a hne).trans f3))) ?_
  refine go_aload_n (z := 57) dX5_record_56 rfl rfl ?_
  refine go_getR (z := 60) dX5_record_57 rfl fX5_22 (by assumption) rfl ((ups_a hne).trans ((ups_a hne).trans ((ups_a hne).trans f3))) ?_
  refine go_alen (z := 61) L5 (by decide) dX5_record_60 rfl ?_
  refine go_iconst (z := 62) (v := 1) dX5_record_61 rfl (by decide) ?_
  refine go_isub (z := 63) dX5_record_62 rfl ?_
  refine go_aload_n (z := 64) dX5_record_63 rfl rfl ?_
  refine go_aastR (z := 65) 3 L5 ⟨by decide, by decide⟩ (by decide) (by decide) (by omega) s0 (by decide) rfl dX5_record_64 rfl ?_
  refine go_aload_n (z := 66) dX5_record_65 rfl rfl ?_
  refine go_aload_n (z := 67) dX5_record_66 rfl rfl ?_
  refine go_getR (z := 70) dX5_record_67 rfl fX5_22 (by assumption) rfl ((ups_a hne).trans ((ups_a hne).trans ((ups_a hne).trans ((ups_a hne).trans f3)))) ?_
  refine go_alen (z := 71) L5 (by decide) dX5_record_70 rfl ?_
  refine go_iconst (z := 72) (v := 1) dX5_record_71 rfl (by decide) ?_
  refine go_isub (z := 73) dX5_record_72 rfl ?_
  refine go_putI (z := 76) dX5_record_73 rfl fX5_100 (by assumption) rfl (Or.inl rfl) rfl ?_
  have hr4 : ∀ (x0 x1 x2 x3 : Option Nat) a, a ≠ C + 472 → (ups (ups (ups (ups r (C + 472) 0 x0) (C + 472) 1 x1) (C + 472) 2 x2) (C + 472) 3 x3) a = r a := by
    intro x0 x1 x2 x3 a ha
    rw [ups_row ha, ups_row ha, ups_row ha, ups_row ha]
  have htl : A.2.1.tail.length = 3 := by rw [List.length_tail]; omega
  refine go_lo (lo' := [some (.ref C), some (.ref (C + 477 + 157 * p 0)), some (.int (nI 3))]) rfl ?_
  refine go_post (c_recFin (A := (A.1, A.2.1.tail, A.2.2)) hL0 ?_ (by show A.2.1.tail.length < 4; omega) hq) (fun v n' i' r' hp => ⟨hp.1, hp.2.1, hp.2.2.1, OutRc.tr (fun a ha => ⟨ups_row (by omega), hr4 _ _ _ _ a (by omega)⟩) hp.2.2.2⟩)
  have fr : ∀ (x0 x1 x2 x3 : Option Nat) (y : Int32) S m, C < S → (S + 157 ≤ C + 472 ∨ C + 472 < S) → Rep S m i r → Rep S m (ups i C 4 y) (ups (ups (ups (ups r (C + 472) 0 x0) (C + 472) 1 x1) (C + 472) 2 x2) (C + 472) 3 x3) := fun x0 x1 x2 x3 y S m c1 c2 hR => hR.frame (fun a d1 d2 => ⟨ups_row (by omega), hr4 _ _ _ _ a (by omega)⟩)
  refine ⟨?_, ⟨?_, ?_, ?_, ?_, ?_, gl⟩, fr _ _ _ _ _ _ _ (by omega) (by omega) a3, fr _ _ _ _ _ _ _ (by omega) (by omega) a4, ?_, fun j => if j = 3 then p 0 else p (j + 1), fun j hj => ?_, fun j k hj hk he => ?_, fun j m hm => ?_⟩
  · unfold CeF
    rw [hr4 _ _ _ _ C (by omega), hr4 _ _ _ _ (C + 474) (by omega)]
    exact ⟨f0, f1, f2, f3, f6, f8, f80, f82⟩
  · rw [ups_s]; show _ = nI A.2.1.tail.length; rw [htl]; rfl
  · rw [ups_k (by decide)]; exact g5
  · rw [ups_k (by decide)]; exact g7
  · intro k hk; rw [ups_a (by omega)]; exact gt k hk
  · show A.2.1.tail.length ≤ 4; omega
  · obtain ⟨m, hm⟩ := a5
    exact ⟨m, fr _ _ _ _ _ _ _ (by omega) (by omega) hm⟩
  · rcases (show j = 0 ∨ j = 1 ∨ j = 2 ∨ j = 3 by omega) with e | e | e | e <;> subst e
    · obtain ⟨m, hm⟩ := (b1 1 (by omega)).2.2
      exact ⟨p1, by rw [ups_k (by decide), ups_k (by decide), ups_k (by decide), ups_s]; rfl, m, fr _ _ _ _ _ _ _ (by omega) (by omega) hm⟩
    · obtain ⟨m, hm⟩ := (b1 2 (by omega)).2.2
      exact ⟨p2, by rw [ups_k (by decide), ups_k (by decide), ups_s]; rfl, m, fr _ _ _ _ _ _ _ (by omega) (by omega) hm⟩
    · obtain ⟨m, hm⟩ := (b1 3 (by omega)).2.2
      exact ⟨p3, by rw [ups_k (by decide), ups_s]; rfl, m, fr _ _ _ _ _ _ _ (by omega) (by omega) hm⟩
    · obtain ⟨m, hm⟩ := (b1 0 (by omega)).2.2
      exact ⟨p0, by rw [ups_s]; rfl, m, fr _ _ _ _ _ _ _ (by omega) (by omega) hm⟩
  · have he : (if j = 3 then p 0 else p (j + 1)) = (if k = 3 then p 0 else p (k + 1)) := he
    by_cases c1 : j = 3
    · by_cases c2 : k = 3
      · omega
      · rw [if_pos c1, if_neg c2] at he
        have := b2 0 (k + 1) (by omega) (by omega) he
        omega
    · by_cases c2 : k = 3
      · rw [if_neg c1, if_pos c2] at he
        have := b2 (j + 1) 0 (by omega) (by omega) he
        omega
      · rw [if_neg c1, if_neg c2] at he
        have := b2 (j + 1) (k + 1) (by omega) (by omega) he
        omega
  · have hm : A.2.1.tail[j]? = some m := hm
    have hj : j < A.2.1.tail.length := (List.getElem?_eq_some_iff.mp hm).1
    rw [List.getElem?_tail] at hm
    have := b3 (j + 1) m hm
    show Rep (C + 477 + 157 * (if j = 3 then p 0 else p (j + 1))) m _ _
    rw [if_neg (by omega)]
    exact fr _ _ _ _ _ _ _ (by omega) (by omega) this
theorem c_record (hL : CeL G n C) (hC : RepC C A i r) (hq : ∀ h, h < 6 → ∀ e ∈ A.1.2.2.2.1 h, Ok G n e 0) : Go l G mX5_record 2 0 0 0 (lentry [.ref C] 3) [] n i r (fun v n' i' r' => v = none ∧ n' = n ∧ RepC C (aRec A) i' r' ∧ OutC C i r i' r') := go_post (c_record2 hL hC hq) (fun v n' i' r' hp => ⟨hp.1, hp.2.1, hp.2.2.1, fun a ha => hp.2.2.2 a (by omega)⟩)
end CE2
