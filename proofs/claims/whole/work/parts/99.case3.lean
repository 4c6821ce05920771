section LAWC
variable {l : Launch} {G : GG} {n : Nat} {i : IP} {r : RP} {C K O k j q : Nat} {E : EE} {Gd : Nat → Prop} {A : AP} {Q : QP} {nm : String}
theorem lw_c_type (hS : LwS G C K O E Gd A n i r) (hl : G.2.2.2.1 ≤ 2048) (hq : 4 * q + 4 ≤ G.2.2.2.1) (hK : K + 1969350 ≤ 2 ^ 30) (hO : O + 2500000 < 2 ^ 31) (hk : 60 ≤ k) (hj : 420 ≤ j) (next : LwN l G nm C K O (k - 60) (j - 420) q Q) : Go l G (mLw nm) 11 k j 317 (lwLo G C q) [] n i r Q := by
  have hL := hS.1.1
  have hC := hS.2.1.1
  have hE := hS.2.1.2.1
  obtain ⟨hgn, hgC, h60, hEk⟩ := hS.gn
  have hY := hS.2.2.1.1
  have hR := hS.2.2.1.2
  have hW := hS.2.2.2.1
  have hA := hS.2.2.2.2.1
  have hP := hS.2.2.2.2.2
  have hq0 := AInv.q hA.1 hE
  obtain ⟨T, hT, hI⟩ := id hA.1
  have okC := hL.1
  have okM := hY.1.1
  refine go_aload_n (z := 318) dL_law_317 rfl rfl ?_
  refine go_aload_n (z := 319) dL_law_318 rfl rfl ?_
  refine go_iload_n (z := 320) dL_law_319 rfl rfl ?_
  refine go_iconst (z := 321) (v := 1) dL_law_320 rfl (by decide) ?_
  refine go_iadd (z := 322) dL_law_321 rfl ?_
  refine go_sld (z := 323) (4 * q + 1) (by omega) (nI_add (4 * q) 1) (by omega) dL_law_322 rfl ?_
  refine go_i2c (z := 324) dL_law_323 rfl rfl ?_
  refine go_callV (z := 327) (t := 5) [.int (lwCh G q)] dL_law_324 rfl mlX5_type vL_45 ⟨by decide, rfl⟩ okC rfl rfl (by decide) (cat_i cat_nil) (by simp) (by decide) (by first | decide | omega) (by first | decide | omega) (c_ceType hL hC (pk_nc _)) ?_
  rintro v n1 i1 r1 ⟨p1, p2, hC1, ho1⟩
  obtain ⟨hY1, hR1⟩ := hS.mid ho1
  have okM1 := hY1.1.1
  rw [p1, p2]
  refine go_aload_n (z := 328) dL_law_327 rfl rfl ?_
  refine go_aload_n (z := 329) dL_law_328 rfl rfl ?_
  refine go_iload_n (z := 330) dL_law_329 rfl rfl ?_
  refine go_iconst (z := 331) (v := 1) dL_law_330 rfl (by decide) ?_
  refine go_iadd (z := 332) dL_law_331 rfl ?_
  refine go_sld (z := 333) (4 * q + 1) (by omega) (nI_add (4 * q) 1) (by omega) dL_law_332 rfl ?_
  refine go_i2c (z := 334) dL_law_333 rfl rfl ?_
  refine go_callV (z := 337) (t := 6) [.int (lwCh G q)] dL_law_334 rfl mlX6_type vL_49 ⟨by decide, rfl⟩ okM1 rfl rfl (by decide) (cat_i cat_nil) (by simp) (by decide) (by first | decide | omega) (by first | decide | omega) (c_mType hY1 hR1) ?_
  rintro v n2 i2 r2 ⟨q1, q2, q3, ho2, hR2⟩
  rw [q1, q2, q3]
  refine go_icmp_eq (z := 644) (z2 := 340) dL_law_337 rfl (by decide) (fun _ => ?_) (fun h => absurd rfl h)
  exact go_less (next _ _ _ _ _ _ ((hS.fin hC1 ho1 ho2 hR2 (hA.type _) (hP.type _)).more (by omega) (by omega))) (Nat.le_refl _) (by omega) (by omega)
theorem lw_c_clear (hS : LwS G C K O E Gd A n i r) (hl : G.2.2.2.1 ≤ 2048) (hq : 4 * q + 4 ≤ G.2.2.2.1) (hK : K + 1969350 ≤ 2 ^ 30) (hO : O + 2500000 < 2 ^ 31) (hk : 60 ≤ k) (hj : 420 ≤ j) (next : LwN l G nm C K O (k - 60) (j - 420) q Q) : Go l G (mLw nm) 11 k j 342 (lwLo G C q) [] n i r Q := by
  have hL := hS.1.1
  have hC := hS.2.1.1
  have hE := hS.2.1.2.1
  obtain ⟨hgn, hgC, h60, hEk⟩ := hS.gn
  have hY := hS.2.2.1.1
  have hR := hS.2.2.1.2
  have hW := hS.2.2.2.1
  have hA := hS.2.2.2.2.1
  have hP := hS.2.2.2.2.2
  have hq0 := AInv.q hA.1 hE
  obtain ⟨T, hT, hI⟩ := id hA.1
  have okC := hL.1
  have okM := hY.1.1
  refine go_aload_n (z := 343) dL_law_342 rfl rfl ?_
  refine go_callV (z := 346) (t := 5) [] dL_law_343 rfl mlX5_clearText vL_50 ⟨by decide, rfl⟩ okC rfl rfl (by decide) cat_nil (by simp) (by decide) (by first | decide | omega) (by first | decide | omega) (c_ceClear hL hC) ?_
  rintro v n1 i1 r1 ⟨p1, p2, hC1, ho1⟩
  obtain ⟨hY1, hR1⟩ := hS.mid ho1
  have okM1 := hY1.1.1
  rw [p1, p2]
  refine go_aload_n (z := 347) dL_law_346 rfl rfl ?_
  refine go_callV (z := 350) (t := 6) [] dL_law_347 rfl mlX6_clearText vL_53 ⟨by decide, rfl⟩ okM1 rfl rfl (by decide) cat_nil (by simp) (by decide) (by first | decide | omega) (by first | decide | omega) (c_mClear hY1 hR1) ?_
  rintro v n2 i2 r2 ⟨q1, q2, q3, ho2, hR2⟩
  rw [q1, q2, q3]
  refine go_icmp_eq (z := 644) (z2 := 353) dL_law_350 rfl (by decide) (fun _ => ?_) (fun h => absurd rfl h)
  exact go_less (next _ _ _ _ _ _ ((hS.fin hC1 ho1 ho2 hR2 (hA.clear) (hP)).more (by omega) (by omega))) (Nat.le_refl _) (by omega) (by omega)
theorem lw_c_undo (hS : LwS G C K O E Gd A n i r) (hl : G.2.2.2.1 ≤ 2048) (hq : 4 * q + 4 ≤ G.2.2.2.1) (hK : K + 1969350 ≤ 2 ^ 30) (hO : O + 2500000 < 2 ^ 31) (hk : 60 ≤ k) (hj : 420 ≤ j) (next : LwN l G nm C K O (k - 60) (j - 420) q Q) : Go l G (mLw nm) 11 k j 355 (lwLo G C q) [] n i r Q := by
  have hL := hS.1.1
  have hC := hS.2.1.1
  have hE := hS.2.1.2.1
  obtain ⟨hgn, hgC, h60, hEk⟩ := hS.gn
  have hY := hS.2.2.1.1
  have hR := hS.2.2.1.2
  have hW := hS.2.2.2.1
  have hA := hS.2.2.2.2.1
  have hP := hS.2.2.2.2.2
  have hq0 := AInv.q hA.1 hE
  obtain ⟨T, hT, hI⟩ := id hA.1
  have okC := hL.1
  have okM := hY.1.1
  refine go_aload_n (z := 356) dL_law_355 rfl rfl ?_
  refine go_callV (z := 359) (t := 5) [] dL_law_356 rfl mlX5_undo vL_54 ⟨by decide, rfl⟩ okC rfl rfl (by decide) cat_nil (by simp) (by decide) (by first | decide | omega) (by first | decide | omega) (c_ceUndo hL hC (fun m hm => AInv.q (hA.2.1 m hm) hE)) ?_
  rintro v n1 i1 r1 ⟨p1, p2, hC1, ho1⟩
  obtain ⟨hY1, hR1⟩ := hS.mid ho1
  have okM1 := hY1.1.1
  rw [p1, p2]
  refine go_aload_n (z := 360) dL_law_359 rfl rfl ?_
  refine go_callV (z := 363) (t := 6) [] dL_law_360 rfl mlX6_undo vL_57 ⟨by decide, rfl⟩ okM1 rfl rfl (by decide) cat_nil (by simp) (by decide) (by first | decide | omega) (by first | decide | omega) (c_mUndo hY1 hR1) ?_
  rintro v n2 i2 r2 ⟨q1, q2, q3, ho2, hR2⟩
  rw [q1, q2, q3]
  refine go_icmp_eq (z := 644) (z2 := 366) dL_law_363 rfl (by decide) (fun _ => ?_) (fun h => absurd rfl h)
  exact go_less (next _ _ _ _ _ _ ((hS.fin hC1 ho1 ho2 hR2 (hA.undo) (hP.undo)).more (by omega) (by omega))) (Nat.le_refl _) (by omega) (by omega)
theorem lw_c_keep (hS : LwS G C K O E Gd A n i r) (hl : G.2.2.2.1 ≤ 2048) (hq : 4 * q + 4 ≤ G.2.2.2.1) (hK : K + 1969350 ≤ 2 ^ 30) (hO : O + 2500000 < 2 ^ 31) (hk : 60 ≤ k) (hj : 420 ≤ j) (next : LwN l G nm C K O (k - 60) (j - 420) q Q) : Go l G (mLw nm) 11 k j 368 (lwLo G C q) [] n i r Q := by
  have hL := hS.1.1
  have hC := hS.2.1.1
  have hE := hS.2.1.2.1
  obtain ⟨hgn, hgC, h60, hEk⟩ := hS.gn
  have hY := hS.2.2.1.1
  have hR := hS.2.2.1.2
  have hW := hS.2.2.2.1
  have hA := hS.2.2.2.2.1
  have hP := hS.2.2.2.2.2
  have hq0 := AInv.q hA.1 hE
  obtain ⟨T, hT, hI⟩ := id hA.1
  have okC := hL.1
  have okM := hY.1.1
  refine go_aload_n (z := 369) dL_law_368 rfl rfl ?_
  refine go_callV (z := 372) (t := 5) [] dL_law_369 rfl mlX5_keep vL_58 ⟨by decide, rfl⟩ okC rfl rfl (by decide) cat_nil (by simp) (by decide) (by first | decide | omega) (by first | decide | omega) (c_ceKeep hL hC hq0) ?_
  rintro v n1 i1 r1 ⟨p1, p2, hC1, ho1⟩
  obtain ⟨hY1, hR1⟩ := hS.mid ho1
  have okM1 := hY1.1.1
  rw [p1, p2]
  refine go_aload_n (z := 373) dL_law_372 rfl rfl ?_
  refine go_callV (z := 376) (t := 6) [] dL_law_373 rfl mlX6_keep vL_61 ⟨by decide, rfl⟩ okM1 rfl rfl (by decide) cat_nil (by simp) (by decide) (by first | decide | omega) (by first | decide | omega) (c_mKeep hY1 hR1) ?_
  rintro v n2 i2 r2 ⟨q1, q2, q3, ho2, hR2⟩
  rw [q1, q2, q3]
  refine go_icmp_eq (z := 644) (z2 := 379) dL_law_376 rfl (by decide) (fun _ => ?_) (fun h => absurd rfl h)
  exact go_less (next _ _ _ _ _ _ ((hS.fin hC1 ho1 ho2 hR2 (hA.keep) (hP.keep)).more (by omega) (by omega))) (Nat.le_refl _) (by omega) (by omega)
theorem lw_c_rest (hS : LwS G C K O E Gd A n i r) (hl : G.2.2.2.1 ≤ 2048) (hq : 4 * q + 4 ≤ G.2.2.2.1) (hK : K + 1969350 ≤ 2 ^ 30) (hO : O + 2500000 < 2 ^ 31) (hk : 60 ≤ k) (hj : 420 ≤ j) (next : LwN l G nm C K O (k - 60) (j - 420) q Q) : Go l G (mLw nm) 11 k j 381 (lwLo G C q) [] n i r Q := by
  have hL := hS.1.1
  have hC := hS.2.1.1
  have hE := hS.2.1.2.1
  obtain ⟨hgn, hgC, h60, hEk⟩ := hS.gn
  have hY := hS.2.2.1.1
  have hR := hS.2.2.1.2
  have hW := hS.2.2.2.1
  have hA := hS.2.2.2.2.1
  have hP := hS.2.2.2.2.2
  have hq0 := AInv.q hA.1 hE
  obtain ⟨T, hT, hI⟩ := id hA.1
  have okC := hL.1
  have okM := hY.1.1
  refine go_aload_n (z := 382) dL_law_381 rfl rfl ?_
  refine go_callV (z := 385) (t := 5) [] dL_law_382 rfl mlX5_restore vL_62 ⟨by decide, rfl⟩ okC rfl rfl (by decide) cat_nil (by simp) (by decide) (by first | decide | omega) (by first | decide | omega) (c_ceRest hL hC hq0 (AInv.q hA.2.2 hE)) ?_
  rintro v n1 i1 r1 ⟨p1, p2, hC1, ho1⟩
  obtain ⟨hY1, hR1⟩ := hS.mid ho1
  have okM1 := hY1.1.1
  rw [p1, p2]
  refine go_aload_n (z := 386) dL_law_385 rfl rfl ?_
  refine go_callV (z := 389) (t := 6) [] dL_law_386 rfl mlX6_restore vL_65 ⟨by decide, rfl⟩ okM1 rfl rfl (by decide) cat_nil (by simp) (by decide) (by first | decide | omega) (by first | decide | omega) (c_mRestore hY1 hR1) ?_
  rintro v n2 i2 r2 ⟨q1, q2, q3, ho2, hR2⟩
  rw [q1, q2, q3]
  refine go_icmp_eq (z := 644) (z2 := 392) dL_law_389 rfl (by decide) (fun _ => ?_) (fun h => absurd rfl h)
  exact go_less (next _ _ _ _ _ _ ((hS.fin hC1 ho1 ho2 hR2 (hA.rest) (hP.rest)).more (by omega) (by omega))) (Nat.le_refl _) (by omega) (by omega)
theorem lw_c_runQuiet (hS : LwS G C K O E Gd A n i r) (hl : G.2.2.2.1 ≤ 2048) (hq : 4 * q + 4 ≤ G.2.2.2.1) (hK : K + 1969350 ≤ 2 ^ 30) (hO : O + 2500000 < 2 ^ 31) (hk : 60 ≤ k) (hj : 420 ≤ j) (next : LwN l G nm C K O (k - 60) (j - 420) q Q) : Go l G (mLw nm) 11 k j 582 (lwLo G C q) [] n i r Q := by
  have hL := hS.1.1
  have hC := hS.2.1.1
  have hE := hS.2.1.2.1
  obtain ⟨hgn, hgC, h60, hEk⟩ := hS.gn
  have hY := hS.2.2.1.1
  have hR := hS.2.2.1.2
  have hW := hS.2.2.2.1
  have hA := hS.2.2.2.2.1
  have hP := hS.2.2.2.2.2
  have hq0 := AInv.q hA.1 hE
  obtain ⟨T, hT, hI⟩ := id hA.1
  have okC := hL.1
  have okM := hY.1.1
  refine go_aload_n (z := 583) dL_law_582 rfl rfl ?_
  refine go_callV (z := 586) (t := 5) [] dL_law_583 rfl mlX5_quietIn vL_90 ⟨by decide, rfl⟩ okC rfl rfl (by decide) cat_nil (by simp) (by decide) (by first | decide | omega) (by first | decide | omega) (c_ceQuiet hL hC hE hgC hq0 (hA.run hEk)) ?_
  rintro v n1 i1 r1 ⟨p1, p2, hC1, ho1⟩
  obtain ⟨hY1, hR1⟩ := hS.mid ho1
  have okM1 := hY1.1.1
  rw [p1, p2]
  refine go_aload_n (z := 587) dL_law_586 rfl rfl ?_
  refine go_callV (z := 590) (t := 6) [] dL_law_587 rfl mlX6_quietIn vL_93 ⟨by decide, rfl⟩ okM1 rfl rfl (by decide) cat_nil (by simp) (by decide) (by first | decide | omega) (by first | decide | omega) (c_mQuietIn hY1 hEk hW hI hT hP.1 (by omega) hR1 (by omega)) ?_
  rintro v n2 i2 r2 ⟨q1, q2, q3, ho2, hR2⟩
  rw [q1, q2, q3]
  refine go_icmp_eq (z := 644) (z2 := 593) dL_law_590 rfl (by decide) (fun _ => ?_) (fun h => absurd (uRun_ref 501 0 A.1) h)
  exact go_less (next _ _ _ _ _ _ ((hS.fin hC1 ho1 ho2 hR2 hA hP).more (by omega) (by omega))) (Nat.le_refl _) (by omega) (by omega)
theorem lw_c_runIdle (hS : LwS G C K O E Gd A n i r) (hl : G.2.2.2.1 ≤ 2048) (hq : 4 * q + 4 ≤ G.2.2.2.1) (hK : K + 1969350 ≤ 2 ^ 30) (hO : O + 2500000 < 2 ^ 31) (hk : 60 ≤ k) (hj : 420 ≤ j) (next : LwN l G nm C K O (k - 60) (j - 420) q Q) : Go l G (mLw nm) 11 k j 595 (lwLo G C q) [] n i r Q := by
  have hL := hS.1.1
  have hC := hS.2.1.1
  have hE := hS.2.1.2.1
  obtain ⟨hgn, hgC, h60, hEk⟩ := hS.gn
  have hY := hS.2.2.1.1
  have hR := hS.2.2.1.2
  have hW := hS.2.2.2.1
  have hA := hS.2.2.2.2.1
  have hP := hS.2.2.2.2.2
  have hq0 := AInv.q hA.1 hE
  obtain ⟨T, hT, hI⟩ := id hA.1
  have okC := hL.1
  have okM := hY.1.1
  refine go_aload_n (z := 596) dL_law_595 rfl rfl ?_
  refine go_callV (z := 599) (t := 5) [] dL_law_596 rfl mlX5_idleIn vL_94 ⟨by decide, rfl⟩ okC rfl rfl (by decide) cat_nil (by simp) (by decide) (by first | decide | omega) (by first | decide | omega) (c_ceIdle hL hC hE hgC hq0 (hA.run hEk)) ?_
  rintro v n1 i1 r1 ⟨p1, p2, hC1, ho1⟩
  obtain ⟨hY1, hR1⟩ := hS.mid ho1
  have okM1 := hY1.1.1
  rw [p1, p2]
  refine go_aload_n (z := 600) dL_law_599 rfl rfl ?_
  refine go_callV (z := 603) (t := 6) [] dL_law_600 rfl mlX6_idleIn vL_97 ⟨by decide, rfl⟩ okM1 rfl rfl (by decide) cat_nil (by simp) (by decide) (by first | decide | omega) (by first | decide | omega) (c_mIdleIn hY1 hEk hW hI hT hP.1 (by omega) hR1 (by omega)) ?_
  rintro v n2 i2 r2 ⟨q1, q2, q3, ho2, hR2⟩
  rw [q1, q2, q3]
  refine go_icmp_eq (z := 644) (z2 := 606) dL_law_603 rfl (by decide) (fun _ => ?_) (fun h => absurd (uRun_ref 501 0 A.1) h)
  exact go_less (next _ _ _ _ _ _ ((hS.fin hC1 ho1 ho2 hR2 hA hP).more (by omega) (by omega))) (Nat.le_refl _) (by omega) (by omega)
end LAWC
