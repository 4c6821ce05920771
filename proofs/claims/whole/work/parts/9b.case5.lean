section LAWC
variable {l : Launch} {G : GG} {n : Nat} {i : IP} {r : RP} {C K O k j q : Nat} {E : EE} {Gd : Nat → Prop} {A : AP} {Q : QP} {nm : String}
theorem lw_c_launch (hS : LwS G C K O E Gd A n i r) (hl : G.2.2.2.1 ≤ 2048) (hq : 4 * q + 4 ≤ G.2.2.2.1) (hK : K + 1969350 ≤ 2 ^ 30) (hO : O + 2500000 < 2 ^ 31) (hk : 60 ≤ k) (hj : 420 ≤ j) (next : LwN l G nm C K O (k - 60) (j - 420) q Q) : Go l G (mLw nm) 11 k j 245 (lwLo G C q) [] n i r Q := by
  have hL := hS.1.1
  have hC := hS.2.1.1
  have hE := hS.2.1.2.1
  obtain ⟨hgn, hgC, h60, hEk⟩ := hS.gn
  have hY := hS.2.2.1.1
  have hR := hS.2.2.1.2
  have hW := hS.2.2.2.1
  have hA := hS.2.2.2.2.1
  have hP := hS.2.2.2.2.2
  have hq0 := AInv.q hA.1 hE
  obtain ⟨T, hT, hI⟩ := id hA.1
  have okC := hL.1
  have okM := hY.1.1
  have hn13 := hS.1.2.1
  have htag : ∀ a, n ≤ a → (G.2.1 a).1 = 0 := fun a ha => hS.1.2.2.1 a (by omega)
  refine go_aload_n (z := 246) dL_law_245 rfl rfl ?_
  refine go_callV (z := 249) (t := 5) [] dL_law_246 rfl mlX5_launch vL_27 ⟨by decide, rfl⟩ okC rfl rfl (by decide) cat_nil (by simp) (by decide) (by first | decide | omega) (by first | decide | omega) (c_ceLaunch hL hC hE hgC (by omega) htag hS.1.2.2.2 hA.ms.2.2 hA.ms.2.1 (hA.cap hEk).1 ((hA.cap hEk).2 _)) ?_
  rintro v n1 i1 r1 ⟨p1, p2, p3, hC1, hE1, ho1⟩
  obtain ⟨hY1, hR1⟩ := hS.midN p2 ho1
  have okM1 := hY1.1.1
  rw [p1]
  refine go_aload_n (z := 250) dL_law_249 rfl rfl ?_
  refine go_callV (z := 253) (t := 6) [] dL_law_250 rfl mlX6_launch vL_31 ⟨by decide, rfl⟩ okM1 rfl rfl (by decide) cat_nil (by simp) (by decide) (by first | decide | omega) (by first | decide | omega) (c_mLaunch (n0 := n) hY1 hR1 hEk hgn ((hA.cap hEk).2 _) (by omega)) ?_
  rintro v n2 i2 r2 ⟨q1, q2, q3, ho2, hR2⟩
  rw [q1, q2, q3]
  refine go_icmp_eq (z := 644) (z2 := 256) dL_law_253 rfl (by decide) (fun _ => ?_) (fun h => absurd rfl h)
  obtain ⟨w1, w2, w3, w4⟩ := hA.launch hP hEk hW hgn h60
  exact go_less (next _ _ _ _ _ _ ((hS.finN p2 hC1 hE1 ho1 ho2 hR2 w1 w2 w3 w4).more (by omega) (by omega))) (Nat.le_refl _) (by omega) (by omega)
theorem lw_c_plan (hS : LwS G C K O E Gd A n i r) (hl : G.2.2.2.1 ≤ 2048) (hq : 4 * q + 4 ≤ G.2.2.2.1) (hK : K + 1969350 ≤ 2 ^ 30) (hO : O + 2500000 < 2 ^ 31) (hk : 60 ≤ k) (hj : 420 ≤ j) (next : LwN l G nm C K O (k - 60) (j - 420) q Q) : Go l G (mLw nm) 11 k j 608 (lwLo G C q) [] n i r Q := by
  have hL := hS.1.1
  have hC := hS.2.1.1
  have hE := hS.2.1.2.1
  obtain ⟨hgn, hgC, h60, hEk⟩ := hS.gn
  have hY := hS.2.2.1.1
  have hR := hS.2.2.1.2
  have hW := hS.2.2.2.1
  have hA := hS.2.2.2.2.1
  have hP := hS.2.2.2.2.2
  have hq0 := AInv.q hA.1 hE
  obtain ⟨T, hT, hI⟩ := id hA.1
  have okC := hL.1
  have okM := hY.1.1
  have hn13 := hS.1.2.1
  have htag : ∀ a, n ≤ a → (G.2.1 a).1 = 0 := fun a ha => hS.1.2.2.1 a (by omega)
  refine go_aload_n (z := 609) dL_law_608 rfl rfl ?_
  refine go_aload_n (z := 610) dL_law_609 rfl rfl ?_
  refine go_iload_n (z := 611) dL_law_610 rfl rfl ?_
  refine go_iconst (z := 612) (v := 1) dL_law_611 rfl (by decide) ?_
  refine go_iadd (z := 613) dL_law_612 rfl ?_
  refine go_sld (z := 614) (4 * q + 1) (by omega) (nI_add (4 * q) 1) (by omega) dL_law_613 rfl ?_
  refine go_callV (z := 617) (t := 5) [.int (G.2.2.2.2 (4 * q + 1))] dL_law_614 rfl mlX5_planned vL_98 ⟨by decide, rfl⟩ okC rfl rfl (by decide) (cat_i cat_nil) (by simp) (by decide) (by first | decide | omega) (by first | decide | omega) (c_cePlan hL hC hE (by omega) htag hS.1.2.2.2) ?_
  rintro v n1 i1 r1 ⟨p1, p2, p3, hC1, hE1, ho1⟩
  obtain ⟨hY1, hR1⟩ := hS.midN p2 ho1
  have okM1 := hY1.1.1
  rw [p1]
  refine go_aload_n (z := 618) dL_law_617 rfl rfl ?_
  refine go_aload_n (z := 619) dL_law_618 rfl rfl ?_
  refine go_iload_n (z := 620) dL_law_619 rfl rfl ?_
  refine go_iconst (z := 621) (v := 1) dL_law_620 rfl (by decide) ?_
  refine go_iadd (z := 622) dL_law_621 rfl ?_
  refine go_sld (z := 623) (4 * q + 1) (by omega) (nI_add (4 * q) 1) (by omega) dL_law_622 rfl ?_
  refine go_callV (z := 626) (t := 6) [.int (G.2.2.2.2 (4 * q + 1))] dL_law_623 rfl mlX6_planned vL_101 ⟨by decide, rfl⟩ okM1 rfl rfl (by decide) (cat_i cat_nil) (by simp) (by decide) (by first | decide | omega) (by first | decide | omega) (c_mPlan hY1 hR1) ?_
  rintro v n2 i2 r2 ⟨q1, q2, q3, ho2, hR2⟩
  rw [q1, q2, q3]
  refine go_icmp_eq (z := 644) (z2 := 629) dL_law_626 rfl (by decide) (fun _ => ?_) (fun h => absurd rfl h)
  exact go_less (next _ _ _ _ _ _ ((hS.finN p2 hC1 hE1 ho1 ho2 hR2 hW hA hP (fun a ha => Or.inl ha)).more (by omega) (by omega))) (Nat.le_refl _) (by omega) (by omega)
theorem lw_c_least (hS : LwS G C K O E Gd A n i r) (hl : G.2.2.2.1 ≤ 2048) (hq : 4 * q + 4 ≤ G.2.2.2.1) (hK : K + 1969350 ≤ 2 ^ 30) (hO : O + 2500000 < 2 ^ 31) (hk : 60 ≤ k) (hj : 420 ≤ j) (next : LwN l G nm C K O (k - 60) (j - 420) q Q) : Go l G (mLw nm) 11 k j 631 (lwLo G C q) [] n i r Q := by
  have hL := hS.1.1
  have hC := hS.2.1.1
  have hE := hS.2.1.2.1
  obtain ⟨hgn, hgC, h60, hEk⟩ := hS.gn
  have hY := hS.2.2.1.1
  have hR := hS.2.2.1.2
  have hW := hS.2.2.2.1
  have hA := hS.2.2.2.2.1
  have hP := hS.2.2.2.2.2
  have hq0 := AInv.q hA.1 hE
  obtain ⟨T, hT, hI⟩ := id hA.1
  have okC := hL.1
  have okM := hY.1.1
  have hn13 := hS.1.2.1
  have htag : ∀ a, n ≤ a → (G.2.1 a).1 = 0 := fun a ha => hS.1.2.2.1 a (by omega)
  refine go_aload_n (z := 632) dL_law_631 rfl rfl ?_
  refine go_callV (z := 635) (t := 5) [] dL_law_632 rfl mlX5_leastCoin vL_102 ⟨by decide, rfl⟩ okC rfl rfl (by decide) cat_nil (by simp) (by decide) (by first | decide | omega) (by first | decide | omega) (c_ceLeast hL hC hE hgC (by omega) htag hS.1.2.2.2 (hA.trial hEk hgn h60)) ?_
  rintro v n1 i1 r1 ⟨p1, p2, p3, hC1, hE1, ho1⟩
  obtain ⟨hY1, hR1⟩ := hS.midN p2 ho1
  have okM1 := hY1.1.1
  rw [p1]
  refine go_aload_n (z := 636) dL_law_635 rfl rfl ?_
  refine go_callV (z := 639) (t := 6) [] dL_law_636 rfl mlX6_leastCoin vL_105 ⟨by decide, rfl⟩ okM1 rfl rfl (by decide) cat_nil (by simp) (by decide) (by first | decide | omega) (by first | decide | omega) (c_mLeast (n0 := n) (K := 1970538) hY1 hR1 hEk hW hgn (by omega) (hA.least hEk hgn h60)) ?_
  rintro v n2 i2 r2 ⟨q1, q2, q3, ho2, hR2⟩
  rw [q1, q2, q3]
  refine go_icmp_eq (z := 644) (z2 := 642) dL_law_639 rfl (by decide) (fun _ => ?_) (fun h => absurd rfl h)
  exact go_less (next _ _ _ _ _ _ ((hS.finN p2 hC1 hE1 ho1 ho2 hR2 hW hA hP (fun a ha => Or.inl ha)).more (by omega) (by omega))) (Nat.le_refl _) (by omega) (by omega)
end LAWC
