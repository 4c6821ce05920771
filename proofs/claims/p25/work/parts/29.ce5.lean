section CE5
variable {l : Launch} {G : GG} {n : Nat} {i : IP} {r : RP} {C : Nat} {A : AP} {E : EE} {Gd : Nat → Prop}
theorem c_passLoop {k : Nat} {A2 : List MS × MS × Bool × (Nat → Int32) × Nat} (hL : CeL G n C) (hg : ∀ a, Gd a → C + 1105 ≤ a) (hk : k ≤ 100) (c : Nat) : ∀ (j : Nat) (m : MS) (i : IP) (r : RP), j + c = k → RepC C (m, A2) i r → RepE G n E Gd i r → (∀ q, q < c → TickOk E Gd (mTicks E q m)) → Go l G mX5_pass 5 0 0 37 [some (.ref C), some (.int (nI k)), some (.int (nI j))] [] n i r (CP ((mTicks E c m).1 0, (mTicks E c m, A2)) n C i r) := by
  have hc0 := hL.1
  have L2 := hL.2.1
  have hs := L2.s
  induction c with
  | zero =>
    intro j m i r hj hC hE hT
    have hj : j = k := by omega
    subst hj
    have f0 := hC.1.1
    refine go_iload_n (z := 38) dX5_pass_37 rfl rfl ?_
    refine go_iload_n (z := 39) dX5_pass_38 rfl rfl ?_
    refine go_icmp_ge (z := 55) (z2 := 42) dX5_pass_39 rfl (by decide) (fun _ => ?_) (fun h => absurd (Int32.le_refl _) h)
    have hz : i (C + 1) 0 = m.1 0 := hC.2.2.1.2.1 0 (by omega)
    refine go_aload_n (z := 56) dX5_pass_55 rfl rfl ?_
    refine go_getR (z := 59) dX5_pass_56 rfl fX5_12 (by assumption) rfl (by assumption) ?_
    refine go_getI (z := 62) dX5_pass_59 rfl fX5_80 (by assumption) rfl ?_
    rw [hz]
    exact go_iret dX5_pass_62 rfl ⟨rfl, rfl, hC, OutC.rf⟩
  | succ c ih =>
    intro j m i r hj hC hE hT
    have f0 := hC.1.1
    have hRn := hC.2.2.1
    refine go_iload_n (z := 38) dX5_pass_37 rfl rfl ?_
    refine go_iload_n (z := 39) dX5_pass_38 rfl rfl ?_
    refine go_icmp_ge (z := 55) (z2 := 42) dX5_pass_39 rfl (by decide) (fun h => absurd h (nI_ge (by omega) (by omega))) (fun _ => ?_)
    refine go_aload_n (z := 43) dX5_pass_42 rfl rfl ?_
    refine go_getR (z := 46) dX5_pass_43 rfl fX5_12 (by assumption) rfl (by assumption) ?_
    refine go_callV (z := 49) (t := 4) [] dX5_pass_46 rfl mlX4_tick vX5_84 ⟨by decide, rfl⟩ hs rfl rfl (by decide) cat_nil (by simp) (by decide) (by first | decide | omega) (by first | decide | omega) (c_tick L2 hRn hE (hT 0 (by omega))) ?_
    refine chg_elim (fun i3 r3 hR3 hO3 => ?_)
    refine go_iinc (z := 52) dX5_pass_49 rfl rfl (nI_1 j) (by decide) ?_
    refine go_goto (z := 37) dX5_pass_52 (by decide) ?_
    have ho : OutC C i r i3 r3 := Out.c hO3 (by omega) (by omega)
    refine go_post (ih (j + 1) (mTick E m) i3 r3 (by omega) (hC.now hR3 hO3) (hE.outC hg ho) (fun q hq => hT (q + 1) (by omega))) ?_
    intro v n2 i2 r2 hp
    obtain ⟨p1, p2, p3, p4⟩ := hp
    exact ⟨p1, p2, p3, ho.tr p4⟩
theorem c_cePass {x : Int32} (hL : CeL G n C) (hC : RepC C A i r) (hE : RepE G n E Gd i r) (hg : ∀ a, Gd a → C + 1105 ≤ a) (hq : okQ G n A.1) (hT : A.1.1 0 + x ≤ 1000000 → 1 ≤ x → x ≤ 100 → ∀ q, q < x.toNatClampNeg → TickOk E Gd (mTicks E q A.1)) : Go l G mX5_pass 5 0 0 0 (lentry [.ref C, .int x] 3) [] n i r (CP (aPass E A x) n C i r) := by
  have hRn := hC.2.2.1
  have hc0 := hL.1
  have L2 := hL.2.1
  have hs := L2.s
  have f0 := hC.1.1
  have bad : ¬ (1 ≤ x ∧ x ≤ 100) → Go l G mX5_pass 5 0 0 11 (lentry [.ref C, .int x] 3) [] n i r (CP (aPass E A x) n C i r) := by
    intro h
    have e : aPass E A x = (-2, A) := by unfold aPass; rw [if_neg h]
    rw [e]
    refine go_bipush (z := 13) (v := (-2)) dX5_pass_11 rfl (by decide) ?_
    exact go_iret dX5_pass_13 rfl (cp_same hC)
  refine go_iload_n (z := 1) dX5_pass_0 rfl rfl ?_
  refine go_iconst (z := 2) (v := 1) dX5_pass_1 rfl (by decide) ?_
  refine go_icmp_lt (z := 11) (z2 := 5) dX5_pass_2 rfl (by decide) (fun h => bad (fun q => absurd (Int32.lt_of_lt_of_le h q.1) Int32.lt_irrefl)) (fun h1 => ?_)
  refine go_iload_n (z := 6) dX5_pass_5 rfl rfl ?_
  refine go_bipush (z := 8) (v := 100) dX5_pass_6 rfl (by decide) ?_
  refine go_icmp_le (z := 14) (z2 := 11) dX5_pass_8 rfl (by decide) (fun h2 => ?_) (fun h => bad (fun q => h q.2))
  have h1 : 1 ≤ x := Int32.not_lt.mp h1
  have h2 : x ≤ 100 := h2
  have hz : i (C + 1) 0 = A.1.1 0 := hRn.2.1 0 (by omega)
  refine go_aload_n (z := 15) dX5_pass_14 rfl rfl ?_
  refine go_getR (z := 18) dX5_pass_15 rfl fX5_12 (by assumption) rfl (by assumption) ?_
  refine go_getI (z := 21) dX5_pass_18 rfl fX5_80 (by assumption) rfl ?_
  refine go_iload_n (z := 22) dX5_pass_21 rfl rfl ?_
  refine go_iadd (z := 23) dX5_pass_22 rfl ?_
  refine go_ldc (z := 25) dX5_pass_23 rfl kX5_83 ?_
  rw [hz]
  refine go_icmp_le (z := 31) (z2 := 28) dX5_pass_25 rfl (by decide) (fun h3 => ?_) (fun h3 => ?_)
  · have h3 : A.1.1 0 + x ≤ 1000000 := h3
    have e : aPass E A x = ((mTicks E x.toNatClampNeg A.1).1 0, aR A (mTicks E x.toNatClampNeg A.1)) := by unfold aPass; rw [if_pos ⟨h1, h2⟩, if_pos h3]
    rw [e]
    obtain ⟨k, hk, hx⟩ := nI_of (x := x) (fun q => absurd (Int32.lt_of_lt_of_le q (Int32.le_trans (by decide : (0 : Int32) ≤ 1) h1)) Int32.lt_irrefl)
    have hkc : x.toNatClampNeg = k := by rw [hx]; exact nI_clamp hk
    have hk100 : k ≤ 100 := (nI_leI hk (by omega)).mp (by rw [← hx]; exact h2)
    have hT := hT h3 h1 h2
    rw [hkc] at hT ⊢
    rw [hx]
    refine go_aload_n (z := 32) dX5_pass_31 rfl rfl ?_
    refine go_callV (z := 35) (t := 5) [] dX5_pass_32 rfl mlX5_record vX5_70 ⟨by decide, rfl⟩ hc0 rfl rfl (by decide) cat_nil (by simp) (by decide) (by first | decide | omega) (by first | decide | omega) (c_record hL hC hq) ?_
    refine rec_elim (fun i2 r2 hC2 hR2 hO2 f0 => ?_)
    refine go_iconst (z := 36) (v := 0) dX5_pass_35 rfl (by decide) ?_
    refine go_istore_n (z := 37) dX5_pass_36 rfl (by decide) ?_
    have hC2 : RepC C (A.1, (aRec A).2) i2 r2 := by rw [← aRec_1 A]; exact hC2
    refine go_lo (lo' := [some (.ref C), some (.int (nI k)), some (.int (nI 0))]) rfl ?_
    refine go_post (c_passLoop hL hg hk100 k 0 A.1 i2 r2 (by omega) hC2 (hE.outC hg hO2) hT) ?_
    intro v n2 i3 r3 hp
    obtain ⟨p1, p2, p3, p4⟩ := hp
    exact ⟨p1, p2, p3, hO2.tr p4⟩
  · have h3 : ¬ A.1.1 0 + x ≤ 1000000 := h3
    have e : aPass E A x = (-3, A) := by unfold aPass; rw [if_pos ⟨h1, h2⟩, if_neg h3]
    rw [e]
    refine go_bipush (z := 30) (v := (-3)) dX5_pass_28 rfl (by decide) ?_
    exact go_iret dX5_pass_30 rfl (cp_same hC)
theorem c_ceLose {x : Int32} (hL : CeL G n C) (hC : RepC C A i r) (hq : okQ G n A.1) (hM : ∀ y ∈ A.1.2.2.2.2, MgOk Gd y) : Go l G mX5_lose 3 0 0 0 (lentry [.ref C, .int x] 2) [] n i r (CP (aLose A x) n C i r) := by
  have hRn := hC.2.2.1
  have hc0 := hL.1
  have L2 := hL.2.1
  have hs := L2.s
  have f0 := hC.1.1
  have hlen : A.1.2.2.2.2.length ≤ 141 := hRn.2.2.2.2.2.choose_spec.2.1
  refine go_iload_n (z := 1) dX5_lose_0 rfl rfl ?_
  refine go_if_ge (z := 7) (z2 := 4) dX5_lose_1 rfl (by decide) (fun h => ?_) (fun h => ?_)
  · have h0 : ¬ x < 0 := Int32.not_lt.mpr h
    refine go_aload_n (z := 8) dX5_lose_7 rfl rfl ?_
    refine go_getR (z := 11) dX5_lose_8 rfl fX5_12 (by assumption) rfl (by assumption) ?_
    refine go_iload_n (z := 12) dX5_lose_11 rfl rfl ?_
    refine go_callV (z := 15) (t := 4) [.int x] dX5_lose_12 rfl mlX4_isOnItsWay vX5_87 ⟨by decide, rfl⟩ hs rfl rfl (by decide) (cat_i cat_nil) (by simp) (by decide) (by first | decide | omega) (by first | decide | omega) (c_isOn (k := 0) L2 hRn) ?_
    refine ret_elim ?_
    obtain ⟨k, hk, hx⟩ := nI_of h0
    have hkc : x.toNatClampNeg = k := by rw [hx]; exact nI_clamp hk
    have eL : aLose A x = aLoseO A k A.1.2.2.2.2[k]? := by unfold aLose; rw [if_neg h0, hkc]
    by_cases hkl : k < A.1.2.2.2.2.length
    · rw [if_pos ⟨Int32.not_lt.mp h0, by rw [hx]; exact nI_lt hkl (by omega)⟩]
      refine go_if_ne (z := 20) (z2 := 18) dX5_lose_15 rfl (by decide) (fun _ => ?_) (fun h => absurd h (by decide))
      have hy : A.1.2.2.2.2[k]? = some A.1.2.2.2.2[k] := List.getElem?_eq_getElem hkl
      rw [hy] at eL
      rw [eL, hx]
      show Go l G _ _ _ _ _ _ _ n i r (CP (A.1.2.2.2.2[k].1 3, aR A (mDrop k A.1.2.2.2.2[k] A.1)) n C i r)
      refine go_aload_n (z := 21) dX5_lose_20 rfl rfl ?_
      refine go_callV (z := 24) (t := 5) [] dX5_lose_21 rfl mlX5_record vX5_70 ⟨by decide, rfl⟩ hc0 rfl rfl (by decide) cat_nil (by simp) (by decide) (by first | decide | omega) (by first | decide | omega) (c_record hL hC hq) ?_
      refine rec_elim (fun i2 r2 hC2 hR2 hO2 f0 => ?_)
      refine go_aload_n (z := 25) dX5_lose_24 rfl rfl ?_
      refine go_getR (z := 28) dX5_lose_25 rfl fX5_12 (by assumption) rfl (by assumption) ?_
      refine go_iload_n (z := 29) dX5_lose_28 rfl rfl ?_
      refine go_callV (z := 32) (t := 4) [.int (nI k)] dX5_lose_29 rfl mlX4_dropMessage vX5_90 ⟨by decide, rfl⟩ hs rfl rfl (by decide) (cat_i cat_nil) (by simp) (by decide) (by first | decide | omega) (by first | decide | omega) (c_dropMessage L2 hR2 hy (hM _ (List.getElem_mem hkl))) ?_
      refine chgI_elim (fun i3 r3 hR3 hO3 => ?_)
      exact go_iret dX5_lose_32 rfl ⟨rfl, rfl, hC2.now hR3 hO3, hO2.tr (Out.c hO3 (by omega) (by omega))⟩
    · rw [if_neg (fun q => hkl ((nI_ltI hk (by omega)).mp (by rw [← hx]; exact q.2)))]
      refine go_if_ne (z := 20) (z2 := 18) dX5_lose_15 rfl (by decide) (fun h => absurd rfl h) (fun _ => ?_)
      rw [List.getElem?_eq_none (by omega)] at eL
      rw [eL]
      refine go_iconst (z := 19) (v := (-1)) dX5_lose_18 rfl (by decide) ?_
      exact go_iret dX5_lose_19 rfl (cp_same hC)
  · have h0 : x < 0 := Int32.not_le.mp h
    have e : aLose A x = (-2, A) := by unfold aLose; rw [if_pos h0]
    rw [e]
    refine go_bipush (z := 6) (v := (-2)) dX5_lose_4 rfl (by decide) ?_
    exact go_iret dX5_lose_6 rfl (cp_same hC)
theorem c_ceGood (hL : CeL G n C) (hC : RepC C A i r) (hE : RepE G n E Gd i r) (hg : ∀ a, Gd a → C + 1105 ≤ a) (hq : okQ G n A.1) (hok : GoodOk E Gd (mGood0 A.1)) : Go l G mX5_makeGood 4 0 0 0 (lentry [.ref C] 1) [] n i r (CP (aGood E A) n C i r) := by
  have hRn := hC.2.2.1
  have hc0 := hL.1
  have L2 := hL.2.1
  have hs := L2.s
  have f0 := hC.1.1
  have hz : i (C + 1) 13 = A.1.1 13 := hRn.2.1 13 (by omega)
  refine go_aload_n (z := 1) dX5_makeGood_0 rfl rfl ?_
  refine go_getR (z := 4) dX5_makeGood_1 rfl fX5_12 (by assumption) rfl (by assumption) ?_
  refine go_getI (z := 7) dX5_makeGood_4 rfl fX5_93 (by assumption) rfl ?_
  rw [hz]
  refine go_if_ne (z := 13) (z2 := 10) dX5_makeGood_7 rfl (by decide) (fun h => ?_) (fun h => ?_)
  · have e : aGood E A = (A.1.1 9, aR A (mGood E A.1)) := by unfold aGood; rw [if_neg h]
    rw [e]
    refine go_aload_n (z := 14) dX5_makeGood_13 rfl rfl ?_
    refine go_callV (z := 17) (t := 5) [] dX5_makeGood_14 rfl mlX5_record vX5_70 ⟨by decide, rfl⟩ hc0 rfl rfl (by decide) cat_nil (by simp) (by decide) (by first | decide | omega) (by first | decide | omega) (c_record hL hC hq) ?_
    refine rec_elim (fun i2 r2 hC2 hR2 hO2 f0 => ?_)
    refine go_aload_n (z := 18) dX5_makeGood_17 rfl rfl ?_
    refine go_getR (z := 21) dX5_makeGood_18 rfl fX5_12 (by assumption) rfl (by assumption) ?_
    refine go_callV (z := 24) (t := 4) [] dX5_makeGood_21 rfl mlX4_replaceLost vX5_97 ⟨by decide, rfl⟩ hs rfl rfl (by decide) cat_nil (by simp) (by decide) (by first | decide | omega) (by first | decide | omega) (c_replaceLost L2 hR2 (hE.outC hg hO2) hok) ?_
    refine chgI_elim (fun i3 r3 hR3 hO3 => ?_)
    exact go_iret dX5_makeGood_24 rfl ⟨rfl, rfl, hC2.now hR3 hO3, hO2.tr (Out.c hO3 (by omega) (by omega))⟩
  · have e : aGood E A = (-5, A) := by unfold aGood; rw [if_pos h]
    rw [e]
    refine go_bipush (z := 12) (v := (-5)) dX5_makeGood_10 rfl (by decide) ?_
    exact go_iret dX5_makeGood_12 rfl (cp_same hC)
end CE5
