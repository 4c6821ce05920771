section CE12
variable {l : Launch} {G : GG} {n : Nat} {i : IP} {r : RP} {C : Nat} {A : AP} {E : EE} {Gd : Nat → Prop}
theorem c_leastLoop {roots : List Nat} {o : Option Value} (hL : CeL G n C) (hrl : roots.length ≤ 15) (hT : ∀ k, 2 ≤ k → k ≤ 16 → ∀ q, q < 500 → TickOk E Gd (mTicks E q (mLaunch E roots (mNew A.1 (nI k))))) (c : Nat) : ∀ (k : Nat) (i : IP) (r : RP), k + c = 17 → 2 ≤ k → RepC C A i r → RepE G n E Gd i r → i (C + 474) 1 = nI roots.length → (∀ (c a : Nat), roots[c]? = some a → r (C + 475) c = some a ∧ Gd a) → Go l G mX5_leastCoin 6 0 0 28 [some (.ref C), o, some (.int (nI k))] [] n i r (fun v n' i' r' => v = some (.int (lRun E roots A.1 c k)) ∧ n' = n ∧ RepC C A i' r' ∧ Out (C + 315) i r i' r') := by
  have hc0 := hL.1
  have L4 := hL.2.2.2.1
  induction c with
  | zero =>
    intro k i r hk hk2 hC hE k1 k2
    have hk : k = 17 := by omega
    subst hk
    refine go_iload_n (z := 29) dX5_leastCoin_28 rfl rfl ?_
    refine go_bipush (z := 31) (v := 16) dX5_leastCoin_29 rfl (by decide) ?_
    refine go_icmp_gt (z := 50) (z2 := 34) dX5_leastCoin_31 rfl (by decide) (fun _ => ?_) (fun h => absurd (by decide) h)
    refine go_bipush (z := 52) (v := (-5)) dX5_leastCoin_50 rfl (by decide) ?_
    exact go_iret dX5_leastCoin_52 rfl ⟨rfl, rfl, hC, Out.rf⟩
  | succ c ih =>
    intro k i r hk hk2 hC hE k1 k2
    have e0 : lRun E roots A.1 (c + 1) k = if wAsk E roots A.1 (nI k) = true then lRun E roots A.1 c (k + 1) else nI k := rfl
    refine go_iload_n (z := 29) dX5_leastCoin_28 rfl rfl ?_
    refine go_bipush (z := 31) (v := 16) dX5_leastCoin_29 rfl (by decide) ?_
    refine go_icmp_gt (z := 50) (z2 := 34) dX5_leastCoin_31 rfl (by decide) (fun h => absurd ((nI_ltI (a := 16) (by omega) (by omega)).mp h) (by omega)) (fun _ => ?_)
    refine go_aload_n (z := 35) dX5_leastCoin_34 rfl rfl ?_
    refine go_iload_n (z := 36) dX5_leastCoin_35 rfl rfl ?_
    refine go_callV (z := 39) (t := 5) [.int (nI k)] dX5_leastCoin_36 rfl mlX5_wouldAskWith vX5_144 ⟨by decide, rfl⟩ hc0 rfl rfl (by decide) (cat_i cat_nil) (by simp) (by decide) (by first | decide | omega) (by first | decide | omega) (c_would hL hC hE k1 k2 hrl (hT k hk2 (by omega))) ?_
    intro v n2 i2 r2 hp
    obtain ⟨p1, p2, p3, p4⟩ := hp
    rw [p1, p2]
    by_cases hw : wAsk E roots A.1 (nI k) = true
    · rw [e0, if_pos hw, hw]
      refine go_if_ne (z := 44) (z2 := 42) dX5_leastCoin_39 rfl (by decide) (fun _ => ?_) (fun h => absurd h (by decide))
      refine go_iinc (z := 47) dX5_leastCoin_44 rfl rfl (nI_1 k) (by decide) ?_
      refine go_goto (z := 28) dX5_leastCoin_47 (by decide) ?_
      refine go_post (ih (k + 1) i2 r2 (by omega) (by omega) p3 (hE.out L4 p4) (by rw [(p4 (C + 474) (by omega)).1]; exact k1) (fun c a h => by rw [(p4 (C + 475) (by omega)).2]; exact k2 c a h)) ?_
      intro v n3 i3 r3 hp
      obtain ⟨q1, q2, q3, q4⟩ := hp
      exact ⟨q1, q2, q3, p4.tr q4⟩
    · rw [e0, if_neg hw, Bool.eq_false_iff.mpr hw]
      refine go_if_ne (z := 44) (z2 := 42) dX5_leastCoin_39 rfl (by decide) (fun h => absurd rfl h) (fun _ => ?_)
      refine go_iload_n (z := 43) dX5_leastCoin_42 rfl rfl ?_
      exact go_iret dX5_leastCoin_43 rfl ⟨rfl, rfl, p3, p4⟩
theorem c_ceLeast (hL : CeL G n C) (hC : RepC C A i r) (hE : RepE G n E Gd i r) (hg : ∀ a, Gd a → C + 1105 ≤ a) (hCn : C + 1105 ≤ n) (htag : ∀ a, n ≤ a → (G.2.1 a).1 = 0) (hG : G.1 ≤ n) (hT : aErr A = none → ∀ k, 2 ≤ k → k ≤ 16 → ∀ q, q < 500 → TickOk (eExt n (aL A) E) (gExt n (aL A) Gd) (mTicks (eExt n (aL A) E) q (mLaunch (eExt n (aL A) E) (rootsOf n (aL A)) (mNew A.1 (nI k))))) : Go l G mX5_leastCoin 6 60 420 0 (lentry [.ref C] 3) [] n i r (LQ (aLeast E n A, A, E, Gd) G n C i r) := by
  have hc0 := hL.1
  have L7 := hL.2.2.2.2.2.2.1
  obtain ⟨f0, f1, f2, f3, f6, f8, f80, f82⟩ := hC.1
  have g7 := hC.2.1.2.2.1
  have e0 : aLeast E n A = aLeastO E n A (aErr A) := rfl
  refine go_aload_n (z := 1) dX5_leastCoin_0 rfl rfl ?_
  refine go_getR (z := 4) dX5_leastCoin_1 rfl fX5_33 (by assumption) rfl (by assumption) ?_
  refine go_aload_n (z := 5) dX5_leastCoin_4 rfl rfl ?_
  refine go_getR (z := 8) dX5_leastCoin_5 rfl fX5_26 (by assumption) rfl (by assumption) ?_
  refine go_aload_n (z := 9) dX5_leastCoin_8 rfl rfl ?_
  refine go_getI (z := 12) dX5_leastCoin_9 rfl fX5_55 (by assumption) rfl ?_
  rw [g7]
  refine go_callV (z := 15) (t := 3) [.ref (C + 473), .int (nI A.2.2.2.2.2)] dX5_leastCoin_12 rfl mlX3_read vX5_59 ⟨by decide, rfl⟩ L7 rfl rfl (by decide) (cat_r (cat_i cat_nil)) (by simp) (by decide) (by first | decide | omega) (by first | decide | omega) (c_ceRead hL hC htag hG) ?_
  intro v n1 i1 r1 hp
  obtain ⟨p1, p2, p3, p4, p5, p6⟩ := hp
  have hL1 := hL.mono p1
  have hC1 := hC.rd hCn p4 p3
  have hE1 : RepE G n1 E Gd i1 r1 := (hE.outR p4 p3).mono p1
  have o1 : OutN C n i r i1 r1 := OutR.toN hCn p3
  cases hr : aErr A with
  | some p =>
    obtain ⟨z1, z2⟩ := p5 p hr
    rw [z1, e0, hr]
    refine go_istore_n (z := 16) dX5_leastCoin_15 rfl (by decide) ?_
    refine go_iload_n (z := 17) dX5_leastCoin_16 rfl rfl ?_
    refine go_iconst (z := 18) (v := (-1)) dX5_leastCoin_17 rfl (by decide) ?_
    refine go_icmp_eq (z := 26) (z2 := 21) dX5_leastCoin_18 rfl (by decide) (fun h => absurd h (nI_m1 (by omega))) (fun _ => ?_)
    refine go_bipush (z := 23) (v := (-100)) dX5_leastCoin_21 rfl (by decide) ?_
    refine go_iload_n (z := 24) dX5_leastCoin_23 rfl rfl ?_
    refine go_isub (z := 25) dX5_leastCoin_24 rfl ?_
    exact go_iret dX5_leastCoin_25 rfl ⟨rfl, p1, p2, hC1, hE1, o1⟩
  | none =>
    obtain ⟨z1, s, z2, z3, z4, z5⟩ := p6 hr
    rw [z1, e0, hr]
    have hEx := hE.ext p3 z3 z4 z5
    rw [z2] at hEx
    have hgx : ∀ a, gExt n (aL A) Gd a → C + 1105 ≤ a := fun a ha => by
      rcases ha with ha | ha
      · exact hg a ha
      · omega
    have hrl := roots_len z4 n
    rw [z2] at hrl
    have z5' : (aL A).length ≤ 15 := by rw [← z2]; exact z5
    have k1 : i1 (C + 474) 1 = nI (rootsOf n (aL A)).length := by
      rw [z3.2.2.2.2.1.1, z2]
      unfold rootsOf
      rw [List.length_map]
    have k2 : ∀ (c a : Nat), (rootsOf n (aL A))[c]? = some a → r1 (C + 475) c = some a ∧ gExt n (aL A) Gd a := by
      intro c a hca
      unfold rootsOf at hca
      rw [List.getElem?_map] at hca
      obtain ⟨q, hq1, hq2⟩ := Option.map_eq_some_iff.mp hca
      rw [← z2] at hq1
      have hqm : q ∈ (fbL s.1).1 := List.mem_of_getElem? hq1
      have hqc := z4.1.2.2.2.2.2.2.2.1 q hqm
      rw [z3.2.2.2.2.2.1 c q hq1, ← hq2, ← z2]
      exact ⟨rfl, Or.inr ⟨by omega, by omega⟩⟩
    refine go_istore_n (z := 16) dX5_leastCoin_15 rfl (by decide) ?_
    refine go_iload_n (z := 17) dX5_leastCoin_16 rfl rfl ?_
    refine go_iconst (z := 18) (v := (-1)) dX5_leastCoin_17 rfl (by decide) ?_
    refine go_icmp_eq (z := 26) (z2 := 21) dX5_leastCoin_18 rfl (by decide) (fun _ => ?_) (fun h => absurd rfl h)
    refine go_iconst (z := 27) (v := 2) dX5_leastCoin_26 rfl (by decide) ?_
    refine go_istore_n (z := 28) dX5_leastCoin_27 rfl (by decide) ?_
    refine go_lo (lo' := [some (.ref C), some (.int (-1)), some (.int (nI 2))]) rfl ?_
    refine go_post (go_less (c_leastLoop hL1 (by omega) (hT hr) 15 2 i1 r1 rfl (by omega) hC1 hEx k1 k2) (by omega) (by omega) (by omega)) ?_
    intro v n3 i3 r3 hp
    obtain ⟨q1, q2, q3, q4⟩ := hp
    rw [q1, q2]
    exact ⟨rfl, p1, p2, q3, hE1.out hL1.2.2.2.1 q4, o1.c (Out.c q4 (by omega) (by omega))⟩
end CE12
