/-! the telling calls of the reference -/
section MTELLW
variable {l : Launch} {G : GG} {n : Nat} {i : IP} {r : RP} {M : Nat} {E : EE} {Gd : Nat → Prop} {O : Nat} {A : AP}
theorem b2i_no {b : Bool} {P : Prop} (h : b2i b = 0) (hb : P → b = true) : ¬ P := fun q => by rw [hb q] at h; exact absurd h (by decide)
theorem c_mTm {x y : Int32} (hY : MoY G n M r) (hR : RefR E Gd O A M i) : Go l G mX6_time 2 0 0 0 (lentry [.ref M, .int x, .int y] 3) [] n i r (RetI (aTm A x y) n i r) := by
  obtain ⟨⟨hM, hr0, hs⟩, ⟨hr1, hr3, hr5, hr6, hr8, hr12⟩, hA2, hA3, hA4, hA5, hA6, hA7⟩ := id hY
  obtain ⟨β, qs, ps, ml, o, ho, hA⟩ := id hR.1
  have bad : ¬ (isH x = true ∧ isH y = true) → Go l G mX6_time 2 0 0 31 (lentry [.ref M, .int x, .int y] 3) [] n i r (RetI (aTm A x y) n i r) := by
    intro h
    unfold aTm
    rw [if_neg h]
    refine go_iconst (z := 32) (v := (-1)) dX6_time_31 rfl (by decide) ?_
    exact go_iret dX6_time_32 rfl ret_ok
  refine go_iload_n (z := 1) dX6_time_0 rfl rfl ?_
  refine go_callS (z := 4) [.int x] dX6_time_1 rfl mlX6_isHouse sX6_103 rfl rfl (by decide) (cat_i cat_nil) (by simp) (by decide) (by first | decide | omega) (by first | decide | omega) (c_mIsHouse) ?_
  refine ret_elim ?_
  refine go_if_eq (z := 31) (z2 := 7) dX6_time_4 rfl (by decide) (fun h => bad (fun q => b2i_no h (fun _ => q.1) trivial)) (fun hx => ?_)
  refine go_iload_n (z := 8) dX6_time_7 rfl rfl ?_
  refine go_callS (z := 11) [.int y] dX6_time_8 rfl mlX6_isHouse sX6_103 rfl rfl (by decide) (cat_i cat_nil) (by simp) (by decide) (by first | decide | omega) (by first | decide | omega) (c_mIsHouse) ?_
  refine ret_elim ?_
  refine go_if_eq (z := 31) (z2 := 14) dX6_time_11 rfl (by decide) (fun h => bad (fun q => b2i_no h (fun _ => q.2) trivial)) (fun hy => ?_)
  have hx := b2i_ne hx
  have hy := b2i_ne hy
  obtain ⟨a, ha, ea, ea2⟩ := isH_of hx
  obtain ⟨b, hb, eb, eb2⟩ := isH_of hy
  unfold aTm
  rw [if_pos ⟨hx, hy⟩, ea2, eb2, ← hA.2.1.1 a b ha hb]
  subst ea eb
  refine go_aload_n (z := 15) dX6_time_14 rfl rfl ?_
  refine go_getR (z := 18) dX6_time_15 rfl fX6_7 (by assumption) rfl (by assumption) ?_
  refine go_bipush (z := 20) (v := 12) dX6_time_18 rfl (by decide) ?_
  refine go_bipush (z := 22) (v := 6) dX6_time_20 rfl (by decide) ?_
  refine go_iload_n (z := 23) dX6_time_22 rfl rfl ?_
  refine go_imul (z := 24) dX6_time_23 rfl ?_
  refine go_iadd (z := 25) dX6_time_24 rfl ?_
  refine go_iload_n (z := 26) dX6_time_25 rfl rfl ?_
  refine go_iadd (z := 27) dX6_time_26 rfl ?_
  refine go_iald (z := 28) (12 + 6 * a + b) (by assumption) (by decide) (ixT a b) (by omega) dX6_time_27 rfl ?_
  refine go_goto (z := 32) dX6_time_28 (by decide) ?_
  exact go_iret dX6_time_32 rfl ret_ok
theorem c_mBt {x : Int32} (hY : MoY G n M r) (hR : RefR E Gd O A M i) : Go l G mX6_bankTime 2 0 0 0 (lentry [.ref M, .int x] 2) [] n i r (RetI (aBt A x) n i r) := by
  obtain ⟨⟨hM, hr0, hs⟩, ⟨hr1, hr3, hr5, hr6, hr8, hr12⟩, hA2, hA3, hA4, hA5, hA6, hA7⟩ := id hY
  obtain ⟨β, qs, ps, ml, o, ho, hA⟩ := id hR.1
  unfold aBt
  refine go_iload_n (z := 1) dX6_bankTime_0 rfl rfl ?_
  refine go_callS (z := 4) [.int x] dX6_bankTime_1 rfl mlX6_isHouse sX6_103 rfl rfl (by decide) (cat_i cat_nil) (by simp) (by decide) (by first | decide | omega) (by first | decide | omega) (c_mIsHouse) ?_
  refine ret_elim ?_
  refine go_if_eq (z := 19) (z2 := 7) dX6_bankTime_4 rfl (by decide) (fun h => ?_) (fun hx => ?_)
  · rw [if_neg (fun q => b2i_no h (fun _ => q) trivial)]
    refine go_iconst (z := 20) (v := (-1)) dX6_bankTime_19 rfl (by decide) ?_
    exact go_iret dX6_bankTime_20 rfl ret_ok
  · have hx := b2i_ne hx
    obtain ⟨a, ha, ea, ea2⟩ := isH_of hx
    rw [if_pos hx, ea2, ← (hA.2.1.2 a ha).1]
    subst ea
    refine go_aload_n (z := 8) dX6_bankTime_7 rfl rfl ?_
    refine go_getR (z := 11) dX6_bankTime_8 rfl fX6_7 (by assumption) rfl (by assumption) ?_
    refine go_bipush (z := 13) (v := 48) dX6_bankTime_11 rfl (by decide) ?_
    refine go_iload_n (z := 14) dX6_bankTime_13 rfl rfl ?_
    refine go_iadd (z := 15) dX6_bankTime_14 rfl ?_
    refine go_iald (z := 16) (48 + a) (by assumption) (by decide) (nI_add 48 a) (by omega) dX6_bankTime_15 rfl ?_
    refine go_goto (z := 20) dX6_bankTime_16 (by decide) ?_
    exact go_iret dX6_bankTime_20 rfl ret_ok
theorem tellH_ix {H : Nat → Int32} (h0 : H 0 = 0 ∨ H 0 = 1) (h4 : H 4 = 0 ∨ H 4 = 1) : tellH H (nI 0) = H 0 ∧ tellH H (nI 1) = H 1 ∧ tellH H (nI 2) = H 2 ∧ tellH H (nI 3) = H 3 ∧ tellH H (nI 4) = H 4 ∧ tellH H (nI 5) = H 6 ∧ tellH H (nI 6) = H 7 ∧ tellH H (nI 7) = H 8 ∧ tellH H (nI 8) = H 9 := by
  refine ⟨?_, rfl, rfl, rfl, ?_, rfl, rfl, rfl, rfl⟩
  · show (if H 0 = 0 then (0 : Int32) else 1) = H 0
    rcases h0 with q | q
    · rw [q]; rfl
    · rw [q]; rfl
  · show (if H 4 = 0 then (0 : Int32) else 1) = H 4
    rcases h4 with q | q
    · rw [q]; rfl
    · rw [q]; rfl
theorem tellH_out {H : Nat → Int32} {x : Int32} (h : x.toInt < 0 ∨ 8 < x.toInt) : tellH H x = -2 := by
  unfold tellH
  rw [if_neg (by omega), if_neg (by omega), if_neg (by omega), if_neg (by omega), if_neg (by omega), if_neg (by omega), if_neg (by omega), if_neg (by omega), if_neg (by omega)]
theorem c_mHouse {x k : Int32} (hY : MoY G n M r) (hR : RefR E Gd O A M i) : Go l G mX6_house 2 0 0 0 (lentry [.ref M, .int x, .int k] 3) [] n i r (RetI (aHouse A x k) n i r) := by
  obtain ⟨⟨hM, hr0, hs⟩, ⟨hr1, hr3, hr5, hr6, hr8, hr12⟩, hA2, hA3, hA4, hA5, hA6, hA7⟩ := id hY
  obtain ⟨β, qs, ps, ml, o, ho, hA⟩ := id hR.1
  have hX := hY.1
  unfold aHouse
  refine go_iload_n (z := 1) dX6_house_0 rfl rfl ?_
  refine go_callS (z := 4) [.int x] dX6_house_1 rfl mlX6_isHouse sX6_103 rfl rfl (by decide) (cat_i cat_nil) (by simp) (by decide) (by first | decide | omega) (by first | decide | omega) (c_mIsHouse) ?_
  refine ret_elim ?_
  refine go_if_ne (z := 9) (z2 := 7) dX6_house_4 rfl (by decide) (fun hx => ?_) (fun h => ?_)
  · have hx := b2i_ne hx
    obtain ⟨a, ha, ea, ea2⟩ := isH_of hx
    obtain ⟨g, g3, g0, g5, g4⟩ := hA.2.2.1 a ha
    obtain ⟨t0, t1, t2, t3, t4, t5, t6, t7, t8⟩ := tellH_ix g0 g4
    rw [if_pos hx, ea2]
    subst ea
    have fld : ∀ w, w < 9 → Go l G mX6_house 2 0 0 60 (lentry [.ref M, .int (nI a), .int (nI w)] 3) [] n i r (RetI (A.1.2.2.1 a (hP w)) n i r) := by
      intro w hw
      refine go_aload_n (z := 61) dX6_house_60 rfl rfl ?_
      refine go_iload_n (z := 62) dX6_house_61 rfl rfl ?_
      refine go_iload_n (z := 63) dX6_house_62 rfl rfl ?_
      refine go_callV (z := 66) (t := 6) [.int (nI a), .int (nI w)] dX6_house_63 rfl mlX6_ofHouse vX6_67 ⟨by decide, rfl⟩ hM rfl rfl (by decide) (cat_i (cat_i cat_nil)) (by simp) (by decide) (by first | decide | omega) (by first | decide | omega) (at_i (a := M + 1) (c_mOfHouse hX ha hw)) ?_
      refine ret_elim ?_
      rw [g w hw]
      exact go_iret dX6_house_66 rfl ret_ok
    have fld1 : ∀ w, w < 9 → Go l G mX6_house 2 0 0 76 (lentry [.ref M, .int (nI a), .int (nI (w + 1))] 3) [] n i r (RetI (A.1.2.2.1 a (hP w)) n i r) := by
      intro w hw
      refine go_aload_n (z := 77) dX6_house_76 rfl rfl ?_
      refine go_iload_n (z := 78) dX6_house_77 rfl rfl ?_
      refine go_iload_n (z := 79) dX6_house_78 rfl rfl ?_
      refine go_iconst (z := 80) (v := 1) dX6_house_79 rfl (by decide) ?_
      refine go_isub (z := 81) dX6_house_80 rfl ?_
      rw [nI_pred]
      refine go_callV (z := 84) (t := 6) [.int (nI a), .int (nI w)] dX6_house_81 rfl mlX6_ofHouse vX6_67 ⟨by decide, rfl⟩ hM rfl rfl (by decide) (cat_i (cat_i cat_nil)) (by simp) (by decide) (by first | decide | omega) (by first | decide | omega) (at_i (a := M + 1) (c_mOfHouse hX ha hw)) ?_
      refine ret_elim ?_
      rw [g w hw]
      exact go_iret dX6_house_84 rfl ret_ok
    refine go_iload_n (z := 10) dX6_house_9 rfl rfl ?_
    refine go_tabS (z := 85) dX6_house_10 (by decide) (fun hk => ?_) (fun q hk hk1 hk2 => ?_)
    · rw [tellH_out (by omega)]
      refine go_bipush (z := 87) (v := (-2)) dX6_house_85 rfl (by decide) ?_
      exact go_iret dX6_house_87 rfl ret_ok
    · rcases (show q = 0 ∨ q = 1 ∨ q = 2 ∨ q = 3 ∨ q = 4 ∨ q = 5 ∨ q = 6 ∨ q = 7 ∨ q = 8 by omega) with rfl | rfl | rfl | rfl | rfl | rfl | rfl | rfl | rfl
      · have ek := toInt_nI (w := 0) hk (by omega)
        subst ek
        refine go_tabIn (z := 60) 0 dX6_house_10 hk (by decide) (by decide) rfl (by decide) ?_
        rw [t0]
        exact fld 0 (by omega)
      · have ek := toInt_nI (w := 1) hk (by omega)
        subst ek
        refine go_tabIn (z := 60) 1 dX6_house_10 hk (by decide) (by decide) rfl (by decide) ?_
        rw [t1]
        exact fld 1 (by omega)
      · have ek := toInt_nI (w := 2) hk (by omega)
        subst ek
        refine go_tabIn (z := 60) 2 dX6_house_10 hk (by decide) (by decide) rfl (by decide) ?_
        rw [t2]
        exact fld 2 (by omega)
      · have ek := toInt_nI (w := 3) hk (by omega)
        subst ek
        refine go_tabIn (z := 67) 3 dX6_house_10 hk (by decide) (by decide) rfl (by decide) ?_
        rw [t3, g3, ← hA.2.2.2.2.2.1 a ha, List.length_map]
        refine go_aload_n (z := 68) dX6_house_67 rfl rfl ?_
        refine go_iload_n (z := 69) dX6_house_68 rfl rfl ?_
        refine go_iconst (z := 70) (v := 1) dX6_house_69 rfl (by decide) ?_
        refine go_iadd (z := 71) dX6_house_70 rfl ?_
        refine go_st (st' := [.int (nI (a + 1)), .ref M]) (by rw [← nI_1]; rfl) ?_
        refine go_iconst (z := 72) (v := 0) dX6_house_71 rfl (by decide) ?_
        refine go_callV (z := 75) (t := 6) [.int (nI (a + 1)), .int (nI 0)] dX6_house_72 rfl mlX6_count vX6_46 ⟨by decide, rfl⟩ hM rfl rfl (by decide) (cat_i (cat_i cat_nil)) (by simp) (by decide) (by first | decide | omega) (by first | decide | omega) (at_i (a := M + 1) (c_mCount hX)) ?_
        refine ret_elim ?_
        rw [(hA.2.2.2.1.2.2.2.1 a ha).count]
        exact go_iret dX6_house_75 rfl ret_ok
      · have ek := toInt_nI (w := 4) hk (by omega)
        subst ek
        refine go_tabIn (z := 76) 4 dX6_house_10 hk (by decide) (by decide) rfl (by decide) ?_
        rw [t4]
        exact fld1 3 (by omega)
      · have ek := toInt_nI (w := 5) hk (by omega)
        subst ek
        refine go_tabIn (z := 76) 5 dX6_house_10 hk (by decide) (by decide) rfl (by decide) ?_
        rw [t5]
        exact fld1 4 (by omega)
      · have ek := toInt_nI (w := 6) hk (by omega)
        subst ek
        refine go_tabIn (z := 76) 6 dX6_house_10 hk (by decide) (by decide) rfl (by decide) ?_
        rw [t6]
        exact fld1 5 (by omega)
      · have ek := toInt_nI (w := 7) hk (by omega)
        subst ek
        refine go_tabIn (z := 76) 7 dX6_house_10 hk (by decide) (by decide) rfl (by decide) ?_
        rw [t7]
        exact fld1 6 (by omega)
      · have ek := toInt_nI (w := 8) hk (by omega)
        subst ek
        refine go_tabIn (z := 76) 8 dX6_house_10 hk (by decide) (by decide) rfl (by decide) ?_
        rw [t8]
        exact fld1 7 (by omega)
  · rw [if_neg (fun q => b2i_no h (fun _ => q) trivial)]
    refine go_iconst (z := 8) (v := (-1)) dX6_house_7 rfl (by decide) ?_
    exact go_iret dX6_house_8 rfl ret_ok
theorem tell4_ix (a b c d : Int32) : tell4 a b c d (nI 0) = a ∧ tell4 a b c d (nI 1) = b ∧ tell4 a b c d (nI 2) = c ∧ tell4 a b c d (nI 3) = d := ⟨rfl, rfl, rfl, rfl⟩
theorem c_mWait {x p k : Int32} (hY : MoY G n M r) (hE : EOk E Gd) (hR : RefR E Gd O A M i) : Go l G mX6_waiting 3 0 0 0 (lentry [.ref M, .int x, .int p, .int k] 5) [] n i r (RetI (aWait E A x p k) n i r) := by
  obtain ⟨⟨hM, hr0, hs⟩, ⟨hr1, hr3, hr5, hr6, hr8, hr12⟩, hA2, hA3, hA4, hA5, hA6, hA7⟩ := id hY
  obtain ⟨β, qs, ps, ml, o, ho, hA⟩ := id hR.1
  have hA : RelA E Gd β qs ps ml o A.1 (i (M + 1)) := hA
  have hX := hY.1
  unfold aWait
  refine go_iload_n (z := 1) dX6_waiting_0 rfl rfl ?_
  refine go_callS (z := 4) [.int x] dX6_waiting_1 rfl mlX6_isHouse sX6_103 rfl rfl (by decide) (cat_i cat_nil) (by simp) (by decide) (by first | decide | omega) (by first | decide | omega) (c_mIsHouse) ?_
  refine ret_elim ?_
  refine go_if_ne (z := 9) (z2 := 7) dX6_waiting_4 rfl (by decide) (fun hx => ?_) (fun h => ?_)
  · have hx := b2i_ne hx
    obtain ⟨a, ha, ea, ea2⟩ := isH_of hx
    rw [if_pos hx, ea2]
    subst ea
    have bad : ¬ ((0 ≤ k ∧ k ≤ 3) ∧ 0 ≤ p) → Go l G mX6_waiting 3 0 0 22 (lentry [.ref M, .int (nI a), .int p, .int k] 5) [] n i r (RetI (if (0 ≤ k ∧ k ≤ 3) ∧ 0 ≤ p then aWaitO E k (A.1.2.2.2.1 a)[p.toNatClampNeg]? else -2) n i r) := by
      intro h
      rw [if_neg h]
      refine go_bipush (z := 24) (v := (-2)) dX6_waiting_22 rfl (by decide) ?_
      exact go_iret dX6_waiting_24 rfl ret_ok
    refine go_iload_n (z := 10) dX6_waiting_9 rfl rfl ?_
    refine go_iconst (z := 11) (v := 0) dX6_waiting_10 rfl (by decide) ?_
    refine go_iconst (z := 12) (v := 3) dX6_waiting_11 rfl (by decide) ?_
    refine go_callS (z := 15) [.int k, .int 0, .int 3] dX6_waiting_12 rfl mlX6_in sX6_31 rfl rfl (by decide) (cat_i (cat_i (cat_i cat_nil))) (by simp) (by decide) (by first | decide | omega) (by first | decide | omega) (c_mIn) ?_
    refine ret_elim ?_
    refine go_if_eq (z := 22) (z2 := 18) dX6_waiting_15 rfl (by decide) (fun h => bad (fun q => b2i_no h (fun _ => decide_eq_true q.1) trivial)) (fun hk => ?_)
    obtain ⟨hk0, hk3⟩ := of_decide_eq_true (b2i_ne hk)
    refine go_iload_n (z := 19) dX6_waiting_18 rfl rfl ?_
    refine go_if_ge (z := 25) (z2 := 22) dX6_waiting_19 rfl (by decide) (fun hp => ?_) (fun h => bad (fun q => h q.2))
    rw [if_pos ⟨⟨hk0, hk3⟩, hp⟩]
    obtain ⟨w, hw, ew⟩ := nI_of (Int32.not_lt.mpr hk0)
    obtain ⟨q, hq, eq⟩ := nI_of (Int32.not_lt.mpr hp)
    subst ew eq
    have hw3 := (nI_leI (b := 3) hw (by omega)).mp hk3
    have hAt := hA.2.2.2.1.2.2.2.1 a ha
    have h0 : ∀ e, e < 80 → eF (i (M + 1)) e 4 = nI (a + 1) → eF (i (M + 1)) e 2 = 0 := fun e he h4 => by
      obtain ⟨w, w1, w2, w3, w4, w5⟩ := hA.2.2.2.1.2.2.1 e he
      rw [h4] at w2
      have e1 := (nI_eq (by omega) (by omega)).mp w2
      exact w4 (by clear w3 w4 w5; omega) (by clear w3 w4 w5; omega)
    rw [nI_clamp hq, ← hA.2.2.2.2.2.1 a ha, List.getElem?_map]
    refine go_aload_n (z := 26) dX6_waiting_25 rfl rfl ?_
    refine go_iload_n (z := 27) dX6_waiting_26 rfl rfl ?_
    refine go_iload_n (z := 28) dX6_waiting_27 rfl rfl ?_
    refine go_callV (z := 31) (t := 6) [.int (nI a), .int (nI q)] dX6_waiting_28 rfl mlX6_waitingAt vX6_166 ⟨by decide, rfl⟩ hM rfl rfl (by decide) (cat_i (cat_i cat_nil)) (by simp) (by decide) (by first | decide | omega) (by first | decide | omega) (at_i (a := M + 1) (c_mWaitAt hX)) ?_
    refine ret_elim ?_
    refine go_istore (z := 33) dX6_waiting_31 rfl (by decide) ?_
    refine go_iload (z := 35) dX6_waiting_33 rfl rfl ?_
    refine go_bipush (z := 37) (v := (-5)) dX6_waiting_35 rfl (by decide) ?_
    rw [hAt.waitAt h0 hq]
    cases hc : (qs a)[q]? with
    | none =>
      refine go_icmp_ne (z := 43) (z2 := 40) dX6_waiting_37 rfl (by decide) (fun h => absurd rfl h) (fun _ => ?_)
      refine go_bipush (z := 42) (v := (-5)) dX6_waiting_40 rfl (by decide) ?_
      exact go_iret dX6_waiting_42 rfl ret_ok
    | some e =>
      obtain ⟨e1, e2, e3⟩ := (hAt.1 e).mp (List.mem_of_getElem? hc)
      have ea : 0 < eF (i (M + 1)) e 4 := by rw [e2, nI_n0 (by omega)]; omega
      obtain ⟨l1, l2, l3, l4⟩ := hA.2.2.2.2.1 e e1 (by omega) ea
      refine go_icmp_ne (z := 43) (z2 := 40) dX6_waiting_37 rfl (by decide) (fun _ => ?_) (fun h => absurd h (o2i_n (k := e) (by omega)))
      show Go l G mX6_waiting _ _ _ 43 _ _ n i r (RetI (tell4 (nI (E.1 (β e))) (E.2.1 (β e)) (nI (E.2.2.2 (β e)).length) (nI (E.2.2.1 (β e))) (nI w)) n i r)
      obtain ⟨t0, t1, t2, t3⟩ := tell4_ix (nI (E.1 (β e))) (E.2.1 (β e)) (nI (E.2.2.2 (β e)).length) (nI (E.2.2.1 (β e)))
      refine go_iload_n (z := 44) dX6_waiting_43 rfl rfl ?_
      refine go_iconst (z := 45) (v := 2) dX6_waiting_44 rfl (by decide) ?_
      rcases (show w = 0 ∨ w = 1 ∨ w = 2 ∨ w = 3 by omega) with ew | ew | ew | ew <;> subst ew
      · refine go_icmp_ge (z := 58) (z2 := 48) dX6_waiting_45 rfl (by decide) (fun h => absurd h (by decide)) (fun _ => ?_)
        refine go_aload_n (z := 49) dX6_waiting_48 rfl rfl ?_
        refine go_iload (z := 51) dX6_waiting_49 rfl rfl ?_
        refine go_iload_n (z := 52) dX6_waiting_51 rfl rfl ?_
        refine go_callV (z := 55) (t := 6) [.int (nI e), .int (nI 0)] dX6_waiting_52 rfl mlX6_ofErrand vX6_39 ⟨by decide, rfl⟩ hM rfl rfl (by decide) (cat_i (cat_i cat_nil)) (by simp) (by decide) (by first | decide | omega) (by first | decide | omega) (at_i (a := M + 1) (c_mOfErrand hX e1 (by omega))) ?_
        refine ret_elim ?_
        refine go_goto (z := 78) dX6_waiting_55 (by decide) ?_
        rw [l2, t0]
        exact go_iret dX6_waiting_78 rfl ret_ok
      · refine go_icmp_ge (z := 58) (z2 := 48) dX6_waiting_45 rfl (by decide) (fun h => absurd h (by decide)) (fun _ => ?_)
        refine go_aload_n (z := 49) dX6_waiting_48 rfl rfl ?_
        refine go_iload (z := 51) dX6_waiting_49 rfl rfl ?_
        refine go_iload_n (z := 52) dX6_waiting_51 rfl rfl ?_
        refine go_callV (z := 55) (t := 6) [.int (nI e), .int (nI 1)] dX6_waiting_52 rfl mlX6_ofErrand vX6_39 ⟨by decide, rfl⟩ hM rfl rfl (by decide) (cat_i (cat_i cat_nil)) (by simp) (by decide) (by first | decide | omega) (by first | decide | omega) (at_i (a := M + 1) (c_mOfErrand hX e1 (by omega))) ?_
        refine ret_elim ?_
        refine go_goto (z := 78) dX6_waiting_55 (by decide) ?_
        rw [l3, t1]
        exact go_iret dX6_waiting_78 rfl ret_ok
      · refine go_icmp_ge (z := 58) (z2 := 48) dX6_waiting_45 rfl (by decide) (fun _ => ?_) (fun h => absurd (by decide) h)
        refine go_iload_n (z := 59) dX6_waiting_58 rfl rfl ?_
        refine go_iconst (z := 60) (v := 2) dX6_waiting_59 rfl (by decide) ?_
        refine go_icmp_ne (z := 72) (z2 := 63) dX6_waiting_60 rfl (by decide) (fun h => absurd rfl h) (fun _ => ?_)
        refine go_aload_n (z := 64) dX6_waiting_63 rfl rfl ?_
        refine go_iload (z := 66) dX6_waiting_64 rfl rfl ?_
        refine go_callV (z := 69) (t := 6) [.int (nI e)] dX6_waiting_66 rfl mlX6_partsOf vX6_169 ⟨by decide, rfl⟩ hM rfl rfl (by decide) (cat_i cat_nil) (by simp) (by decide) (by first | decide | omega) (by first | decide | omega) (at_i (a := M + 1) (c_mPartsOf hX)) ?_
        refine ret_elim ?_
        refine go_goto (z := 78) dX6_waiting_69 (by decide) ?_
        rw [show cntF (atP (i (M + 1)) 8 (nI (e + 1))) 80 = (ps e).length from (hA.2.2.2.1.2.2.2.2.1 e e1).count, t2, ← l4, List.length_map]
        exact go_iret dX6_waiting_78 rfl ret_ok
      · refine go_icmp_ge (z := 58) (z2 := 48) dX6_waiting_45 rfl (by decide) (fun _ => ?_) (fun h => absurd (by decide) h)
        refine go_iload_n (z := 59) dX6_waiting_58 rfl rfl ?_
        refine go_iconst (z := 60) (v := 2) dX6_waiting_59 rfl (by decide) ?_
        refine go_icmp_ne (z := 72) (z2 := 63) dX6_waiting_60 rfl (by decide) (fun _ => ?_) (fun h => absurd h (by decide))
        refine go_aload_n (z := 73) dX6_waiting_72 rfl rfl ?_
        refine go_iload (z := 75) dX6_waiting_73 rfl rfl ?_
        refine go_callV (z := 78) (t := 6) [.int (nI e)] dX6_waiting_75 rfl mlX6_sizeOf vX6_172 ⟨by decide, rfl⟩ hM rfl rfl (by decide) (cat_i cat_nil) (by simp) (by decide) (by first | decide | omega) (by first | decide | omega) (at_i (a := M + 1) (c_mSizeOf hX hA.2.2.2.1.2.1 e1)) ?_
        refine ret_elim ?_
        rw [RelG.sizeA hA hE e1 ea, t3]
        exact go_iret dX6_waiting_78 rfl ret_ok
  · rw [if_neg (fun q => b2i_no h (fun _ => q) trivial)]
    refine go_iconst (z := 8) (v := (-1)) dX6_waiting_7 rfl (by decide) ?_
    exact go_iret dX6_waiting_8 rfl ret_ok
theorem tellM_ix (E : EE) (y : Mg) (now : Int32) : tellM E y (nI 0) now = y.1 0 ∧ tellM E y (nI 1) now = y.1 1 ∧ tellM E y (nI 2) now = y.1 2 ∧ tellM E y (nI 3) now = y.1 3 ∧ tellM E y (nI 4) now = y.1 4 - now ∧ tellM E y (nI 5) now = eWork E y.2 ∧ tellM E y (nI 6) now = eAll E y.2 := ⟨rfl, rfl, rfl, rfl, rfl, rfl, rfl⟩
theorem c_mMsg {x k : Int32} (hY : MoY G n M r) (hE : EOk E Gd) (hR : RefR E Gd O A M i) (hI : ∀ y ∈ A.1.2.2.2.2, ∃ a, a < 2 ^ 30 ∧ y.1 4 = nI a) : Go l G mX6_message 3 0 0 0 (lentry [.ref M, .int x, .int k] 5) [] n i r (RetI (aMsg E A x k) n i r) := by
  obtain ⟨⟨hM, hr0, hs⟩, ⟨hr1, hr3, hr5, hr6, hr8, hr12⟩, hA2, hA3, hA4, hA5, hA6, hA7⟩ := id hY
  obtain ⟨β, qs, ps, ml, o, ho, hA⟩ := id hR.1
  have hA : RelA E Gd β qs ps ml o A.1 (i (M + 1)) := hA
  have hX := hY.1
  have hB : ArrB ml := fun y hy => hI y.1 (by
    rw [hA.2.2.2.2.2.2.2.2]
    exact (isort_perm _).mem_iff.mpr (List.mem_map.mpr ⟨y, hy, rfl⟩))
  have h144 := hA.2.2.2.2.2.2.1.2.1
  unfold aMsg
  have bad : ¬ ((0 ≤ k ∧ k ≤ 6) ∧ 0 ≤ x) → Go l G mX6_message 3 0 0 14 (lentry [.ref M, .int x, .int k] 5) [] n i r (RetI (if (0 ≤ k ∧ k ≤ 6) ∧ 0 ≤ x then aMsgO E (A.1.1 0) k A.1.2.2.2.2[x.toNatClampNeg]? else -2) n i r) := by
    intro h
    rw [if_neg h]
    refine go_bipush (z := 16) (v := (-2)) dX6_message_14 rfl (by decide) ?_
    exact go_iret dX6_message_16 rfl ret_ok
  refine go_iload_n (z := 1) dX6_message_0 rfl rfl ?_
  refine go_iconst (z := 2) (v := 0) dX6_message_1 rfl (by decide) ?_
  refine go_bipush (z := 4) (v := 6) dX6_message_2 rfl (by decide) ?_
  refine go_callS (z := 7) [.int k, .int 0, .int 6] dX6_message_4 rfl mlX6_in sX6_31 rfl rfl (by decide) (cat_i (cat_i (cat_i cat_nil))) (by simp) (by decide) (by first | decide | omega) (by first | decide | omega) (c_mIn) ?_
  refine ret_elim ?_
  refine go_if_eq (z := 14) (z2 := 10) dX6_message_7 rfl (by decide) (fun h => bad (fun q => b2i_no h (fun _ => decide_eq_true q.1) trivial)) (fun hk => ?_)
  obtain ⟨hk0, hk6⟩ := of_decide_eq_true (b2i_ne hk)
  refine go_iload_n (z := 11) dX6_message_10 rfl rfl ?_
  refine go_if_ge (z := 17) (z2 := 14) dX6_message_11 rfl (by decide) (fun hp => ?_) (fun h => bad (fun q => h q.2))
  rw [if_pos ⟨⟨hk0, hk6⟩, hp⟩]
  obtain ⟨w, hw, ew⟩ := nI_of (Int32.not_lt.mpr hk0)
  obtain ⟨q, hq, eq⟩ := nI_of (Int32.not_lt.mpr hp)
  subst ew eq
  have hw6 := (nI_leI (b := 6) hw (by omega)).mp hk6
  rw [nI_clamp hq]
  refine go_aload_n (z := 18) dX6_message_17 rfl rfl ?_
  refine go_iload_n (z := 19) dX6_message_18 rfl rfl ?_
  refine go_callV (z := 22) (t := 6) [.int (nI q)] dX6_message_19 rfl mlX6_ranked vX6_152 ⟨by decide, rfl⟩ hM rfl rfl (by decide) (cat_i cat_nil) (by simp) (by decide) (by first | decide | omega) (by first | decide | omega) (at_i (a := M + 1) (c_mRanked hX hA.2.2.2.2.2.2.1.1 h144)) ?_
  refine ret_elim ?_
  refine go_istore_n (z := 23) dX6_message_22 rfl (by decide) ?_
  refine go_iload_n (z := 24) dX6_message_23 rfl rfl ?_
  refine go_bipush (z := 26) (v := (-5)) dX6_message_24 rfl (by decide) ?_
  rcases hA.rank hB hq with ⟨r1, r2⟩ | ⟨j, y, r1, r2, r3, -⟩
  · rw [r1, r2]
    refine go_icmp_ne (z := 32) (z2 := 29) dX6_message_26 rfl (by decide) (fun h => absurd rfl h) (fun _ => ?_)
    refine go_bipush (z := 31) (v := (-5)) dX6_message_29 rfl (by decide) ?_
    exact go_iret dX6_message_31 rfl ret_ok
  · rw [r1, r3]
    have hj : j < ml.length := (List.getElem?_eq_some_iff.mp r2).1
    obtain ⟨g, g5⟩ := hA.2.2.2.2.2.2.1.2.2 j y r2
    refine go_icmp_ne (z := 32) (z2 := 29) dX6_message_26 rfl (by decide) (fun _ => ?_) (fun h => absurd h (o2i_n (k := j) (by omega)))
    show Go l G mX6_message _ _ _ 32 _ _ n i r (RetI (tellM E y.1 (nI w) (A.1.1 0)) n i r)
    obtain ⟨t0, t1, t2, t3, t4, t5, t6⟩ := tellM_ix E y.1 (A.1.1 0)
    have four : ∀ w, w < 4 → tellM E y.1 (nI w) (A.1.1 0) = y.1.1 w := fun w hw => by
      rcases (show w = 0 ∨ w = 1 ∨ w = 2 ∨ w = 3 by omega) with e | e | e | e <;> subst e
      · exact t0
      · exact t1
      · exact t2
      · exact t3
    refine go_iload_n (z := 33) dX6_message_32 rfl rfl ?_
    refine go_iconst (z := 34) (v := 4) dX6_message_33 rfl (by decide) ?_
    by_cases hw4 : w < 4
    · refine go_icmp_ge (z := 44) (z2 := 37) dX6_message_34 rfl (by decide) (fun h => absurd ((nI_leI (a := 4) (by omega) hw).mp h) (by omega)) (fun _ => ?_)
      refine go_aload_n (z := 38) dX6_message_37 rfl rfl ?_
      refine go_iload_n (z := 39) dX6_message_38 rfl rfl ?_
      refine go_iload_n (z := 40) dX6_message_39 rfl rfl ?_
      refine go_callV (z := 43) (t := 6) [.int (nI j), .int (nI w)] dX6_message_40 rfl mlX6_ofMessage vX6_60 ⟨by decide, rfl⟩ hM rfl rfl (by decide) (cat_i (cat_i cat_nil)) (by simp) (by decide) (by first | decide | omega) (by first | decide | omega) (at_i (a := M + 1) (c_mOfMsg hX (by omega) (by omega))) ?_
      refine ret_elim ?_
      rw [g w (by omega), four w hw4]
      exact go_iret dX6_message_43 rfl ret_ok
    · refine go_icmp_ge (z := 44) (z2 := 37) dX6_message_34 rfl (by decide) (fun _ => ?_) (fun h => absurd ((nI_leI (a := 4) (by omega) hw).mpr (by omega)) h)
      refine go_iload_n (z := 45) dX6_message_44 rfl rfl ?_
      refine go_iconst (z := 46) (v := 4) dX6_message_45 rfl (by decide) ?_
      by_cases hwe : w = 4
      · subst hwe
        refine go_icmp_ne (z := 63) (z2 := 49) dX6_message_46 rfl (by decide) (fun h => absurd rfl h) (fun _ => ?_)
        refine go_aload_n (z := 50) dX6_message_49 rfl rfl ?_
        refine go_iload_n (z := 51) dX6_message_50 rfl rfl ?_
        refine go_iconst (z := 52) (v := 4) dX6_message_51 rfl (by decide) ?_
        refine go_callV (z := 55) (t := 6) [.int (nI j), .int (nI 4)] dX6_message_52 rfl mlX6_ofMessage vX6_60 ⟨by decide, rfl⟩ hM rfl rfl (by decide) (cat_i (cat_i cat_nil)) (by simp) (by decide) (by first | decide | omega) (by first | decide | omega) (at_i (a := M + 1) (c_mOfMsg hX (by omega) (by omega))) ?_
        refine ret_elim ?_
        refine go_aload_n (z := 56) dX6_message_55 rfl rfl ?_
        refine go_getR (z := 59) dX6_message_56 rfl fX6_7 (by assumption) rfl (by assumption) ?_
        refine go_iconst (z := 60) (v := 0) dX6_message_59 rfl (by decide) ?_
        refine go_iald (z := 61) 0 (by assumption) (by decide) rfl (by omega) dX6_message_60 rfl ?_
        rw [g 4 (by omega), show i (M + 1) 0 = A.1.1 0 from hA.1 0 (by omega) (by omega) (by omega), t4]
        refine go_isub (z := 62) dX6_message_61 rfl ?_
        exact go_iret dX6_message_62 rfl ret_ok
      · refine go_icmp_ne (z := 63) (z2 := 49) dX6_message_46 rfl (by decide) (fun _ => ?_) (fun h => absurd ((nI_eq (b := 4) (by omega) (by omega)).mp h) hwe)
        refine go_aload_n (z := 64) dX6_message_63 rfl rfl ?_
        refine go_iload_n (z := 65) dX6_message_64 rfl rfl ?_
        refine go_iconst (z := 66) (v := 5) dX6_message_65 rfl (by decide) ?_
        refine go_callV (z := 69) (t := 6) [.int (nI j), .int (nI 5)] dX6_message_66 rfl mlX6_ofMessage vX6_60 ⟨by decide, rfl⟩ hM rfl rfl (by decide) (cat_i (cat_i cat_nil)) (by simp) (by decide) (by first | decide | omega) (by first | decide | omega) (at_i (a := M + 1) (c_mOfMsg hX (by omega) (by omega))) ?_
        refine ret_elim ?_
        rw [g5]
        rcases hA.2.2.2.2.2.2.2.1 y (List.mem_of_getElem? r2) with ⟨b1, b2⟩ | ⟨e, b1, b2⟩
        · rw [b2]
          refine go_iconst (z := 70) (v := 1) dX6_message_69 rfl (by decide) ?_
          refine go_isub (z := 71) dX6_message_70 rfl ?_
          refine go_istore (z := 73) dX6_message_71 rfl (by decide) ?_
          refine go_iload (z := 75) dX6_message_73 rfl rfl ?_
          refine go_if_ge (z := 82) (z2 := 78) dX6_message_75 rfl (by decide) (fun h => absurd h (by decide)) (fun _ => ?_)
          refine go_iconst (z := 79) (v := 0) dX6_message_78 rfl (by decide) ?_
          refine go_goto (z := 103) dX6_message_79 (by decide) ?_
          have e0 : tellM E y.1 (nI w) (A.1.1 0) = 0 := by
            rcases (show w = 5 ∨ w = 6 by omega) with e | e <;> subst e
            · rw [t5, b1]; rfl
            · rw [t6, b1]; rfl
          rw [e0]
          exact go_iret dX6_message_103 rfl ret_ok
        · have heb : e ∈ bsOf ml := by
            unfold bsOf
            exact List.mem_filterMap.mpr ⟨y, List.mem_of_getElem? r2, by rw [b1, if_neg (by omega)]; rfl⟩
          obtain ⟨e1, e2⟩ := (hA.2.2.2.1.2.2.2.2.2.2 e).mp heb
          have ea : 0 < eF (i (M + 1)) e 4 := by rw [e2]; decide
          obtain ⟨l1, l2, l3, l4⟩ := hA.2.2.2.2.1 e e1 (by omega) ea
          rw [b1]
          refine go_iconst (z := 70) (v := 1) dX6_message_69 rfl (by decide) ?_
          refine go_isub (z := 71) dX6_message_70 rfl ?_
          rw [nI_pred]
          refine go_istore (z := 73) dX6_message_71 rfl (by decide) ?_
          refine go_iload (z := 75) dX6_message_73 rfl rfl ?_
          refine go_if_ge (z := 82) (z2 := 78) dX6_message_75 rfl (by decide) (fun _ => ?_) (fun h => absurd (nI_pos' (by omega)) h)
          refine go_iload_n (z := 83) dX6_message_82 rfl rfl ?_
          refine go_iconst (z := 84) (v := 5) dX6_message_83 rfl (by decide) ?_
          rcases (show w = 5 ∨ w = 6 by omega) with ew | ew <;> subst ew
          · refine go_icmp_ne (z := 97) (z2 := 87) dX6_message_84 rfl (by decide) (fun h => absurd rfl h) (fun _ => ?_)
            refine go_aload_n (z := 88) dX6_message_87 rfl rfl ?_
            refine go_iload (z := 90) dX6_message_88 rfl rfl ?_
            refine go_iconst (z := 91) (v := 1) dX6_message_90 rfl (by decide) ?_
            refine go_callV (z := 94) (t := 6) [.int (nI e), .int (nI 1)] dX6_message_91 rfl mlX6_ofErrand vX6_39 ⟨by decide, rfl⟩ hM rfl rfl (by decide) (cat_i (cat_i cat_nil)) (by simp) (by decide) (by first | decide | omega) (by first | decide | omega) (at_i (a := M + 1) (c_mOfErrand hX e1 (by omega))) ?_
            refine ret_elim ?_
            refine go_goto (z := 103) dX6_message_94 (by decide) ?_
            rw [l3, t5, b2]
            exact go_iret dX6_message_103 rfl ret_ok
          · refine go_icmp_ne (z := 97) (z2 := 87) dX6_message_84 rfl (by decide) (fun _ => ?_) (fun h => absurd h (by decide))
            refine go_aload_n (z := 98) dX6_message_97 rfl rfl ?_
            refine go_iload (z := 100) dX6_message_98 rfl rfl ?_
            refine go_callV (z := 103) (t := 6) [.int (nI e)] dX6_message_100 rfl mlX6_sizeOf vX6_172 ⟨by decide, rfl⟩ hM rfl rfl (by decide) (cat_i cat_nil) (by simp) (by decide) (by first | decide | omega) (by first | decide | omega) (at_i (a := M + 1) (c_mSizeOf hX hA.2.2.2.1.2.1 e1)) ?_
            refine ret_elim ?_
            rw [RelG.sizeA hA hE e1 ea, t6, b2]
            exact go_iret dX6_message_103 rfl ret_ok
end MTELLW
