def StepsOk (E : EE) (Gd : Nat → Prop) : Nat → MS → Prop
  | 0, _ => True
  | c + 1, m => (∃ x rest, m.2.2.2.2 = x :: rest ∧ ArrOk E Gd x m) ∧ StepsOk E Gd c (mStep E m)
def mWorkN : Nat → MS → MS
  | 0, m => m
  | c + 1, m => mWorkB c (mWorkN c m)
theorem mWorks_N (m : MS) : mWorks m = mWorkN 6 m := rfl
def TickOk (E : EE) (Gd : Nat → Prop) (m : MS) : Prop := StepsOk E Gd (cntA ((sZ m 0 (m.1 0 + 1)).1 0) (sZ m 0 (m.1 0 + 1)).2.2.2.2) (sZ m 0 (m.1 0 + 1)) ∧ ∀ q, q < 6 → (mWorkN q (mArrive E (sZ m 0 (m.1 0 + 1)))).2.2.2.2.length < 141
theorem cntA_le (t : Int32) (ms : List Mg) : cntA t ms ≤ ms.length := by
  unfold cntA
  exact List.Sublist.length_le (List.takeWhile_sublist _)
theorem mSendF_ge {E : EE} {h : Nat} {m : MS} : m.2.2.2.2.length ≤ (mSendF E h m).2.2.2.2.length := by
  unfold mSendF
  split
  · exact Nat.le_refl _
  · rw [mPost_len]; exact Nat.le_succ _
theorem mSendL_ge {E : EE} {h c : Nat} {m : MS} : m.2.2.2.2.length ≤ (mSendL E h c m).2.2.2.2.length := by
  induction c generalizing m with
  | zero => exact Nat.le_refl _
  | succ c ih =>
    unfold mSendL
    split
    · exact Nat.le_trans mSendF_ge ih
    · exact Nat.le_refl _
theorem mSend_ge {E : EE} {h : Nat} {m : MS} : m.2.2.2.2.length ≤ (mSend E h m).2.2.2.2.length := by
  unfold mSend mAsk
  refine Nat.le_trans (mSendL_ge (E := E) (h := h) (c := (m.2.2.2.1 h).length)) ?_
  split
  · rw [mPost_len]; exact Nat.le_succ _
  · exact Nat.le_refl _
theorem mArr_3 {E : EE} {x : Mg} {m : MS} (h : x.1 0 = 3) : mArr E x m = sZ m 8 (m.1 8 + x.1 3) := by
  unfold mArr
  rw [if_pos h]
theorem mArr_1 {E : EE} {x : Mg} {m : MS} (h : ¬ x.1 0 = 3) (h1 : x.1 0 = 1) : mArr E x m = mPost (mMint m) 2 6 (x.1 1).toNatClampNeg (coin m) none := by
  unfold mArr
  rw [if_neg h, if_pos h1]
theorem mArr_2 {E : EE} {x : Mg} {m : MS} (h : ¬ x.1 0 = 3) (h1 : ¬ x.1 0 = 1) (h2 : x.1 0 = 2) : mArr E x m = mSend E (x.1 2).toNatClampNeg (sH (sH m (x.1 2).toNatClampNeg 1 (m.2.2.1 (x.1 2).toNatClampNeg 1 + x.1 3)) (x.1 2).toNatClampNeg 4 0) := by
  unfold mArr
  rw [if_neg h, if_neg h1, if_pos h2]
theorem mArr_0 {E : EE} {x : Mg} {m : MS} {a : Nat} (h : ¬ x.1 0 = 3) (h1 : ¬ x.1 0 = 1) (h2 : ¬ x.1 0 = 2) (ha : x.2 = some a) : mArr E x m = mSend E (x.1 2).toNatClampNeg (mTake E (x.1 2).toNatClampNeg a (sH m (x.1 2).toNatClampNeg 1 (m.2.2.1 (x.1 2).toNatClampNeg 1 + x.1 3))) := by
  unfold mArr
  rw [if_neg h, if_neg h1, if_neg h2, ha]
theorem mArr_n {E : EE} {x : Mg} {m : MS} (h : ¬ x.1 0 = 3) (h1 : ¬ x.1 0 = 1) (h2 : ¬ x.1 0 = 2) (ha : x.2 = none) : mArr E x m = mSend E (x.1 2).toNatClampNeg (sH m (x.1 2).toNatClampNeg 1 (m.2.2.1 (x.1 2).toNatClampNeg 1 + x.1 3)) := by
  unfold mArr
  rw [if_neg h, if_neg h1, if_neg h2, ha]
theorem mArr_ge {E : EE} {x : Mg} {m : MS} : m.2.2.2.2.length ≤ (mArr E x m).2.2.2.2.length := by
  by_cases h : x.1 0 = 3
  · rw [mArr_3 h]; exact Nat.le_refl m.2.2.2.2.length
  by_cases h1 : x.1 0 = 1
  · rw [mArr_1 h h1, mPost_len]; exact Nat.le_succ m.2.2.2.2.length
  by_cases h2 : x.1 0 = 2
  · rw [mArr_2 h h1 h2]
    exact mSend_ge (E := E) (h := (x.1 2).toNatClampNeg) (m := sH (sH m (x.1 2).toNatClampNeg 1 (m.2.2.1 (x.1 2).toNatClampNeg 1 + x.1 3)) (x.1 2).toNatClampNeg 4 0)
  cases ha : x.2 with
  | some a =>
    rw [mArr_0 h h1 h2 ha]
    exact mSend_ge (E := E) (h := (x.1 2).toNatClampNeg) (m := mTake E (x.1 2).toNatClampNeg a (sH m (x.1 2).toNatClampNeg 1 (m.2.2.1 (x.1 2).toNatClampNeg 1 + x.1 3)))
  | none =>
    rw [mArr_n h h1 h2 ha]
    exact mSend_ge (E := E) (h := (x.1 2).toNatClampNeg) (m := sH m (x.1 2).toNatClampNeg 1 (m.2.2.1 (x.1 2).toNatClampNeg 1 + x.1 3))
theorem sZ_s (m : MS) (k : Nat) (x : Int32) : (sZ m k x).1 k = x := by
  show up1 m.1 k x k = x
  exact up1_s
theorem sZ_n (m : MS) {k q : Nat} (x : Int32) (h : q ≠ k) : (sZ m k x).1 q = m.1 q := by
  show up1 m.1 k x q = m.1 q
  exact up1_n h
section STATE5
variable {l : Launch} {G : GG} {n : Nat} {i : IP} {r : RP} {S : Nat} {m : MS} {E : EE} {Gd : Nat → Prop}
theorem c_tick (hL : StL G n S) (hR : Rep S m i r) (hE : RepE G n E Gd i r) (hok : TickOk E Gd m) : Go l G mX4_tick 4 0 0 0 (lentry [.ref S] 3) [] n i r (Chg n S i r (mTick E m)) := by
  have hs := hL.s
  have hhs := hL.hs
  have hmm := hL.ms
  obtain ⟨hst, hwk⟩ := hok
  refine go_aload_n (z := 1) dX4_tick_0 rfl rfl ?_
  refine go_dup (z := 2) dX4_tick_1 rfl rfl ?_
  refine go_getI (z := 5) dX4_tick_2 rfl fX4_40 (by assumption) rfl ?_
  refine go_iconst (z := 6) (v := 1) dX4_tick_5 rfl (by decide) ?_
  refine go_iadd (z := 7) dX4_tick_6 rfl ?_
  refine go_putI (z := 10) dX4_tick_7 rfl fX4_40 (by assumption) rfl (Or.inl rfl) rfl ?_
  rw [hR.2.1 0 (by omega)]
  have hR1 := hR.putZ (k := 0) (m.1 0 + 1) (by omega)
  have hO1 : Out S i r (ups i S 0 (m.1 0 + 1)) r := Out.pi (by omega) (by omega)
  generalize ups i S 0 (m.1 0 + 1) = i1 at hR1 hO1 ⊢
  have hm1 : ∃ m1, m1 = sZ m 0 (m.1 0 + 1) := ⟨_, rfl⟩
  obtain ⟨m1, hm1⟩ := hm1
  have ht : mTick E m = mWorkN 6 (mSteps E (cntA (m1.1 0) m1.2.2.2.2) m1) := by rw [hm1]; rfl
  have hma : mArrive E m1 = mSteps E (cntA (m1.1 0) m1.2.2.2.2) m1 := rfl
  rw [← hm1] at hst hwk hR1
  rw [hma] at hwk
  rw [ht]
  clear ht hma hm1
  have hlen : m1.2.2.2.2.length ≤ 141 := by obtain ⟨-, -, -, -, -, -, -, h, -⟩ := hR1; exact h
  have hcl := cntA_le (m1.1 0) m1.2.2.2.2
  have hcnt := c_countArriving (l := l) hL hR1
  have hcc : ∃ c, c = cntA (m1.1 0) m1.2.2.2.2 := ⟨_, rfl⟩
  obtain ⟨cnt, hcc⟩ := hcc
  rw [← hcc] at hst hwk hcl hcnt ⊢
  clear hcc
  have works : ∀ (d h : Nat) (i' : IP) (r' : RP), h + d = 6 → Rep S (mWorkN h (mSteps E cnt m1)) i' r' → Out S i r i' r' → Go l G mX4_tick 4 0 0 45 [some (.ref S), some (.int (nI cnt)), some (.int (nI h))] [] n i' r' (Chg n S i r (mWorkN 6 (mSteps E cnt m1))) := by
    intro d
    induction d with
    | zero =>
      intro h i' r' hh hR' hO'
      have e4 := hR'.1.2.1
      have hh : h = 6 := by omega
      subst hh
      refine go_iload_n (z := 46) dX4_tick_45 rfl rfl ?_
      refine go_aload_n (z := 47) dX4_tick_46 rfl rfl ?_
      refine go_getR (z := 50) dX4_tick_47 rfl fX4_24 (by assumption) rfl (by assumption) ?_
      refine go_alen (z := 51) (by assumption) (by decide) dX4_tick_50 rfl ?_
      refine go_icmp_ge (z := 77) (z2 := 54) dX4_tick_51 rfl (by decide) (fun _ => ?_) (fun h => absurd (by decide) h)
      exact go_vret dX4_tick_77 rfl ⟨rfl, rfl, hR', hO'⟩
    | succ d ih =>
      intro h i' r' hh hR' hO'
      have hh6 : h < 6 := by omega
      have e4 := hR'.1.2.1
      have eh := (hR'.1.2.2.2 h hh6).1
      have hho := hL.ho hh6
      have hv0 : i' (S + 4 + 2 * h) 0 = (mWorkN h (mSteps E cnt m1)).2.2.1 h 0 := hR'.2.2.2.1 h hh6 0 (by omega)
      refine go_iload_n (z := 46) dX4_tick_45 rfl rfl ?_
      refine go_aload_n (z := 47) dX4_tick_46 rfl rfl ?_
      refine go_getR (z := 50) dX4_tick_47 rfl fX4_24 (by assumption) rfl (by assumption) ?_
      refine go_alen (z := 51) (by assumption) (by decide) dX4_tick_50 rfl ?_
      refine go_icmp_ge (z := 77) (z2 := 54) dX4_tick_51 rfl (by decide) (fun q => absurd q (nI_ge hh6 (by omega))) (fun _ => ?_)
      refine go_aload_n (z := 55) dX4_tick_54 rfl rfl ?_
      refine go_getR (z := 58) dX4_tick_55 rfl fX4_24 (by assumption) rfl (by assumption) ?_
      refine go_iload_n (z := 59) dX4_tick_58 rfl rfl ?_
      refine go_aaldR (z := 60) _ (by assumption) ⟨by decide, by decide⟩ (by decide) rfl (by omega) (by assumption) dX4_tick_59 rfl ?_
      refine go_getI (z := 63) dX4_tick_60 rfl fX4_152 (by assumption) rfl ?_
      have nxt : ∀ (i2 : IP) (r2 : RP), Rep S (mWorkN (h + 1) (mSteps E cnt m1)) i2 r2 → Out S i r i2 r2 → Go l G mX4_tick 4 0 0 71 [some (.ref S), some (.int (nI cnt)), some (.int (nI h))] [] n i2 r2 (Chg n S i r (mWorkN 6 (mSteps E cnt m1))) := by
        intro i2 r2 hR2 hO2
        refine go_iinc (z := 74) dX4_tick_71 rfl rfl (nI_1 h) (by decide) ?_
        refine go_goto (z := 45) dX4_tick_74 (by decide) ?_
        exact go_lo (lo' := [some (.ref S), some (.int (nI cnt)), some (.int (nI (h + 1)))]) rfl (ih (h + 1) i2 r2 (by omega) hR2 hO2)
      have hN : mWorkN (h + 1) (mSteps E cnt m1) = mWorkB h (mWorkN h (mSteps E cnt m1)) := rfl
      refine go_if_eq (z := 71) (z2 := 66) dX4_tick_63 rfl (by decide) (fun hb => ?_) (fun hb => ?_)
      · rw [hv0] at hb
        refine nxt i' r' ?_ hO'
        rw [hN]; unfold mWorkB; rw [if_pos hb]
        exact hR'
      · rw [hv0] at hb
        refine go_aload_n (z := 67) dX4_tick_66 rfl rfl ?_
        refine go_iload_n (z := 68) dX4_tick_67 rfl rfl ?_
        refine go_callV (z := 71) (t := 4) [.int (nI h)] dX4_tick_68 rfl mlX4_workIn vX4_155 ⟨by decide, rfl⟩ (by assumption) rfl rfl (by decide) (cat_i cat_nil) (by simp) (by decide) (by first | decide | omega) (by first | decide | omega) (c_workIn hh6 hL hR' (hwk h hh6)) ?_
        refine chg_elim (fun i3 r3 hR3 hO3 => ?_)
        refine nxt i3 r3 ?_ (hO'.tr hO3)
        rw [hN]; unfold mWorkB; rw [if_neg hb]
        exact hR3
  have loop : ∀ (d a : Nat) (m' : MS) (i' : IP) (r' : RP), a + d = cnt → mSteps E d m' = mSteps E cnt m1 → StepsOk E Gd d m' → Rep S m' i' r' → Out S i r i' r' → Go l G mX4_tick 4 0 0 17 [some (.ref S), some (.int (nI cnt)), some (.int (nI a))] [] n i' r' (Chg n S i r (mWorkN 6 (mSteps E cnt m1))) := by
    intro d
    induction d with
    | zero =>
      intro a m' i' r' ha hm hok hR' hO'
      refine go_iload_n (z := 18) dX4_tick_17 rfl rfl ?_
      refine go_iload_n (z := 19) dX4_tick_18 rfl rfl ?_
      refine go_icmp_ge (z := 43) (z2 := 22) dX4_tick_19 rfl (by decide) (fun _ => ?_) (fun h => absurd (nI_le (by omega) (by omega)) h)
      refine go_iconst (z := 44) (v := 0) dX4_tick_43 rfl (by decide) ?_
      refine go_istore_n (z := 45) dX4_tick_44 rfl (by decide) ?_
      refine go_lo (lo' := [some (.ref S), some (.int (nI cnt)), some (.int (nI 0))]) rfl (works 6 0 i' r' (by omega) ?_ hO')
      rw [← hm]; exact hR'
    | succ d ih =>
      intro a m' i' r' ha hm hok hR' hO'
      obtain ⟨⟨x, rest, hx, harr⟩, hok2⟩ := hok
      have hR0 := hR'
      obtain ⟨-, -, -, -, -, mx, hX, hlen', h6', hM'⟩ := hR'
      obtain ⟨hx1, hx2, hx3⟩ := hX.1 0 (by omega)
      have e5 := hR0.1.2.2.1
      have hM0 := hM' 0 x (by rw [hx]; rfl)
      refine go_iload_n (z := 18) dX4_tick_17 rfl rfl ?_
      refine go_iload_n (z := 19) dX4_tick_18 rfl rfl ?_
      refine go_icmp_ge (z := 43) (z2 := 22) dX4_tick_19 rfl (by decide) (fun h => absurd h (nI_ge (by omega) (by omega))) (fun _ => ?_)
      refine go_aload_n (z := 23) dX4_tick_22 rfl rfl ?_
      refine go_aload_n (z := 24) dX4_tick_23 rfl rfl ?_
      refine go_getR (z := 27) dX4_tick_24 rfl fX4_30 (by assumption) rfl (by assumption) ?_
      refine go_iconst (z := 28) (v := 0) dX4_tick_27 rfl (by decide) ?_
      refine go_aaldR (z := 29) 0 (by assumption) ⟨by decide, by decide⟩ (by decide) rfl (by omega) (by assumption) dX4_tick_28 rfl ?_
      refine go_callV (z := 32) (t := 4) [.ref (mx 0)] dX4_tick_29 rfl mlX4_arrive vX4_149 ⟨by decide, rfl⟩ (by assumption) rfl rfl (by decide) (cat_r cat_nil) (by simp) (by decide) (by first | decide | omega) (by first | decide | omega) (c_arrive hL hR0 (hE.out hL hO') hx2 hx3 hM0.1 hM0.2 harr) ?_
      refine chg_elim (fun i2 r2 hR2 hO2 => ?_)
      have hge := mArr_ge (E := E) (x := x) (m := m')
      refine go_aload_n (z := 33) dX4_tick_32 rfl rfl ?_
      refine go_iconst (z := 34) (v := 0) dX4_tick_33 rfl (by decide) ?_
      refine go_callV (z := 37) (t := 4) [.int (nI 0)] dX4_tick_34 rfl mlX4_takeOut vX4_131 ⟨by decide, rfl⟩ (by assumption) rfl rfl (by decide) (cat_i cat_nil) (by simp) (by decide) (by first | decide | omega) (by first | decide | omega) (c_takeOut (k := 0) hL hR2 (by rw [hx] at hge; simp at hge; omega)) ?_
      refine chg_elim (fun i3 r3 hR3 hO3 => ?_)
      refine go_iinc (z := 40) dX4_tick_37 rfl rfl (nI_1 a) (by decide) ?_
      refine go_goto (z := 17) dX4_tick_40 (by decide) ?_
      have hs3 : mStep E m' = mOut 0 (mArr E x m') := by unfold mStep; rw [hx]
      refine go_lo (lo' := [some (.ref S), some (.int (nI cnt)), some (.int (nI (a + 1)))]) rfl (ih (a + 1) (mStep E m') i3 r3 (by omega) hm hok2 (by rw [hs3]; exact hR3) ((hO'.tr hO2).tr hO3))
  refine go_aload_n (z := 11) dX4_tick_10 rfl rfl ?_
  refine go_callV (z := 14) (t := 4) [] dX4_tick_11 rfl mlX4_countArriving vX4_146 ⟨by decide, rfl⟩ (by assumption) rfl rfl (by decide) cat_nil (by simp) (by decide) (by first | decide | omega) (by first | decide | omega) (hcnt) ?_
  refine ret_elim ?_
  refine go_istore_n (z := 15) dX4_tick_14 rfl (by decide) ?_
  refine go_iconst (z := 16) (v := 0) dX4_tick_15 rfl (by decide) ?_
  refine go_istore_n (z := 17) dX4_tick_16 rfl (by decide) ?_
  exact go_lo (lo' := [some (.ref S), some (.int (nI cnt)), some (.int (nI 0))]) rfl (loop cnt 0 m1 i1 r (by omega) rfl hst hR1 hO1)
theorem c_loseAskX {h : Nat} (hh : h < 6) (hL : StL G n S) (hR : Rep S m i r) : Go l G mX4_loseAskOf 1 0 0 0 (lentry [.ref S, .int (nI h)] 2) [] n i r (fun v n' i' r' => v = none ∧ n' = n ∧ i' = ups i (S + 4 + 2 * h) 5 1 ∧ r' = r) := by
  have hs := hL.s
  have hhs := hL.hs
  have e4 := hR.1.2.1
  have eh := (hR.1.2.2.2 h hh).1
  have hho := hL.ho hh
  refine go_iload_n (z := 1) dX4_loseAskOf_0 rfl rfl ?_
  refine go_callSN (z := 4) [.int (nI h)] dX4_loseAskOf_1 rfl mlX5_isHouse sX4_134 rfl rfl (by decide) (cat_i cat_nil) (by simp) (by decide) (by first | decide | omega) (by first | decide | omega) (c_house1 hh) ?_
  refine ret_elim ?_
  refine go_if_eq (z := 17) (z2 := 7) dX4_loseAskOf_4 rfl (by decide) (fun h => absurd h (by decide)) (fun _ => ?_)
  refine go_aload_n (z := 8) dX4_loseAskOf_7 rfl rfl ?_
  refine go_getR (z := 11) dX4_loseAskOf_8 rfl fX4_24 (by assumption) rfl (by assumption) ?_
  refine go_iload_n (z := 12) dX4_loseAskOf_11 rfl rfl ?_
  refine go_aaldR (z := 13) _ (by assumption) ⟨by decide, by decide⟩ (by decide) rfl (by omega) (by assumption) dX4_loseAskOf_12 rfl ?_
  refine go_iconst (z := 14) (v := 1) dX4_loseAskOf_13 rfl (by decide) ?_
  refine go_putI (z := 17) dX4_loseAskOf_14 rfl fX4_137 (by assumption) rfl (Or.inl rfl) (congrArg Value.int (by decide)) ?_
  refine go_vret dX4_loseAskOf_17 rfl ?_
  exact ⟨rfl, rfl, rfl, rfl⟩
theorem c_dropMessage {k : Nat} {x : Mg} (hL : StL G n S) (hR : Rep S m i r) (hx : m.2.2.2.2[k]? = some x) (hok : MgOk Gd x) : Go l G mX4_dropMessage 2 0 0 0 (lentry [.ref S, .int (nI k)] 4) [] n i r (ChgI (x.1 3) n S i r (mDrop k x m)) := by
  have hs := hL.s
  have hmm := hL.ms
  have hR0 := hR
  have hk : k < m.2.2.2.2.length := (List.getElem?_eq_some_iff.mp hx).1
  obtain ⟨f, t, hf, ht, hxf, hxt, hkind⟩ := hok
  obtain ⟨-, -, -, -, -, mx, hX, hlen, h6, hM⟩ := hR
  obtain ⟨hx1, hx2, hx3⟩ := hX.1 k (by omega)
  have hMk := hM k x hx
  have hMe := hL.me hx2 hx3
  have e5 := hR0.1.2.2.1
  have hnf : (nI f).toNatClampNeg = f := nI_clamp (by omega)
  have hnt : (nI t).toNatClampNeg = t := nI_clamp (by omega)
  refine go_aload_n (z := 1) dX4_dropMessage_0 rfl rfl ?_
  refine go_iload_n (z := 2) dX4_dropMessage_1 rfl rfl ?_
  refine go_callV (z := 5) (t := 4) [.int (nI k)] dX4_dropMessage_2 rfl mlX4_isOnItsWay vX4_54 ⟨by decide, rfl⟩ (by assumption) rfl rfl (by decide) (cat_i cat_nil) (by simp) (by decide) (by first | decide | omega) (by first | decide | omega) (c_isOn1 hL hR0 hk) ?_
  refine ret_elim ?_
  refine go_if_ne (z := 10) (z2 := 8) dX4_dropMessage_5 rfl (by decide) (fun _ => ?_) (fun h => absurd h (by decide))
  refine go_aload_n (z := 11) dX4_dropMessage_10 rfl rfl ?_
  refine go_getR (z := 14) dX4_dropMessage_11 rfl fX4_30 (by assumption) rfl (by assumption) ?_
  refine go_iload_n (z := 15) dX4_dropMessage_14 rfl rfl ?_
  refine go_aaldR (z := 16) k (by assumption) ⟨by decide, by decide⟩ (by decide) rfl (by omega) (by assumption) dX4_dropMessage_15 rfl ?_
  refine go_astore_n (z := 17) dX4_dropMessage_16 rfl (by decide) ?_
  refine go_aload_n (z := 18) dX4_dropMessage_17 rfl rfl ?_
  refine go_getI (z := 21) dX4_dropMessage_18 rfl fX4_117 hMe rfl ?_
  refine go_istore_n (z := 22) dX4_dropMessage_21 rfl (by decide) ?_
  refine go_aload_n (z := 23) dX4_dropMessage_22 rfl rfl ?_
  refine go_getI (z := 26) dX4_dropMessage_23 rfl fX4_108 hMe rfl ?_
  refine go_iconst (z := 27) (v := 1) dX4_dropMessage_26 rfl (by decide) ?_
  rw [hMk.1 3 (by omega), hMk.1 0 (by omega)]
  have last : ∀ (m2 : MS) (i2 : IP), m2.2.2.2.2 = m.2.2.2.2 → mDrop k x m = mOut k (sZ (sZ (sZ m2 9 (m2.1 9 + x.1 3)) 12 (m2.1 12 + 1)) 13 1) → Rep S m2 i2 r → Out S i r i2 r → Go l G mX4_dropMessage 2 0 0 54 [some (.ref S), some (.int (nI k)), some (.ref (mx k)), some (.int (x.1 3))] [] n i2 r (ChgI (x.1 3) n S i r (mDrop k x m)) := by
    intro m2 i2 hms hd hR2 hO2
    refine go_aload_n (z := 55) dX4_dropMessage_54 rfl rfl ?_
    refine go_dup (z := 56) dX4_dropMessage_55 rfl rfl ?_
    refine go_getI (z := 59) dX4_dropMessage_56 rfl fX4_67 (by assumption) rfl ?_
    refine go_iload_n (z := 60) dX4_dropMessage_59 rfl rfl ?_
    refine go_iadd (z := 61) dX4_dropMessage_60 rfl ?_
    refine go_putI (z := 64) dX4_dropMessage_61 rfl fX4_67 (by assumption) rfl (Or.inl rfl) rfl ?_
    refine go_aload_n (z := 65) dX4_dropMessage_64 rfl rfl ?_
    refine go_dup (z := 66) dX4_dropMessage_65 rfl rfl ?_
    refine go_getI (z := 69) dX4_dropMessage_66 rfl fX4_76 (by assumption) rfl ?_
    refine go_iconst (z := 70) (v := 1) dX4_dropMessage_69 rfl (by decide) ?_
    refine go_iadd (z := 71) dX4_dropMessage_70 rfl ?_
    refine go_putI (z := 74) dX4_dropMessage_71 rfl fX4_76 (by assumption) rfl (Or.inl rfl) rfl ?_
    refine go_aload_n (z := 75) dX4_dropMessage_74 rfl rfl ?_
    refine go_iconst (z := 76) (v := 1) dX4_dropMessage_75 rfl (by decide) ?_
    refine go_putI (z := 79) dX4_dropMessage_76 rfl fX4_79 (by assumption) rfl (Or.inl rfl) (congrArg Value.int (by decide)) ?_
    rw [show ups i2 S 9 (i2 S 9 + x.1 3) S 12 = i2 S 12 from ups_k (by decide), hR2.2.1 9 (by omega), hR2.2.1 12 (by omega)]
    have hR3 := ((hR2.putZ (k := 9) (m2.1 9 + x.1 3) (by omega)).putZ (k := 12) (m2.1 12 + 1) (by omega)).putZ (k := 13) 1 (by omega)
    have hO3 : Out S i2 r (ups (ups (ups i2 S 9 (m2.1 9 + x.1 3)) S 12 (m2.1 12 + 1)) S 13 1) r := ((Out.pi (by omega) (by omega)).tr (Out.pi (by omega) (by omega))).tr (Out.pi (by omega) (by omega))
    refine go_aload_n (z := 80) dX4_dropMessage_79 rfl rfl ?_
    refine go_iload_n (z := 81) dX4_dropMessage_80 rfl rfl ?_
    refine go_callV (z := 84) (t := 4) [.int (nI k)] dX4_dropMessage_81 rfl mlX4_takeOut vX4_131 ⟨by decide, rfl⟩ (by assumption) rfl rfl (by decide) (cat_i cat_nil) (by simp) (by decide) (by first | decide | omega) (by first | decide | omega) (c_takeOut hL hR3 (by show k < m2.2.2.2.2.length; rw [hms]; exact hk)) ?_
    refine chg_elim (fun i4 r4 hR4 hO4 => ?_)
    refine go_iload_n (z := 85) dX4_dropMessage_84 rfl rfl ?_
    refine go_iret dX4_dropMessage_85 rfl ⟨rfl, rfl, ?_, (hO2.tr hO3).tr hO4⟩
    rw [hd]
    exact hR4
  have hm0 : mDrop k x m = mOut k (let m2 := if x.1 0 = 2 then sH (if x.1 0 = 1 then sH m (x.1 1).toNatClampNeg 5 1 else m) (x.1 2).toNatClampNeg 5 1 else (if x.1 0 = 1 then sH m (x.1 1).toNatClampNeg 5 1 else m); sZ (sZ (sZ m2 9 (m2.1 9 + x.1 3)) 12 (m2.1 12 + 1)) 13 1) := rfl
  refine go_icmp_ne (z := 38) (z2 := 30) dX4_dropMessage_27 rfl (by decide) (fun h1 => ?_) (fun h1 => ?_)
  · refine go_aload_n (z := 39) dX4_dropMessage_38 rfl rfl ?_
    refine go_getI (z := 42) dX4_dropMessage_39 rfl fX4_108 hMe rfl ?_
    refine go_iconst (z := 43) (v := 2) dX4_dropMessage_42 rfl (by decide) ?_
    rw [hMk.1 0 (by omega)]
    refine go_icmp_ne (z := 54) (z2 := 46) dX4_dropMessage_43 rfl (by decide) (fun h2 => ?_) (fun h2 => ?_)
    · exact last m i rfl (by rw [hm0, if_neg h2, if_neg h1]) hR0 Out.rf
    · have htt : t < 6 := by
        rcases hkind with ⟨q, -⟩ | ⟨q, -⟩ | ⟨-, q, -⟩ | ⟨q, -⟩
        · rw [h2] at q; exact absurd q (by decide)
        · rw [h2] at q; exact absurd q (by decide)
        · exact q
        · rw [h2] at q; exact absurd q (by decide)
      refine go_aload_n (z := 47) dX4_dropMessage_46 rfl rfl ?_
      refine go_aload_n (z := 48) dX4_dropMessage_47 rfl rfl ?_
      refine go_getI (z := 51) dX4_dropMessage_48 rfl fX4_114 hMe rfl ?_
      refine go_st (st' := [.int (nI t), .ref S]) (by rw [hMk.1 2 (by omega), hxt]; rfl) ?_
      refine go_callV (z := 54) (t := 4) [.int (nI t)] dX4_dropMessage_51 rfl mlX4_loseAskOf vX4_127 ⟨by decide, rfl⟩ (by assumption) rfl rfl (by decide) (cat_i cat_nil) (by simp) (by decide) (by first | decide | omega) (by first | decide | omega) (c_loseAskX htt hL hR0) ?_
      intro v n2 i2 r2 hp
      obtain ⟨hp1, hp2, hp3, hp4⟩ := hp
      rw [hp1, hp2, hp3, hp4]
      exact last (sH m t 5 1) _ rfl (by rw [hm0, if_pos h2, if_neg h1, hxt, hnt]) (hR0.putH _ htt (by omega)) (Out.pi (by omega) (by omega))
  · have hff : f < 6 := by
      rcases hkind with ⟨q, -⟩ | ⟨-, q, -⟩ | ⟨q, -⟩ | ⟨q, -⟩
      · rw [h1] at q; exact absurd q (by decide)
      · exact q
      · rw [h1] at q; exact absurd q (by decide)
      · rw [h1] at q; exact absurd q (by decide)
    refine go_aload_n (z := 31) dX4_dropMessage_30 rfl rfl ?_
    refine go_aload_n (z := 32) dX4_dropMessage_31 rfl rfl ?_
    refine go_getI (z := 35) dX4_dropMessage_32 rfl fX4_111 hMe rfl ?_
    refine go_st (st' := [.int (nI f), .ref S]) (by rw [hMk.1 1 (by omega), hxf]; rfl) ?_
    refine go_callV (z := 38) (t := 4) [.int (nI f)] dX4_dropMessage_35 rfl mlX4_loseAskOf vX4_127 ⟨by decide, rfl⟩ (by assumption) rfl rfl (by decide) (cat_i cat_nil) (by simp) (by decide) (by first | decide | omega) (by first | decide | omega) (c_loseAskX hff hL hR0) ?_
    intro v n2 i2 r2 hp
    obtain ⟨hp1, hp2, hp3, hp4⟩ := hp
    rw [hp1, hp2, hp3, hp4]
    refine go_aload_n (z := 39) dX4_dropMessage_38 rfl rfl ?_
    refine go_getI (z := 42) dX4_dropMessage_39 rfl fX4_108 hMe rfl ?_
    refine go_iconst (z := 43) (v := 2) dX4_dropMessage_42 rfl (by decide) ?_
    rw [show ups i (S + 4 + 2 * f) 5 1 (mx k) 0 = x.1 0 by rw [ups_a (by omega)]; exact hMk.1 0 (by omega)]
    refine go_icmp_ne (z := 54) (z2 := 46) dX4_dropMessage_43 rfl (by decide) (fun h2 => ?_) (fun h2 => ?_)
    · exact last (sH m f 5 1) _ rfl (by rw [hm0, if_neg h2, if_pos h1, hxf, hnf]) (hR0.putH _ hff (by omega)) (Out.pi (by omega) (by omega))
    · rw [h1] at h2; exact absurd h2 (by decide)
def mGoodN (E : EE) : Nat → MS → MS
  | 0, m => m
  | c + 1, m => mGoodH E c (mGoodN E c m)
def mGood0 (m : MS) : MS := sZ (sZ (sZ m 8 (m.1 8 + m.1 9)) 9 0) 13 0
theorem mGood_N (E : EE) (m : MS) : mGood E m = mGoodN E 6 (mGood0 m) := rfl
def GoodOk (E : EE) (Gd : Nat → Prop) (m : MS) : Prop := ∀ q, q < 6 → (mGoodN E q m).2.2.2.2.length + ((mGoodN E q m).2.2.2.1 q).length ≤ 141 ∧ ∀ e ∈ (mGoodN E q m).2.2.2.1 q, Gd e
theorem c_replaceLost (hL : StL G n S) (hR : Rep S m i r) (hE : RepE G n E Gd i r) (hok : GoodOk E Gd (mGood0 m)) : Go l G mX4_replaceLost 3 0 0 0 (lentry [.ref S] 3) [] n i r (ChgI (m.1 9) n S i r (mGood E m)) := by
  have hs := hL.s
  have hhs := hL.hs
  refine go_aload_n (z := 1) dX4_replaceLost_0 rfl rfl ?_
  refine go_getI (z := 4) dX4_replaceLost_1 rfl fX4_67 (by assumption) rfl ?_
  refine go_istore_n (z := 5) dX4_replaceLost_4 rfl (by decide) ?_
  refine go_aload_n (z := 6) dX4_replaceLost_5 rfl rfl ?_
  refine go_dup (z := 7) dX4_replaceLost_6 rfl rfl ?_
  refine go_getI (z := 10) dX4_replaceLost_7 rfl fX4_64 (by assumption) rfl ?_
  refine go_iload_n (z := 11) dX4_replaceLost_10 rfl rfl ?_
  refine go_iadd (z := 12) dX4_replaceLost_11 rfl ?_
  refine go_putI (z := 15) dX4_replaceLost_12 rfl fX4_64 (by assumption) rfl (Or.inl rfl) rfl ?_
  refine go_aload_n (z := 16) dX4_replaceLost_15 rfl rfl ?_
  refine go_iconst (z := 17) (v := 0) dX4_replaceLost_16 rfl (by decide) ?_
  refine go_putI (z := 20) dX4_replaceLost_17 rfl fX4_67 (by assumption) rfl (Or.inl rfl) rfl ?_
  refine go_aload_n (z := 21) dX4_replaceLost_20 rfl rfl ?_
  refine go_iconst (z := 22) (v := 0) dX4_replaceLost_21 rfl (by decide) ?_
  refine go_putI (z := 25) dX4_replaceLost_22 rfl fX4_79 (by assumption) rfl (Or.inl rfl) (congrArg Value.int (by decide)) ?_
  refine go_iconst (z := 26) (v := 0) dX4_replaceLost_25 rfl (by decide) ?_
  refine go_istore_n (z := 27) dX4_replaceLost_26 rfl (by decide) ?_
  rw [hR.2.1 9 (by omega), hR.2.1 8 (by omega)]
  have hR1 := ((hR.putZ (k := 8) (m.1 8 + m.1 9) (by omega)).putZ (k := 9) 0 (by omega)).putZ (k := 13) 0 (by omega)
  have hO1 : Out S i r (ups (ups (ups i S 8 (m.1 8 + m.1 9)) S 9 0) S 13 0) r := ((Out.pi (by omega) (by omega)).tr (Out.pi (by omega) (by omega))).tr (Out.pi (by omega) (by omega))
  generalize ups (ups (ups i S 8 (m.1 8 + m.1 9)) S 9 0) S 13 0 = i1 at hR1 hO1 ⊢
  rw [mGood_N]
  have hm1 : mGood0 m = sZ (sZ (sZ m 8 (m.1 8 + m.1 9)) 9 0) 13 0 := rfl
  rw [← hm1] at hR1
  clear hm1
  generalize m.1 9 = gr
  generalize mGood0 m = m1 at *
  have works : ∀ (d h : Nat) (i' : IP) (r' : RP), h + d = 6 → Rep S (mGoodN E h m1) i' r' → Out S i r i' r' → Go l G mX4_replaceLost 3 0 0 27 [some (.ref S), some (.int gr), some (.int (nI h))] [] n i' r' (ChgI gr n S i r (mGoodN E 6 m1)) := by
    intro d
    induction d with
    | zero =>
      intro h i' r' hh hR' hO'
      have e4 := hR'.1.2.1
      have hh : h = 6 := by omega
      subst hh
      refine go_iload_n (z := 28) dX4_replaceLost_27 rfl rfl ?_
      refine go_aload_n (z := 29) dX4_replaceLost_28 rfl rfl ?_
      refine go_getR (z := 32) dX4_replaceLost_29 rfl fX4_24 (by assumption) rfl (by assumption) ?_
      refine go_alen (z := 33) (by assumption) (by decide) dX4_replaceLost_32 rfl ?_
      refine go_icmp_ge (z := 79) (z2 := 36) dX4_replaceLost_33 rfl (by decide) (fun _ => ?_) (fun h => absurd (by decide) h)
      refine go_iload_n (z := 80) dX4_replaceLost_79 rfl rfl ?_
      exact go_iret dX4_replaceLost_80 rfl ⟨rfl, rfl, hR', hO'⟩
    | succ d ih =>
      intro h i' r' hh hR' hO'
      have hh6 : h < 6 := by omega
      have e4 := hR'.1.2.1
      have eh := (hR'.1.2.2.2 h hh6).1
      have hho := hL.ho hh6
      have hv5 : i' (S + 4 + 2 * h) 5 = (mGoodN E h m1).2.2.1 h 5 := hR'.2.2.2.1 h hh6 5 (by omega)
      refine go_iload_n (z := 28) dX4_replaceLost_27 rfl rfl ?_
      refine go_aload_n (z := 29) dX4_replaceLost_28 rfl rfl ?_
      refine go_getR (z := 32) dX4_replaceLost_29 rfl fX4_24 (by assumption) rfl (by assumption) ?_
      refine go_alen (z := 33) (by assumption) (by decide) dX4_replaceLost_32 rfl ?_
      refine go_icmp_ge (z := 79) (z2 := 36) dX4_replaceLost_33 rfl (by decide) (fun q => absurd q (nI_ge hh6 (by omega))) (fun _ => ?_)
      refine go_aload_n (z := 37) dX4_replaceLost_36 rfl rfl ?_
      refine go_getR (z := 40) dX4_replaceLost_37 rfl fX4_24 (by assumption) rfl (by assumption) ?_
      refine go_iload_n (z := 41) dX4_replaceLost_40 rfl rfl ?_
      refine go_aaldR (z := 42) _ (by assumption) ⟨by decide, by decide⟩ (by decide) rfl (by omega) (by assumption) dX4_replaceLost_41 rfl ?_
      refine go_getI (z := 45) dX4_replaceLost_42 rfl fX4_137 (by assumption) rfl ?_
      have nxt : ∀ (i2 : IP) (r2 : RP), Rep S (mGoodN E (h + 1) m1) i2 r2 → Out S i r i2 r2 → Go l G mX4_replaceLost 3 0 0 73 [some (.ref S), some (.int gr), some (.int (nI h))] [] n i2 r2 (ChgI gr n S i r (mGoodN E 6 m1)) := by
        intro i2 r2 hR2 hO2
        refine go_iinc (z := 76) dX4_replaceLost_73 rfl rfl (nI_1 h) (by decide) ?_
        refine go_goto (z := 27) dX4_replaceLost_76 (by decide) ?_
        exact go_lo (lo' := [some (.ref S), some (.int gr), some (.int (nI (h + 1)))]) rfl (ih (h + 1) i2 r2 (by omega) hR2 hO2)
      have hN : mGoodN E (h + 1) m1 = mGoodH E h (mGoodN E h m1) := rfl
      refine go_if_eq (z := 73) (z2 := 48) dX4_replaceLost_45 rfl (by decide) (fun hb => ?_) (fun hb => ?_)
      · rw [hv5] at hb
        refine nxt i' r' ?_ hO'
        rw [hN]; unfold mGoodH; rw [if_pos hb]
        exact hR'
      · rw [hv5] at hb
        have hR2 := (hR'.putH (k := 5) 0 hh6 (by omega)).putH (k := 4) 0 hh6 (by omega)
        have hO2 : Out S i' r' (ups (ups i' (S + 4 + 2 * h) 5 0) (S + 4 + 2 * h) 4 0) r' := (Out.pi (by omega) (by omega)).tr (Out.pi (by omega) (by omega))
        refine go_aload_n (z := 49) dX4_replaceLost_48 rfl rfl ?_
        refine go_getR (z := 52) dX4_replaceLost_49 rfl fX4_24 (by assumption) rfl (by assumption) ?_
        refine go_iload_n (z := 53) dX4_replaceLost_52 rfl rfl ?_
        refine go_aaldR (z := 54) _ (by assumption) ⟨by decide, by decide⟩ (by decide) rfl (by omega) (by assumption) dX4_replaceLost_53 rfl ?_
        refine go_iconst (z := 55) (v := 0) dX4_replaceLost_54 rfl (by decide) ?_
        refine go_putI (z := 58) dX4_replaceLost_55 rfl fX4_137 (by assumption) rfl (Or.inl rfl) (congrArg Value.int (by decide)) ?_
        refine go_aload_n (z := 59) dX4_replaceLost_58 rfl rfl ?_
        refine go_getR (z := 62) dX4_replaceLost_59 rfl fX4_24 (by assumption) rfl (by assumption) ?_
        refine go_iload_n (z := 63) dX4_replaceLost_62 rfl rfl ?_
        refine go_aaldR (z := 64) _ (by assumption) ⟨by decide, by decide⟩ (by decide) rfl (by omega) (by assumption) dX4_replaceLost_63 rfl ?_
        refine go_iconst (z := 65) (v := 0) dX4_replaceLost_64 rfl (by decide) ?_
        refine go_putI (z := 68) dX4_replaceLost_65 rfl fX4_140 (by assumption) rfl (Or.inl rfl) (congrArg Value.int (by decide)) ?_
        refine go_aload_n (z := 69) dX4_replaceLost_68 rfl rfl ?_
        refine go_iload_n (z := 70) dX4_replaceLost_69 rfl rfl ?_
        refine go_callV (z := 73) (t := 4) [.int (nI h)] dX4_replaceLost_70 rfl mlX4_sendWhatItCan vX4_143 ⟨by decide, rfl⟩ (by assumption) rfl rfl (by decide) (cat_i cat_nil) (by simp) (by decide) (by first | decide | omega) (by first | decide | omega) (c_sendWhatItCan hh6 hL hR2 (hE.out hL (hO'.tr hO2)) (hok h hh6).2 (hok h hh6).1) ?_
        refine chg_elim (fun i3 r3 hR3 hO3 => ?_)
        refine nxt i3 r3 ?_ ((hO'.tr hO2).tr hO3)
        rw [hN]; unfold mGoodH; rw [if_neg hb]
        exact hR3
  exact go_lo (lo' := [some (.ref S), some (.int gr), some (.int (nI 0))]) rfl (works 6 0 i1 r (by omega) hR1 hO1)
/-- the reader's errands: Rd, its row of heads -/
theorem c_startErrands {Rd hd : Nat} {roots : List Nat} (hL : StL G n S) (hR : Rep S m i r) (hE : RepE G n E Gd i r) (hRd : Ok G n Rd 3) (hhd : OkA G n hd 9 15) (ho1 : Rd < S ∨ S + 157 ≤ Rd) (ho2 : hd < S ∨ S + 157 ≤ hd) (h1 : i Rd 1 = nI roots.length) (h2 : r Rd 0 = some hd) (hl : roots.length ≤ 15) (h3 : ∀ (c a : Nat), roots[c]? = some a → r hd c = some a ∧ Gd a) (hcap : m.2.2.2.2.length + roots.length ≤ 141) : Go l G mX4_startErrands 1 0 0 0 (lentry [.ref S, .ref Rd] 4) [] n i r (Chg n S i r (mLaunch E roots m)) := by
  have hs := hL.s
  refine go_iconst (z := 1) (v := 0) dX4_startErrands_0 rfl (by decide) ?_
  refine go_istore_n (z := 2) dX4_startErrands_1 rfl (by decide) ?_
  have loop : ∀ (rest : List Nat) (c : Nat) (lo3 : Option Value) (m' : MS) (i' : IP) (r' : RP), c + rest.length = roots.length → (∀ (k a : Nat), rest[k]? = some a → roots[c + k]? = some a) → mLaunch E rest m' = mLaunch E roots m → m'.2.2.2.2.length + rest.length ≤ 141 → Rep S m' i' r' → Out S i r i' r' → Go l G mX4_startErrands 1 0 0 2 [some (.ref S), some (.ref Rd), some (.int (nI c)), lo3] [] n i' r' (Chg n S i r (mLaunch E roots m)) := by
    intro rest
    induction rest with
    | nil =>
      intro c lo3 m' i' r' hc hk hm hcp hR' hO'
      have g1 : i' Rd 1 = nI roots.length := by rw [(hO' Rd ho1).1]; exact h1
      refine go_iload_n (z := 3) dX4_startErrands_2 rfl rfl ?_
      refine go_aload_n (z := 4) dX4_startErrands_3 rfl rfl ?_
      refine go_getI (z := 7) dX4_startErrands_4 rfl fX4_86 (by assumption) rfl ?_
      refine go_icmp_ge (z := 62) (z2 := 10) dX4_startErrands_7 rfl (by decide) (fun _ => ?_) (fun h => ?_)
      · refine go_vret dX4_startErrands_62 rfl ⟨rfl, rfl, ?_, hO'⟩
        rw [← hm]; exact hR'
      · exact absurd (by rw [g1]; exact nI_le (by simp at hc; omega) (by omega)) h
    | cons a rest ih =>
      intro c lo3 m' i' r' hc hk hm hcp hR' hO'
      have g1 : i' Rd 1 = nI roots.length := by rw [(hO' Rd ho1).1]; exact h1
      have g2 : r' Rd 0 = some hd := by rw [(hO' Rd ho1).2]; exact h2
      obtain ⟨q3, hga⟩ := h3 c a (hk 0 a rfl)
      have g3 : r' hd c = some a := by rw [(hO' hd ho2).2]; exact q3
      have hlr : c + (rest.length + 1) = roots.length := hc
      have hE' := hE.out hL hO'
      have hGa := hE' a hga
      have hoka := hGa.1
      refine go_iload_n (z := 3) dX4_startErrands_2 rfl rfl ?_
      refine go_aload_n (z := 4) dX4_startErrands_3 rfl rfl ?_
      refine go_getI (z := 7) dX4_startErrands_4 rfl fX4_86 (by assumption) rfl ?_
      refine go_icmp_ge (z := 62) (z2 := 10) dX4_startErrands_7 rfl (by decide) (fun h => ?_) (fun _ => ?_)
      · exact absurd h (by rw [g1]; exact nI_ge (by omega) (by omega))
      · refine go_iload_n (z := 11) dX4_startErrands_10 rfl rfl ?_
        refine go_aload_n (z := 12) dX4_startErrands_11 rfl rfl ?_
        refine go_getR (z := 15) dX4_startErrands_12 rfl fX4_91 (by assumption) rfl (by assumption) ?_
        refine go_alen (z := 16) (by assumption) (by decide) dX4_startErrands_15 rfl ?_
        refine go_icmp_ge (z := 62) (z2 := 19) dX4_startErrands_16 rfl (by decide) (fun h => ?_) (fun _ => ?_)
        · exact absurd h (nI_ge (by omega) (by omega))
        · refine go_aload_n (z := 20) dX4_startErrands_19 rfl rfl ?_
          refine go_getR (z := 23) dX4_startErrands_20 rfl fX4_91 (by assumption) rfl (by assumption) ?_
          refine go_iload_n (z := 24) dX4_startErrands_23 rfl rfl ?_
          refine go_aaldR (z := 25) _ (by assumption) ⟨by decide, by decide⟩ (by decide) rfl (by omega) (by assumption) dX4_startErrands_24 rfl ?_
          refine go_astore_n (z := 26) dX4_startErrands_25 rfl (by decide) ?_
          refine go_aload_n (z := 27) dX4_startErrands_26 rfl rfl ?_
          refine go_ifnull (a := some a) (z := 56) (z2 := 30) dX4_startErrands_27 rfl (by decide) (fun h => by cases h) (fun b hb => ?_)
          clear hb b
          refine go_aload_n (z := 31) dX4_startErrands_30 rfl rfl ?_
          refine go_dup (z := 32) dX4_startErrands_31 rfl rfl ?_
          refine go_getI (z := 35) dX4_startErrands_32 rfl fX4_70 (by assumption) rfl ?_
          refine go_iconst (z := 36) (v := 1) dX4_startErrands_35 rfl (by decide) ?_
          refine go_iadd (z := 37) dX4_startErrands_36 rfl ?_
          refine go_putI (z := 40) dX4_startErrands_37 rfl fX4_70 (by assumption) rfl (Or.inl rfl) rfl ?_
          rw [hR'.2.1 10 (by omega)]
          have hR1 := hR'.putZ (k := 10) (m'.1 10 + 1) (by omega)
          have hO1 : Out S i' r' (ups i' S 10 (m'.1 10 + 1)) r' := Out.pi (by omega) (by omega)
          have hE1 := hE'.out hL hO1
          generalize ups i' S 10 (m'.1 10 + 1) = i1 at hR1 hO1 hE1 ⊢
          refine go_aload_n (z := 41) dX4_startErrands_40 rfl rfl ?_
          refine go_iconst (z := 42) (v := 0) dX4_startErrands_41 rfl (by decide) ?_
          refine go_bipush (z := 44) (v := 6) dX4_startErrands_42 rfl (by decide) ?_
          refine go_aload_n (z := 45) dX4_startErrands_44 rfl rfl ?_
          refine go_getI (z := 48) dX4_startErrands_45 rfl fX4_95 (by assumption) rfl ?_
          refine go_st (st' := [.int (nI (E.1 a)), .int 6, .int 0, .ref S]) (by rw [(hE1 a hga).2.2.1]) ?_
          refine go_aload_n (z := 49) dX4_startErrands_48 rfl rfl ?_
          refine go_callV (z := 52) (t := 4) [] dX4_startErrands_49 rfl mlX4_mint vX4_100 ⟨by decide, rfl⟩ (by assumption) rfl rfl (by decide) cat_nil (by simp) (by decide) (by first | decide | omega) (by first | decide | omega) (c_mint hL hR1) ?_
          refine chgI_elim (fun i2 r2 hR2 hO2 => ?_)
          have ec : coin (sZ m' 10 (m'.1 10 + 1)) = coin m' := by unfold coin; rw [sZ_n m' (m'.1 10 + 1) (by decide : (1:Nat) ≠ 10)]
          rw [ec]
          have ha6 := (hE a hga).2.1
          have hln : (mMint (sZ m' 10 (m'.1 10 + 1))).2.2.2.2 = m'.2.2.2.2 := rfl
          have hcp' : m'.2.2.2.2.length + (rest.length + 1) ≤ 141 := hcp
          refine go_aload_n (z := 53) dX4_startErrands_52 rfl rfl ?_
          refine go_callV (z := 56) (t := 4) [.int 0, .int (nI 6), .int (nI (E.1 a)), .int (coin m'), va_rf (some a)] dX4_startErrands_53 rfl mlX4_post vX4_104 ⟨by decide, rfl⟩ (by assumption) rfl rfl (by decide) (cat_i (cat_i (cat_i (cat_i (cat_o cat_nil))))) (by simp) (by decide) (by first | decide | omega) (by first | decide | omega) (c_post hL hR2 (by omega) (by omega) (by rw [hln]; omega)) ?_
          refine chg_elim (fun i3 r3 hR3 hO3 => ?_)
          refine go_iinc (z := 59) dX4_startErrands_56 rfl rfl (nI_1 c) (by decide) ?_
          refine go_goto (z := 2) dX4_startErrands_59 (by decide) ?_
          refine go_lo (lo' := [some (.ref S), some (.ref Rd), some (.int (nI (c + 1))), some (.ref a)]) rfl (ih (c + 1) _ _ i3 r3 (by omega) (fun k b hkb => ?_) hm ?_ hR3 (((hO'.tr hO1).tr hO2).tr hO3))
          · have := hk (k + 1) b hkb
            rw [show c + 1 + k = c + (k + 1) by omega]
            exact this
          · rw [mPost_len, hln]; omega
  exact go_lo (lo' := [some (.ref S), some (.ref Rd), some (.int (nI 0)), none]) rfl (loop roots 0 none m i r (by omega) (fun k a h => by rw [Nat.zero_add]; exact h) rfl hcap hR Out.rf)
end STATE5
