/-- what an arrival needs -/
def ArrOk (E : EE) (Gd : Nat → Prop) (x : Mg) (m : MS) : Prop := MgOk Gd x ∧ m.2.2.2.2.length < 141 ∧ (∀ h, h < 6 → m.2.2.2.2.length + (m.2.2.2.1 h).length ≤ 141) ∧ (∀ a, x.2 = some a → ∀ t, t < 6 → x.1 2 = nI t → (m.2.2.2.1 t).length + (E.2.2.2 a).length ≤ 80 ∧ m.2.2.2.2.length + (m.2.2.2.1 t).length + (E.2.2.2 a).length ≤ 141) ∧ ∀ h, h < 6 → ∀ e ∈ m.2.2.2.1 h, Gd e
section STATE4
variable {l : Launch} {G : GG} {n : Nat} {i : IP} {r : RP} {S : Nat} {m : MS} {E : EE} {Gd : Nat → Prop}
theorem c_takeIn {h a : Nat} (hh : h < 6) (hL : StL G n S) (hR : Rep S m i r) (hE : RepE G n E Gd i r) (hg : Gd a) (hcap : (m.2.2.2.1 h).length + (E.2.2.2 a).length ≤ 80) : Go l G mX1_takeIn 1 0 0 0 (lentry [.ref (S + 4 + 2 * h), .ref a] 3) [] n i r (Chg n S i r (mTake E h a m)) := by
  have hv : ∀ f, f < 10 → i (S + 4 + 2 * h) f = m.2.2.1 h f := hR.2.2.2.1 h hh
  have h5 := hR.2.2.2.2.1 h hh
  refine go_post (c_House_takeIn (hL.ho hh) (hL.li hh) (hR.1.2.2.2 h hh).2 ((hv 3 (by omega)).trans h5.1) hE hg rfl hcap) ?_
  intro v n2 i2 r2 ⟨hv2, hn2, hi2, hr2, hf2, hq1, hq2⟩
  subst v; subst n2
  have hi : i2 = ups (ups (ups (ups i (S + 4 + 2 * h) 0 1) (S + 4 + 2 * h) 6 (m.2.2.1 h 6 + 1)) (S + 4 + 2 * h) 2 (m.2.2.1 h 2 + E.2.1 a)) (S + 4 + 2 * h) 3 (nI (m.2.2.2.1 h ++ E.2.2.2 a).length) := by
    funext p f
    by_cases e : p = S + 4 + 2 * h
    · subst e
      rw [hf2 f, List.length_append, ← hv 6 (by omega), ← hv 2 (by omega)]
      by_cases f0 : f = 0
      · subst f0; simp [ups]
      · by_cases f6 : f = 6
        · subst f6; simp [ups]
        · by_cases f2 : f = 2
          · subst f2; simp [ups]
          · by_cases f3 : f = 3
            · subst f3; simp [ups]
            · simp [ups, f0, f6, f2, f3]
    · rw [hi2 p e, ups_a e, ups_a e, ups_a e, ups_a e]
  refine ⟨rfl, rfl, ?_, fun p hp => ⟨hi2 p (by omega), hr2 p (by omega)⟩⟩
  have hR1 := ((hR.putH (k := 0) 1 hh (by omega)).putH (k := 6) (m.2.2.1 h 6 + 1) hh (by omega)).putH (k := 2) (m.2.2.1 h 2 + E.2.1 a) hh (by omega)
  refine hR1.putQ (q := m.2.2.2.1 h ++ E.2.2.2 a) hh (by rw [List.length_append]; exact hcap) hi hr2 (fun c b hb => ?_)
  by_cases hc : c < (m.2.2.2.1 h).length
  · rw [List.getElem?_append_left hc] at hb
    rw [hq1 c hc]
    exact h5.2.2 c b hb
  · rw [List.getElem?_append_right (by omega)] at hb
    have := hq2 _ b hb
    rw [show (m.2.2.2.1 h).length + (c - (m.2.2.2.1 h).length) = c by omega] at this
    exact this
theorem c_arrive {M : Nat} {x : Mg} (hL : StL G n S) (hR : Rep S m i r) (hE : RepE G n E Gd i r) (hM1 : S + 16 ≤ M) (hM2 : M < S + 157) (hx1 : ∀ f, f < 5 → i M f = x.1 f) (hx2 : r M 5 = x.2) (hok : ArrOk E Gd x m) : Go l G mX4_arrive 3 0 0 0 (lentry [.ref S, .ref M] 3) [] n i r (Chg n S i r (mArr E x m)) := by
  obtain ⟨⟨f, t, hf, ht, hxf, hxt, hk⟩, hc1, hc2, hc3, hgq⟩ := hok
  have hs := hL.s
  have hhs := hL.hs
  have e4 := hR.1.2.1
  have hMe := hL.me hM1 hM2
  have v0 := hx1 0 (by omega)
  have hnf : (nI f).toNatClampNeg = f := nI_clamp (by omega)
  have hnt : (nI t).toNatClampNeg = t := nI_clamp (by omega)
  refine go_aload_n (z := 1) dX4_arrive_0 rfl rfl ?_
  refine go_getI (z := 4) dX4_arrive_1 rfl fX4_108 hMe rfl ?_
  refine go_iconst (z := 5) (v := 3) dX4_arrive_4 rfl (by decide) ?_
  refine go_icmp_ne (z := 22) (z2 := 8) dX4_arrive_5 rfl (by decide) (fun h => ?_) (fun h => ?_)
  · rw [v0] at h
    refine go_aload_n (z := 23) dX4_arrive_22 rfl rfl ?_
    refine go_getI (z := 26) dX4_arrive_23 rfl fX4_108 hMe rfl ?_
    refine go_iconst (z := 27) (v := 1) dX4_arrive_26 rfl (by decide) ?_
    refine go_icmp_ne (z := 47) (z2 := 30) dX4_arrive_27 rfl (by decide) (fun h1 => ?_) (fun h1 => ?_)
    · rw [v0] at h1
      have htt : t < 6 := by
        rcases hk with ⟨-, q, -⟩ | ⟨q, -⟩ | ⟨-, q, -⟩ | ⟨q, -⟩
        · exact q
        · exact absurd q h1
        · exact q
        · exact absurd q h
      have eh := (hR.1.2.2.2 t htt).1
      have hho := hL.ho htt
      have hv : ∀ f, f < 10 → i (S + 4 + 2 * t) f = m.2.2.1 t f := hR.2.2.2.1 t htt
      refine go_aload_n (z := 48) dX4_arrive_47 rfl rfl ?_
      refine go_getI (z := 51) dX4_arrive_48 rfl fX4_114 hMe rfl ?_
      refine go_st (st' := [.int (nI t)]) (by rw [hx1 2 (by omega), hxt]) ?_
      refine go_istore_n (z := 52) dX4_arrive_51 rfl (by decide) ?_
      refine go_iload_n (z := 53) dX4_arrive_52 rfl rfl ?_
      refine go_callSN (z := 56) [.int (nI t)] dX4_arrive_53 rfl mlX5_isHouse sX4_134 rfl rfl (by decide) (cat_i cat_nil) (by simp) (by decide) (by first | decide | omega) (by first | decide | omega) (c_house1 htt) ?_
      refine ret_elim ?_
      refine go_if_ne (z := 60) (z2 := 59) dX4_arrive_56 rfl (by decide) (fun _ => ?_) (fun h => absurd h (by decide))
      refine go_aload_n (z := 61) dX4_arrive_60 rfl rfl ?_
      refine go_getR (z := 64) dX4_arrive_61 rfl fX4_24 (by assumption) rfl (by assumption) ?_
      refine go_iload_n (z := 65) dX4_arrive_64 rfl rfl ?_
      refine go_aaldR (z := 66) _ (by assumption) ⟨by decide, by decide⟩ (by decide) rfl (by omega) (by assumption) dX4_arrive_65 rfl ?_
      refine go_dup (z := 67) dX4_arrive_66 rfl rfl ?_
      refine go_getI (z := 70) dX4_arrive_67 rfl fX4_158 hho rfl ?_
      refine go_aload_n (z := 71) dX4_arrive_70 rfl rfl ?_
      refine go_getI (z := 74) dX4_arrive_71 rfl fX4_117 hMe rfl ?_
      refine go_iadd (z := 75) dX4_arrive_74 rfl ?_
      rw [hv 1 (by omega), hx1 3 (by omega)]
      refine go_putI (z := 78) dX4_arrive_75 rfl fX4_158 hho rfl (Or.inl rfl) rfl ?_
      have hR1 := hR.putH (k := 1) (m.2.2.1 t 1 + x.1 3) htt (by omega)
      have hO1 : Out S i r (ups i (S + 4 + 2 * t) 1 (m.2.2.1 t 1 + x.1 3)) r := Out.pi (by omega) (by omega)
      have w0 : ups i (S + 4 + 2 * t) 1 (m.2.2.1 t 1 + x.1 3) M 0 = x.1 0 := by rw [ups_a (by omega)]; exact v0
      generalize ups i (S + 4 + 2 * t) 1 (m.2.2.1 t 1 + x.1 3) = i1 at hR1 hO1 w0 ⊢
      refine go_aload_n (z := 79) dX4_arrive_78 rfl rfl ?_
      refine go_getI (z := 82) dX4_arrive_79 rfl fX4_108 hMe rfl ?_
      refine go_iconst (z := 83) (v := 2) dX4_arrive_82 rfl (by decide) ?_
      refine go_icmp_ne (z := 99) (z2 := 86) dX4_arrive_83 rfl (by decide) (fun h2 => ?_) (fun h2 => ?_)
      · rw [w0] at h2
        obtain ⟨-, -, a, hxa, hga⟩ : x.1 0 = 0 ∧ t < 6 ∧ ∃ a, x.2 = some a ∧ Gd a := by
          rcases hk with q | ⟨q, -⟩ | ⟨q, -⟩ | ⟨q, -⟩
          · exact q
          · exact absurd q h1
          · exact absurd q h2
          · exact absurd q h
        have hMa : r M 5 = some a := hx2.trans hxa
        obtain ⟨cp1, cp2⟩ := hc3 a hxa t htt hxt
        refine go_aload_n (z := 100) dX4_arrive_99 rfl rfl ?_
        refine go_getO (z := 103) dX4_arrive_100 rfl fX4_123 hMe rfl ?_
        refine go_ifnull (z := 119) (z2 := 106) dX4_arrive_103 rfl (by decide) (fun h3 => ?_) (fun b hb => ?_)
        · rw [hMa] at h3; cases h3
        · clear hb b
          have hE1 := hE.out hL hO1
          refine go_aload_n (z := 107) dX4_arrive_106 rfl rfl ?_
          refine go_getR (z := 110) dX4_arrive_107 rfl fX4_24 (by assumption) rfl (by assumption) ?_
          refine go_iload_n (z := 111) dX4_arrive_110 rfl rfl ?_
          refine go_aaldR (z := 112) _ (by assumption) ⟨by decide, by decide⟩ (by decide) rfl (by omega) (by assumption) dX4_arrive_111 rfl ?_
          refine go_aload_n (z := 113) dX4_arrive_112 rfl rfl ?_
          refine go_getR (z := 116) dX4_arrive_113 rfl fX4_123 hMe rfl hMa ?_
          refine go_callV (z := 119) (t := 1) [.ref a] dX4_arrive_116 rfl mlX1_takeIn vX4_159 ⟨by decide, rfl⟩ hho rfl rfl (by decide) (cat_r cat_nil) (by simp) (by decide) (by first | decide | omega) (by first | decide | omega) (c_takeIn (m := sH m t 1 (m.2.2.1 t 1 + x.1 3)) htt hL hR1 hE1 hga cp1) ?_
          refine chg_elim (fun i2 r2 hR2 hO2 => ?_)
          have hE2 := hE1.out hL hO2
          have hq2 : ∀ h, (mTake E t a (sH m t 1 (m.2.2.1 t 1 + x.1 3))).2.2.2.1 h = if h = t then m.2.2.2.1 t ++ E.2.2.2 a else m.2.2.2.1 h := fun h => rfl
          have hm2 : (mTake E t a (sH m t 1 (m.2.2.1 t 1 + x.1 3))).2.2.2.2 = m.2.2.2.2 := rfl
          refine go_aload_n (z := 120) dX4_arrive_119 rfl rfl ?_
          refine go_iload_n (z := 121) dX4_arrive_120 rfl rfl ?_
          refine go_callV (z := 124) (t := 4) [.int (nI t)] dX4_arrive_121 rfl mlX4_sendWhatItCan vX4_143 ⟨by decide, rfl⟩ (by assumption) rfl rfl (by decide) (cat_i cat_nil) (by simp) (by decide) (by first | decide | omega) (by first | decide | omega) (c_sendWhatItCan htt hL hR2 hE2 (by rw [hq2, if_pos rfl]; intro e he; rcases List.mem_append.mp he with q | q; exact hgq t htt e q; exact ((hE a hga).2.2.2.2.2.2.2.1 e q).1) (by rw [hq2, if_pos rfl, hm2, List.length_append]; omega)) ?_
          refine chg_elim (fun i3 r3 hR3 hO3 => ?_)
          refine go_vret dX4_arrive_124 rfl ⟨rfl, rfl, ?_, (hO1.tr hO2).tr hO3⟩
          have : mArr E x m = mSend E t (mTake E t a (sH m t 1 (m.2.2.1 t 1 + x.1 3))) := by
            unfold mArr
            rw [if_neg h, if_neg h1, if_neg h2, hxt, hnt, hxa]
          rw [this]
          exact hR3
      · rw [w0] at h2
        refine go_aload_n (z := 87) dX4_arrive_86 rfl rfl ?_
        refine go_getR (z := 90) dX4_arrive_87 rfl fX4_24 (by assumption) rfl (by assumption) ?_
        refine go_iload_n (z := 91) dX4_arrive_90 rfl rfl ?_
        refine go_aaldR (z := 92) _ (by assumption) ⟨by decide, by decide⟩ (by decide) rfl (by omega) (by assumption) dX4_arrive_91 rfl ?_
        refine go_iconst (z := 93) (v := 0) dX4_arrive_92 rfl (by decide) ?_
        refine go_putI (z := 96) dX4_arrive_93 rfl fX4_140 hho rfl (Or.inl rfl) (congrArg Value.int (by decide)) ?_
        refine go_goto (z := 119) dX4_arrive_96 (by decide) ?_
        have hR2 := hR1.putH (k := 4) 0 htt (by omega)
        have hO2 : Out S i1 r (ups i1 (S + 4 + 2 * t) 4 0) r := Out.pi (by omega) (by omega)
        refine go_aload_n (z := 120) dX4_arrive_119 rfl rfl ?_
        refine go_iload_n (z := 121) dX4_arrive_120 rfl rfl ?_
        refine go_callV (z := 124) (t := 4) [.int (nI t)] dX4_arrive_121 rfl mlX4_sendWhatItCan vX4_143 ⟨by decide, rfl⟩ (by assumption) rfl rfl (by decide) (cat_i cat_nil) (by simp) (by decide) (by first | decide | omega) (by first | decide | omega) (c_sendWhatItCan htt hL hR2 (hE.out hL (hO1.tr hO2)) (hgq t htt) (hc2 t htt)) ?_
        refine chg_elim (fun i3 r3 hR3 hO3 => ?_)
        refine go_vret dX4_arrive_124 rfl ⟨rfl, rfl, ?_, (hO1.tr hO2).tr hO3⟩
        have : mArr E x m = mSend E t (sH (sH m t 1 (m.2.2.1 t 1 + x.1 3)) t 4 0) := by
          unfold mArr
          rw [if_neg h, if_neg h1, if_pos h2, hxt, hnt]
        rw [this]
        exact hR3
    · rw [v0] at h1
      obtain ⟨-, hff, hxn⟩ : x.1 0 = 1 ∧ f < 6 ∧ x.2 = none := by
        rcases hk with ⟨q, -⟩ | q | ⟨q, -⟩ | ⟨q, -⟩
        · rw [h1] at q; exact absurd q (by decide)
        · exact q
        · rw [h1] at q; exact absurd q (by decide)
        · exact absurd q h
      refine go_aload_n (z := 31) dX4_arrive_30 rfl rfl ?_
      refine go_iconst (z := 32) (v := 2) dX4_arrive_31 rfl (by decide) ?_
      refine go_bipush (z := 34) (v := 6) dX4_arrive_32 rfl (by decide) ?_
      refine go_aload_n (z := 35) dX4_arrive_34 rfl rfl ?_
      refine go_getI (z := 38) dX4_arrive_35 rfl fX4_111 hMe rfl ?_
      refine go_st (st' := [.int (nI f), .int 6, .int 2, .ref S]) (by rw [hx1 1 (by omega), hxf]) ?_
      refine go_aload_n (z := 39) dX4_arrive_38 rfl rfl ?_
      refine go_callV (z := 42) (t := 4) [] dX4_arrive_39 rfl mlX4_mint vX4_100 ⟨by decide, rfl⟩ (by assumption) rfl rfl (by decide) cat_nil (by simp) (by decide) (by first | decide | omega) (by first | decide | omega) (c_mint hL hR) ?_
      refine chgI_elim (fun i2 r2 hR2 hO2 => ?_)
      refine go_null (z := 43) dX4_arrive_42 rfl ?_
      refine go_callV (z := 46) (t := 4) [.int 2, .int (nI 6), .int (nI f), .int (coin m), va_rf none] dX4_arrive_43 rfl mlX4_post vX4_104 ⟨by decide, rfl⟩ (by assumption) rfl rfl (by decide) (cat_i (cat_i (cat_i (cat_i (cat_o cat_nil))))) (by simp) (by decide) (by first | decide | omega) (by first | decide | omega) (c_post hL hR2 (by omega) (by omega) hc1) ?_
      refine chg_elim (fun i3 r3 hR3 hO3 => ?_)
      refine go_vret dX4_arrive_46 rfl ⟨rfl, rfl, ?_, hO2.tr hO3⟩
      have : mArr E x m = mPost (mMint m) 2 6 f (coin m) none := by
        unfold mArr
        rw [if_neg h, if_pos h1, hxf, hnf]
      rw [this]
      exact hR3
  · rw [v0] at h
    refine go_aload_n (z := 9) dX4_arrive_8 rfl rfl ?_
    refine go_dup (z := 10) dX4_arrive_9 rfl rfl ?_
    refine go_getI (z := 13) dX4_arrive_10 rfl fX4_64 (by assumption) rfl ?_
    refine go_aload_n (z := 14) dX4_arrive_13 rfl rfl ?_
    refine go_getI (z := 17) dX4_arrive_14 rfl fX4_117 hMe rfl ?_
    refine go_iadd (z := 18) dX4_arrive_17 rfl ?_
    refine go_putI (z := 21) dX4_arrive_18 rfl fX4_64 (by assumption) rfl (Or.inl rfl) rfl ?_
    refine go_vret dX4_arrive_21 rfl ⟨rfl, rfl, ?_, Out.pi (by omega) (by omega)⟩
    have : mArr E x m = sZ m 8 (m.1 8 + x.1 3) := by
      unfold mArr
      rw [if_pos h]
    rw [this, hR.2.1 8 (by omega), hx1 3 (by omega)]
    exact hR.putZ _ (by omega)
theorem c_workIn {h : Nat} (hh : h < 6) (hL : StL G n S) (hR : Rep S m i r) (hcap : m.2.2.2.2.length < 141) : Go l G mX4_workIn 1 0 0 0 (lentry [.ref S, .int (nI h)] 3) [] n i r (Chg n S i r (mWork h m)) := by
  have hs := hL.s
  have hhs := hL.hs
  have e4 := hR.1.2.1
  have eh := (hR.1.2.2.2 h hh).1
  have hho := hL.ho hh
  have hv : ∀ f, f < 10 → i (S + 4 + 2 * h) f = m.2.2.1 h f := hR.2.2.2.1 h hh
  refine go_iload_n (z := 1) dX4_workIn_0 rfl rfl ?_
  refine go_callSN (z := 4) [.int (nI h)] dX4_workIn_1 rfl mlX5_isHouse sX4_134 rfl rfl (by decide) (cat_i cat_nil) (by simp) (by decide) (by first | decide | omega) (by first | decide | omega) (c_house1 hh) ?_
  refine ret_elim ?_
  refine go_if_ne (z := 8) (z2 := 7) dX4_workIn_4 rfl (by decide) (fun _ => ?_) (fun h => absurd h (by decide))
  have rest : ∀ (m1 : MS) (i1 : IP) (r1 : RP), m1 = (if 0 < m.2.2.1 h 2 then sH m h 2 (m.2.2.1 h 2 - 1) else m) → Rep S m1 i1 r1 → Out S i r i1 r1 → Go l G mX4_workIn 1 0 0 32 [some (.ref S), some (.int (nI h)), some (.ref (S + 4 + 2 * h))] [] n i1 r1 (Chg n S i r (mWork h m)) := by
    intro m1 i1 r1 hm1 hR1 hO1
    have hv1 : ∀ f, f < 10 → i1 (S + 4 + 2 * h) f = m1.2.2.1 h f := hR1.2.2.2.1 h hh
    have hcap1 : m1.2.2.2.2.length < 141 := by rw [hm1]; split <;> exact hcap
    have hw : mWork h m = if 0 < m1.2.2.1 h 2 ∨ 0 < m1.2.2.1 h 3 ∨ ¬ m1.2.2.1 h 4 = 0 then m1 else if 0 < (sH (sH m1 h 0 0) h 9 (m1.2.2.1 h 9 + 1)).2.2.1 h 1 then sH (mPost (sH (sH m1 h 0 0) h 9 (m1.2.2.1 h 9 + 1)) 3 h 6 ((sH (sH m1 h 0 0) h 9 (m1.2.2.1 h 9 + 1)).2.2.1 h 1) none) h 1 0 else sH (sH m1 h 0 0) h 9 (m1.2.2.1 h 9 + 1) := by
      unfold mWork
      rw [← hm1]
    have stop : 0 < m1.2.2.1 h 2 ∨ 0 < m1.2.2.1 h 3 ∨ ¬ m1.2.2.1 h 4 = 0 → Chg n S i r (mWork h m) none n i1 r1 := fun hs => ⟨rfl, rfl, by rw [hw, if_pos hs]; exact hR1, hO1⟩
    refine go_aload_n (z := 33) dX4_workIn_32 rfl rfl ?_
    refine go_getI (z := 36) dX4_workIn_33 rfl fX4_183 (by assumption) rfl ?_
    refine go_if_gt (z := 53) (z2 := 39) dX4_workIn_36 rfl (by decide) (fun h1 => ?_) (fun h1 => ?_)
    · rw [hv1 2 (by omega)] at h1
      exact go_vret dX4_workIn_53 rfl (stop (Or.inl h1))
    rw [hv1 2 (by omega)] at h1
    refine go_aload_n (z := 40) dX4_workIn_39 rfl rfl ?_
    refine go_getI (z := 43) dX4_workIn_40 rfl fX4_163 (by assumption) rfl ?_
    refine go_if_gt (z := 53) (z2 := 46) dX4_workIn_43 rfl (by decide) (fun h2 => ?_) (fun h2 => ?_)
    · rw [hv1 3 (by omega)] at h2
      exact go_vret dX4_workIn_53 rfl (stop (Or.inr (Or.inl h2)))
    rw [hv1 3 (by omega)] at h2
    refine go_aload_n (z := 47) dX4_workIn_46 rfl rfl ?_
    refine go_getI (z := 50) dX4_workIn_47 rfl fX4_140 (by assumption) rfl ?_
    refine go_if_eq (z := 54) (z2 := 53) dX4_workIn_50 rfl (by decide) (fun h3 => ?_) (fun h3 => ?_)
    · rw [hv1 4 (by omega)] at h3
      have hneg : ¬ (0 < m1.2.2.1 h 2 ∨ 0 < m1.2.2.1 h 3 ∨ ¬ m1.2.2.1 h 4 = 0) := by
        rintro (q | q | q)
        · exact h1 q
        · exact h2 q
        · exact q h3
      rw [if_neg hneg] at hw
      refine go_aload_n (z := 55) dX4_workIn_54 rfl rfl ?_
      refine go_iconst (z := 56) (v := 0) dX4_workIn_55 rfl (by decide) ?_
      refine go_putI (z := 59) dX4_workIn_56 rfl fX4_152 (by assumption) rfl (Or.inl rfl) (congrArg Value.int (by decide)) ?_
      refine go_aload_n (z := 60) dX4_workIn_59 rfl rfl ?_
      refine go_dup (z := 61) dX4_workIn_60 rfl rfl ?_
      refine go_getI (z := 64) dX4_workIn_61 rfl fX4_186 (by assumption) rfl ?_
      refine go_iconst (z := 65) (v := 1) dX4_workIn_64 rfl (by decide) ?_
      refine go_iadd (z := 66) dX4_workIn_65 rfl ?_
      refine go_putI (z := 69) dX4_workIn_66 rfl fX4_186 (by assumption) rfl (Or.inl rfl) rfl ?_
      rw [show ups i1 (S + 4 + 2 * h) 0 0 (S + 4 + 2 * h) 9 = m1.2.2.1 h 9 by rw [ups_k (by decide)]; exact hv1 9 (by omega)]
      have hR2 := (hR1.putH (k := 0) 0 hh (by omega)).putH (k := 9) (m1.2.2.1 h 9 + 1) hh (by omega)
      have hO2 : Out S i1 r1 (ups (ups i1 (S + 4 + 2 * h) 0 0) (S + 4 + 2 * h) 9 (m1.2.2.1 h 9 + 1)) r1 := (Out.pi (by omega) (by omega)).tr (Out.pi (by omega) (by omega))
      generalize ups (ups i1 (S + 4 + 2 * h) 0 0) (S + 4 + 2 * h) 9 (m1.2.2.1 h 9 + 1) = i2 at hR2 hO2 ⊢
      have hcap2 : (sH (sH m1 h 0 0) h 9 (m1.2.2.1 h 9 + 1)).2.2.2.2.length < 141 := hcap1
      generalize sH (sH m1 h 0 0) h 9 (m1.2.2.1 h 9 + 1) = m2 at hR2 hw hcap2
      have hv2 : ∀ f, f < 10 → i2 (S + 4 + 2 * h) f = m2.2.2.1 h f := hR2.2.2.2.1 h hh
      refine go_aload_n (z := 70) dX4_workIn_69 rfl rfl ?_
      refine go_getI (z := 73) dX4_workIn_70 rfl fX4_158 (by assumption) rfl ?_
      refine go_if_le (z := 94) (z2 := 76) dX4_workIn_73 rfl (by decide) (fun h4 => ?_) (fun h4 => ?_)
      · rw [hv2 1 (by omega)] at h4
        refine go_vret dX4_workIn_94 rfl ⟨rfl, rfl, ?_, hO1.tr hO2⟩
        rw [hw, if_neg (Int32.not_lt.mpr h4)]
        exact hR2
      · rw [hv2 1 (by omega)] at h4
        refine go_aload_n (z := 77) dX4_workIn_76 rfl rfl ?_
        refine go_iconst (z := 78) (v := 3) dX4_workIn_77 rfl (by decide) ?_
        refine go_iload_n (z := 79) dX4_workIn_78 rfl rfl ?_
        refine go_bipush (z := 81) (v := 6) dX4_workIn_79 rfl (by decide) ?_
        refine go_aload_n (z := 82) dX4_workIn_81 rfl rfl ?_
        refine go_getI (z := 85) dX4_workIn_82 rfl fX4_158 (by assumption) rfl ?_
        rw [hv2 1 (by omega)]
        refine go_null (z := 86) dX4_workIn_85 rfl ?_
        refine go_callV (z := 89) (t := 4) [.int 3, .int (nI h), .int (nI 6), .int (m2.2.2.1 h 1), va_rf none] dX4_workIn_86 rfl mlX4_post vX4_104 ⟨by decide, rfl⟩ (by assumption) rfl rfl (by decide) (cat_i (cat_i (cat_i (cat_i (cat_o cat_nil))))) (by simp) (by decide) (by first | decide | omega) (by first | decide | omega) (c_post hL hR2 (by omega) (by omega) hcap2) ?_
        refine chg_elim (fun i3 r3 hR3 hO3 => ?_)
        refine go_aload_n (z := 90) dX4_workIn_89 rfl rfl ?_
        refine go_iconst (z := 91) (v := 0) dX4_workIn_90 rfl (by decide) ?_
        refine go_putI (z := 94) dX4_workIn_91 rfl fX4_158 (by assumption) rfl (Or.inl rfl) rfl ?_
        refine go_vret dX4_workIn_94 rfl ⟨rfl, rfl, ?_, ((hO1.tr hO2).tr hO3).tr (Out.pi (by omega) (by omega))⟩
        rw [hw, if_pos (Int32.not_le.mp h4)]
        exact hR3.putH _ hh (by omega)
    · rw [hv1 4 (by omega)] at h3
      exact go_vret dX4_workIn_53 rfl (stop (Or.inr (Or.inr h3)))
  refine go_aload_n (z := 9) dX4_workIn_8 rfl rfl ?_
  refine go_getR (z := 12) dX4_workIn_9 rfl fX4_24 (by assumption) rfl (by assumption) ?_
  refine go_iload_n (z := 13) dX4_workIn_12 rfl rfl ?_
  refine go_aaldR (z := 14) _ (by assumption) ⟨by decide, by decide⟩ (by decide) rfl (by omega) (by assumption) dX4_workIn_13 rfl ?_
  refine go_astore_n (z := 15) dX4_workIn_14 rfl (by decide) ?_
  refine go_aload_n (z := 16) dX4_workIn_15 rfl rfl ?_
  refine go_getI (z := 19) dX4_workIn_16 rfl fX4_183 (by assumption) rfl ?_
  refine go_if_le (z := 32) (z2 := 22) dX4_workIn_19 rfl (by decide) (fun h1 => ?_) (fun h1 => ?_)
  · rw [hv 2 (by omega)] at h1
    exact rest m i r (by rw [if_neg (Int32.not_lt.mpr h1)]) hR Out.rf
  · rw [hv 2 (by omega)] at h1
    refine go_aload_n (z := 23) dX4_workIn_22 rfl rfl ?_
    refine go_dup (z := 24) dX4_workIn_23 rfl rfl ?_
    refine go_getI (z := 27) dX4_workIn_24 rfl fX4_183 (by assumption) rfl ?_
    refine go_iconst (z := 28) (v := 1) dX4_workIn_27 rfl (by decide) ?_
    refine go_isub (z := 29) dX4_workIn_28 rfl ?_
    refine go_putI (z := 32) dX4_workIn_29 rfl fX4_183 (by assumption) rfl (Or.inl rfl) rfl ?_
    rw [hv 2 (by omega)]
    exact rest _ _ _ (by rw [if_pos (Int32.not_le.mp h1)]) (hR.putH _ hh (by omega)) (Out.pi (by omega) (by omega))
end STATE4
