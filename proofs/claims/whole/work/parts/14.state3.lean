theorem ins_len (x : Mg) (ms : List Mg) : (ins x ms).length = ms.length + 1 := by
  have := insPos_le (lA ms) (x.1 4) ms.length
  unfold ins
  simp only [List.length_append, List.length_take, List.length_cons, List.length_drop]
  omega
theorem mPost_q (m : MS) (k : Int32) (f t : Nat) (g : Int32) (e : Option Nat) : (mPost m k f t g e).2.2.2.1 = m.2.2.2.1 := rfl
theorem mPost_len (m : MS) (k : Int32) (f t : Nat) (g : Int32) (e : Option Nat) : (mPost m k f t g e).2.2.2.2.length = m.2.2.2.2.length + 1 := ins_len _ _
section STATE3
variable {l : Launch} {G : GG} {n : Nat} {i : IP} {r : RP} {S : Nat} {m : MS} {E : EE} {Gd : Nat → Prop}
theorem c_waiting0 {h a : Nat} {q : List Nat} (hh : h < 6) (hL : StL G n S) (hR : Rep S m i r) (hq : m.2.2.2.1 h = a :: q) : Go l G mX1_waitingAt 0 0 0 0 (lentry [.ref (S + 4 + 2 * h), .int 0] 2) [] n i r (Ret (some (.ref a)) n i r) := by
  have h5 := hR.2.2.2.2.1 h hh
  have hw := c_House_waitingAt (l := l) (i := i) (hL.ho hh) (hL.li hh) (hR.1.2.2.2 h hh).2 ((hR.2.2.2.1 h hh 3 (by omega)).trans h5.1) h5.2.1 (x := 0)
  have h0 : r (S + 5 + 2 * h) 0 = some a := h5.2.2 0 a (by rw [hq]; rfl)
  have hlen : 0 < (m.2.2.2.1 h).length := by rw [hq]; simp
  rw [if_pos ⟨by decide, nI_lt (a := 0) hlen (by have := h5.2.1; omega)⟩] at hw
  have e0 : (0 : Int32).toNatClampNeg = 0 := by decide
  rw [e0, h0] at hw
  exact hw
theorem c_sendFirst {h a : Nat} {q : List Nat} (hh : h < 6) (hL : StL G n S) (hR : Rep S m i r) (hE : RepE G n E Gd i r) (hq : m.2.2.2.1 h = a :: q) (hg : ∀ e ∈ m.2.2.2.1 h, Gd e) (hcap : m.2.2.2.2.length < 141) : Go l G mX4_sendFirst 1 0 0 0 (lentry [.ref S, .int (nI h), .ref (S + 4 + 2 * h)] 5) [] n i r (Chg n S i r (mSendF E h m)) := by
  have hho := hL.ho hh
  have hli := hL.li hh
  have e10 := (hR.1.2.2.2 h hh).2
  have h5 := hR.2.2.2.2.1 h hh
  have hv : ∀ f, f < 10 → i (S + 4 + 2 * h) f = m.2.2.1 h f := hR.2.2.2.1 h hh
  have hga := hE a (hg a (by rw [hq]; exact List.mem_cons_self))
  have hoka := hga.1
  refine go_aload_n (z := 1) dX4_sendFirst_0 rfl rfl ?_
  refine go_iconst (z := 2) (v := 0) dX4_sendFirst_1 rfl (by decide) ?_
  refine go_callV (z := 5) (t := 1) [.int 0] dX4_sendFirst_2 rfl mlX1_waitingAt vX4_173 ⟨by decide, rfl⟩ (by assumption) rfl rfl (by decide) (cat_i cat_nil) (by simp) (by decide) (by first | decide | omega) (by first | decide | omega) (c_waiting0 hh hL hR hq) ?_
  refine ret_elim ?_
  refine go_astore_n (z := 6) dX4_sendFirst_5 rfl (by decide) ?_
  refine go_aload_n (z := 7) dX4_sendFirst_6 rfl rfl ?_
  refine go_ifnonnull (a := some a) (z := 11) (z2 := 10) dX4_sendFirst_7 rfl (by decide) (fun b hb => ?_) (fun h => by cases h)
  clear hb b
  refine go_aload_n (z := 12) dX4_sendFirst_11 rfl rfl ?_
  refine go_getI (z := 15) dX4_sendFirst_12 rfl fX4_158 (by assumption) rfl ?_
  refine go_iconst (z := 16) (v := 2) dX4_sendFirst_15 rfl (by decide) ?_
  refine go_idiv (z := 17) dX4_sendFirst_16 rfl (by decide) ?_
  refine go_istore (z := 19) dX4_sendFirst_17 rfl (by decide) ?_
  refine go_aload_n (z := 20) dX4_sendFirst_19 rfl rfl ?_
  refine go_dup (z := 21) dX4_sendFirst_20 rfl rfl ?_
  refine go_getI (z := 24) dX4_sendFirst_21 rfl fX4_158 (by assumption) rfl ?_
  refine go_iload (z := 26) dX4_sendFirst_24 rfl rfl ?_
  refine go_isub (z := 27) dX4_sendFirst_26 rfl ?_
  refine go_putI (z := 30) dX4_sendFirst_27 rfl fX4_158 (by assumption) rfl (Or.inl rfl) rfl ?_
  refine go_aload_n (z := 31) dX4_sendFirst_30 rfl rfl ?_
  refine go_dup (z := 32) dX4_sendFirst_31 rfl rfl ?_
  refine go_getI (z := 35) dX4_sendFirst_32 rfl fX4_177 (by assumption) rfl ?_
  refine go_iconst (z := 36) (v := 1) dX4_sendFirst_35 rfl (by decide) ?_
  refine go_iadd (z := 37) dX4_sendFirst_36 rfl ?_
  refine go_putI (z := 40) dX4_sendFirst_37 rfl fX4_177 (by assumption) rfl (Or.inl rfl) rfl ?_
  have e7 : ups i (S + 4 + 2 * h) 1 (i (S + 4 + 2 * h) 1 - i (S + 4 + 2 * h) 1 / 2) (S + 4 + 2 * h) 7 = m.2.2.1 h 7 := by rw [ups_k (by decide)]; exact hv 7 (by omega)
  rw [e7, hv 1 (by omega)]
  have hR1 := (hR.putH (k := 1) (m.2.2.1 h 1 - m.2.2.1 h 1 / 2) hh (by omega)).putH (k := 7) (m.2.2.1 h 7 + 1) hh (by omega)
  have hO1 : Out S i r (ups (ups i (S + 4 + 2 * h) 1 (m.2.2.1 h 1 - m.2.2.1 h 1 / 2)) (S + 4 + 2 * h) 7 (m.2.2.1 h 7 + 1)) r := (Out.pi (by omega) (by omega)).tr (Out.pi (by omega) (by omega))
  generalize ups (ups i (S + 4 + 2 * h) 1 (m.2.2.1 h 1 - m.2.2.1 h 1 / 2)) (S + 4 + 2 * h) 7 (m.2.2.1 h 7 + 1) = i1 at hR1 hO1 ⊢
  have hm1 : ∃ m1, m1 = sH (sH m h 1 (m.2.2.1 h 1 - m.2.2.1 h 1 / 2)) h 7 (m.2.2.1 h 7 + 1) := ⟨_, rfl⟩
  obtain ⟨m1, hm1⟩ := hm1
  rw [← hm1] at hR1
  have hq1 : m1.2.2.2.1 h = a :: q := by rw [hm1]; exact hq
  have h51 := hR1.2.2.2.2.1 h hh
  rw [hq1] at h51
  have hlen1 : (a :: q).length = q.length + 1 := rfl
  have hc1 : i1 (S + 4 + 2 * h) 3 = nI (q.length + 1) := (hR1.2.2.2.1 h hh 3 (by omega)).trans h51.1
  refine go_aload_n (z := 41) dX4_sendFirst_40 rfl rfl ?_
  refine go_callV (z := 44) (t := 1) [] dX4_sendFirst_41 rfl mlX1_removeFirst vX4_180 ⟨by decide, rfl⟩ (by assumption) rfl rfl (by decide) cat_nil (by simp) (by decide) (by first | decide | omega) (by first | decide | omega) (c_House_removeFirst hho hli e10 hc1 (by omega) (by have := h51.2.1; omega) (fun k hk => ⟨(a :: q)[k], h51.2.2 k _ (List.getElem?_eq_getElem (by simpa using hk)), (hE _ (hg _ (by rw [hq]; exact List.getElem_mem _))).1⟩)) ?_
  intro v n2 i2 r2 hpost
  obtain ⟨hv2, hn2, hi2, hr2, hk2⟩ := hpost
  subst v; subst n2
  have hR2 : Rep S (sQ m1 h q) i2 r2 := hR1.putQ hh (by have := h51.2.1; omega) (by rw [hi2, Nat.add_sub_cancel]) hr2 (fun c e he => by
    have hc : c < q.length := (List.getElem?_eq_some_iff.mp he).1
    rw [hk2 c (by omega)]
    exact h51.2.2 (c + 1) e (by rw [List.getElem?_cons_succ]; exact he))
  have hO2 : Out S i1 r i2 r2 := fun p hp => ⟨by rw [hi2]; exact ups_row (by omega), hr2 p (by omega)⟩
  have hE2 := (hE.out hL hO1).out hL hO2
  have hga2 := hE2 a (hg a (by rw [hq]; exact List.mem_cons_self))
  refine go_aload_n (z := 45) dX4_sendFirst_44 rfl rfl ?_
  refine go_iconst (z := 46) (v := 0) dX4_sendFirst_45 rfl (by decide) ?_
  refine go_iload_n (z := 47) dX4_sendFirst_46 rfl rfl ?_
  refine go_aload_n (z := 48) dX4_sendFirst_47 rfl rfl ?_
  refine go_getI (z := 51) dX4_sendFirst_48 rfl fX4_95 hoka rfl ?_
  refine go_iload (z := 53) dX4_sendFirst_51 rfl rfl ?_
  refine go_aload_n (z := 54) dX4_sendFirst_53 rfl rfl ?_
  refine go_st (st' := [.ref a, .int (m.2.2.1 h 1 / 2), .int (nI (E.1 a)), .int (nI h), .int 0, .ref S]) (by rw [hga2.2.2.1]; rfl) ?_
  refine go_callV (z := 57) (t := 4) [.int 0, .int (nI h), .int (nI (E.1 a)), .int (m.2.2.1 h 1 / 2), va_rf (some a)] dX4_sendFirst_54 rfl mlX4_post vX4_104 ⟨by decide, rfl⟩ hL.s rfl rfl (by decide) (cat_i (cat_i (cat_i (cat_i (cat_o cat_nil))))) (by simp) (by decide) (by first | decide | omega) (by first | decide | omega) (c_post (m := sQ m1 h q) hL hR2 (by omega) (by have := hga2.2.1; omega) (by rw [hm1]; exact hcap)) ?_
  refine chg_elim (fun i3 r3 hR3 hO3 => ?_)
  refine go_vret dX4_sendFirst_57 rfl ⟨rfl, rfl, ?_, (hO1.tr hO2).tr hO3⟩
  have : mSendF E h m = mPost (sQ m1 h q) 0 h (E.1 a) (m.2.2.1 h 1 / 2) (some a) := by unfold mSendF; rw [hq, hm1]
  rw [this]
  exact hR3
theorem mSendF_q {h a : Nat} {q : List Nat} (hq : m.2.2.2.1 h = a :: q) : (mSendF E h m).2.2.2.1 h = q := by
  unfold mSendF
  rw [hq]
  show up1 m.2.2.2.1 h q h = q
  exact up1_s
theorem mSendF_len {h a : Nat} {q : List Nat} (hq : m.2.2.2.1 h = a :: q) : (mSendF E h m).2.2.2.2.length = m.2.2.2.2.length + 1 := by
  unfold mSendF
  rw [hq]
  exact mPost_len _ _ _ _ _ _
theorem c_sendWhatItCan {h : Nat} (hh : h < 6) (hL : StL G n S) (hR : Rep S m i r) (hE : RepE G n E Gd i r) (hg : ∀ e ∈ m.2.2.2.1 h, Gd e) (hcap : m.2.2.2.2.length + (m.2.2.2.1 h).length ≤ 141) : Go l G mX4_sendWhatItCan 2 0 0 0 (lentry [.ref S, .int (nI h)] 4) [] n i r (Chg n S i r (mSend E h m)) := by
  have hs := hL.s
  have hho := hL.ho hh
  have hhs := hL.hs
  have e4 := hR.1.2.1
  have eh := (hR.1.2.2.2 h hh).1
  refine go_iload_n (z := 1) dX4_sendWhatItCan_0 rfl rfl ?_
  refine go_callSN (z := 4) [.int (nI h)] dX4_sendWhatItCan_1 rfl mlX5_isHouse sX4_134 rfl rfl (by decide) (cat_i cat_nil) (by simp) (by decide) (by first | decide | omega) (by first | decide | omega) (c_house1 hh) ?_
  refine ret_elim ?_
  refine go_if_ne (z := 8) (z2 := 7) dX4_sendWhatItCan_4 rfl (by decide) (fun _ => ?_) (fun h => absurd h (by decide))
  refine go_aload_n (z := 9) dX4_sendWhatItCan_8 rfl rfl ?_
  refine go_getR (z := 12) dX4_sendWhatItCan_9 rfl fX4_24 (by assumption) rfl (by assumption) ?_
  refine go_iload_n (z := 13) dX4_sendWhatItCan_12 rfl rfl ?_
  refine go_aaldR (z := 14) _ (by assumption) ⟨by decide, by decide⟩ (by decide) rfl (by omega) (by assumption) dX4_sendWhatItCan_13 rfl ?_
  refine go_astore_n (z := 15) dX4_sendWhatItCan_14 rfl (by decide) ?_
  refine go_aload_n (z := 16) dX4_sendWhatItCan_15 rfl rfl ?_
  refine go_getI (z := 19) dX4_sendWhatItCan_16 rfl fX4_163 (by assumption) rfl ?_
  refine go_istore_n (z := 20) dX4_sendWhatItCan_19 rfl (by decide) ?_
  have ask : ∀ (m' : MS) (i' : IP) (r' : RP) (c : Nat), Rep S m' i' r' → Out S i r i' r' → m'.2.2.2.2.length + (m'.2.2.2.1 h).length ≤ 141 → Go l G mX4_sendWhatItCan 2 0 0 49 [some (.ref S), some (.int (nI h)), some (.ref (S + 4 + 2 * h)), some (.int (nI c))] [] n i' r' (Chg n S i r (mAsk h m')) := by
    intro m' i' r' c hR' hO' hcap'
    have hv : ∀ f, f < 10 → i' (S + 4 + 2 * h) f = m'.2.2.1 h f := hR'.2.2.2.1 h hh
    have h5 := hR'.2.2.2.2.1 h hh
    refine go_aload_n (z := 50) dX4_sendWhatItCan_49 rfl rfl ?_
    refine go_getI (z := 53) dX4_sendWhatItCan_50 rfl fX4_163 (by assumption) rfl ?_
    refine go_if_le (z := 88) (z2 := 56) dX4_sendWhatItCan_53 rfl (by decide) (fun h1 => ?_) (fun h1 => ?_)
    · rw [hv 3 (by omega)] at h1
      refine go_vret dX4_sendWhatItCan_88 rfl ⟨rfl, rfl, ?_, hO'⟩
      unfold mAsk
      rw [if_neg (fun q => absurd q.1 (Int32.not_lt.mpr h1))]
      exact hR'
    · rw [hv 3 (by omega)] at h1
      refine go_aload_n (z := 57) dX4_sendWhatItCan_56 rfl rfl ?_
      refine go_getI (z := 60) dX4_sendWhatItCan_57 rfl fX4_140 (by assumption) rfl ?_
      refine go_if_ne (z := 88) (z2 := 63) dX4_sendWhatItCan_60 rfl (by decide) (fun h2 => ?_) (fun h2 => ?_)
      · rw [hv 4 (by omega)] at h2
        refine go_vret dX4_sendWhatItCan_88 rfl ⟨rfl, rfl, ?_, hO'⟩
        unfold mAsk
        rw [if_neg (fun q => absurd q.2 h2)]
        exact hR'
      · rw [hv 4 (by omega)] at h2
        have hne : 0 < (m'.2.2.2.1 h).length := by
          rcases Nat.eq_zero_or_pos (m'.2.2.2.1 h).length with z | z
          · rw [h5.1, z] at h1; exact absurd (by decide) h1
          · exact z
        refine go_aload_n (z := 64) dX4_sendWhatItCan_63 rfl rfl ?_
        refine go_iconst (z := 65) (v := 1) dX4_sendWhatItCan_64 rfl (by decide) ?_
        refine go_putI (z := 68) dX4_sendWhatItCan_65 rfl fX4_140 (by assumption) rfl (Or.inl rfl) (congrArg Value.int (by decide)) ?_
        refine go_aload_n (z := 69) dX4_sendWhatItCan_68 rfl rfl ?_
        refine go_dup (z := 70) dX4_sendWhatItCan_69 rfl rfl ?_
        refine go_getI (z := 73) dX4_sendWhatItCan_70 rfl fX4_170 (by assumption) rfl ?_
        refine go_iconst (z := 74) (v := 1) dX4_sendWhatItCan_73 rfl (by decide) ?_
        refine go_iadd (z := 75) dX4_sendWhatItCan_74 rfl ?_
        refine go_putI (z := 78) dX4_sendWhatItCan_75 rfl fX4_170 (by assumption) rfl (Or.inl rfl) rfl ?_
        refine go_aload_n (z := 79) dX4_sendWhatItCan_78 rfl rfl ?_
        refine go_iconst (z := 80) (v := 1) dX4_sendWhatItCan_79 rfl (by decide) ?_
        refine go_iload_n (z := 81) dX4_sendWhatItCan_80 rfl rfl ?_
        refine go_bipush (z := 83) (v := 6) dX4_sendWhatItCan_81 rfl (by decide) ?_
        refine go_iconst (z := 84) (v := 0) dX4_sendWhatItCan_83 rfl (by decide) ?_
        refine go_null (z := 85) dX4_sendWhatItCan_84 rfl ?_
        rw [show ups i' (S + 4 + 2 * h) 4 1 (S + 4 + 2 * h) 8 = m'.2.2.1 h 8 by rw [ups_k (by decide)]; exact hv 8 (by omega)]
        have hR2 := (hR'.putH (k := 4) 1 hh (by omega)).putH (k := 8) (m'.2.2.1 h 8 + 1) hh (by omega)
        have hO2 : Out S i' r' (ups (ups i' (S + 4 + 2 * h) 4 1) (S + 4 + 2 * h) 8 (m'.2.2.1 h 8 + 1)) r' := (Out.pi (by omega) (by omega)).tr (Out.pi (by omega) (by omega))
        refine go_callV (z := 88) (t := 4) [.int 1, .int (nI h), .int (nI 6), .int 0, va_rf none] dX4_sendWhatItCan_85 rfl mlX4_post vX4_104 ⟨by decide, rfl⟩ (by assumption) rfl rfl (by decide) (cat_i (cat_i (cat_i (cat_i (cat_o cat_nil))))) (by simp) (by decide) (by first | decide | omega) (by first | decide | omega) (c_post hL hR2 (by omega) (by omega) (by show m'.2.2.2.2.length < 141; omega)) ?_
        refine chg_elim (fun i3 r3 hR3 hO3 => ?_)
        refine go_vret dX4_sendWhatItCan_88 rfl ⟨rfl, rfl, ?_, (hO'.tr hO2).tr hO3⟩
        unfold mAsk
        rw [if_pos ⟨Int32.not_le.mp h1, h2⟩]
        exact hR3
  have loop : ∀ (c : Nat) (m' : MS) (i' : IP) (r' : RP), (m'.2.2.2.1 h).length = c → Rep S m' i' r' → Out S i r i' r' → (∀ e ∈ m'.2.2.2.1 h, Gd e) → m'.2.2.2.2.length + (m'.2.2.2.1 h).length ≤ 141 → Go l G mX4_sendWhatItCan 2 0 0 20 [some (.ref S), some (.int (nI h)), some (.ref (S + 4 + 2 * h)), some (.int (nI c))] [] n i' r' (Chg n S i r (mAsk h (mSendL E h c m'))) := by
    intro c
    induction c with
    | zero =>
      intro m' i' r' hc hR' hO' hg' hcap'
      refine go_iload_n (z := 21) dX4_sendWhatItCan_20 rfl rfl ?_
      refine go_if_le (z := 49) (z2 := 24) dX4_sendWhatItCan_21 rfl (by decide) (fun _ => ?_) (fun h => absurd (by decide) h)
      exact ask m' i' r' 0 hR' hO' hcap'
    | succ c ih =>
      intro m' i' r' hc hR' hO' hg' hcap'
      have hv : ∀ f, f < 10 → i' (S + 4 + 2 * h) f = m'.2.2.1 h f := hR'.2.2.2.1 h hh
      have h5 := hR'.2.2.2.2.1 h hh
      have hz2 : i' S 2 = m'.1 2 := hR'.2.1 2 (by omega)
      obtain ⟨a, q, hq⟩ : ∃ a q, m'.2.2.2.1 h = a :: q := by
        cases hcase : m'.2.2.2.1 h with
        | nil => rw [hcase] at hc; simp at hc
        | cons a q => exact ⟨a, q, rfl⟩
      have hql : q.length = c := by rw [hq] at hc; simpa using hc
      refine go_iload_n (z := 21) dX4_sendWhatItCan_20 rfl rfl ?_
      refine go_if_le (z := 49) (z2 := 24) dX4_sendWhatItCan_21 rfl (by decide) (fun h => absurd h (nI_nle (by omega) (by have := h5.2.1; omega))) (fun _ => ?_)
      refine go_aload_n (z := 25) dX4_sendWhatItCan_24 rfl rfl ?_
      refine go_getI (z := 28) dX4_sendWhatItCan_25 rfl fX4_158 (by assumption) rfl ?_
      refine go_iconst (z := 29) (v := 2) dX4_sendWhatItCan_28 rfl (by decide) ?_
      refine go_aload_n (z := 30) dX4_sendWhatItCan_29 rfl rfl ?_
      refine go_getI (z := 33) dX4_sendWhatItCan_30 rfl fX4_15 (by assumption) rfl ?_
      refine go_imul (z := 34) dX4_sendWhatItCan_33 rfl ?_
      refine go_icmp_lt (z := 49) (z2 := 37) dX4_sendWhatItCan_34 rfl (by decide) (fun h1 => ?_) (fun h1 => ?_)
      · rw [hv 1 (by omega), hz2] at h1
        have := ask m' i' r' (c + 1) hR' hO' hcap'
        unfold mSendL
        rw [if_neg (Int32.not_le.mpr h1)]
        exact this
      · rw [hv 1 (by omega), hz2] at h1
        refine go_aload_n (z := 38) dX4_sendWhatItCan_37 rfl rfl ?_
        refine go_iload_n (z := 39) dX4_sendWhatItCan_38 rfl rfl ?_
        refine go_aload_n (z := 40) dX4_sendWhatItCan_39 rfl rfl ?_
        refine go_callV (z := 43) (t := 4) [.int (nI h), .ref (S + 4 + 2 * h)] dX4_sendWhatItCan_40 rfl mlX4_sendFirst vX4_166 ⟨by decide, rfl⟩ (by assumption) rfl rfl (by decide) (cat_i (cat_r cat_nil)) (by simp) (by decide) (by first | decide | omega) (by first | decide | omega) (c_sendFirst hh hL hR' (hE.out hL hO') hq hg' (by rw [hq] at hcap'; simp at hcap'; omega)) ?_
        refine chg_elim (fun i2 r2 hR2 hO2 => ?_)
        refine go_iinc (z := 46) dX4_sendWhatItCan_43 rfl rfl (pk_m1 c) (by decide) ?_
        refine go_goto (z := 20) dX4_sendWhatItCan_46 (by decide) ?_
        unfold mSendL
        rw [if_pos (Int32.not_lt.mp h1)]
        have hqq := mSendF_q (E := E) hq
        exact go_lo (lo' := [some (.ref S), some (.int (nI h)), some (.ref (S + 4 + 2 * h)), some (.int (nI c))]) rfl (ih _ i2 r2 (by rw [hqq]; exact hql) hR2 (hO'.tr hO2) (fun e he => hg' e (by rw [hqq] at he; rw [hq]; exact List.mem_cons_of_mem _ he)) (by rw [hqq, mSendF_len hq]; rw [hq] at hcap'; simp at hcap'; omega))
  have h5 := hR.2.2.2.2.1 h hh
  have hw3 : i (S + 4 + 2 * h) 3 = nI (m.2.2.2.1 h).length := (hR.2.2.2.1 h hh 3 (by omega)).trans h5.1
  exact go_lo (lo' := [some (.ref S), some (.int (nI h)), some (.ref (S + 4 + 2 * h)), some (.int (nI (m.2.2.2.1 h).length))]) (by rw [← hw3]; rfl) (loop _ m i r rfl hR Out.rf hg hcap)
end STATE3
