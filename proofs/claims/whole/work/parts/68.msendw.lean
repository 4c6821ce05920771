/-! the reference sends what it can as the class does -/
def SQ (P : (Nat → Int32) → Prop) (M n : Nat) (i : IP) (r : RP) : QP := fun v n' i' r' => v = none ∧ n' = n ∧ r' = r ∧ ∃ s', i' = upr i (M + 1) s' ∧ P s'
theorem sq_elim {K : Option Value → Nat → IP → RP → Prop} {P : (Nat → Int32) → Prop} {M n : Nat} {i : IP} {r : RP} (h : ∀ s', P s' → K none n (upr i (M + 1) s') r) : ∀ v n' i' r', SQ P M n i r v n' i' r' → K v n' i' r' := by
  rintro v n' i' r' ⟨h1, h2, h3, s', h4, h5⟩
  rw [h1, h2, h3, h4]
  exact h s' h5
theorem uH_s {s : Nat → Int32} {h w : Nat} {x : Int32} : hF (uH s h w x) h w = x := up1_s
theorem uH_o {s : Nat → Int32} {h w h' w' : Nat} {x : Int32} (hw : w < 9) (hw' : w' < 9) (hn : ¬ (h' = h ∧ w' = w)) : hF (uH s h w x) h' w' = hF s h' w' := up1_n (by omega)
theorem uH_n {s : Nat → Int32} {h w k : Nat} {x : Int32} (hh : h < 6) (hw : w < 9) (hk : k < 54 ∨ 108 ≤ k) : uH s h w x k = s k := up1_n (by omega)
section MSENDW
variable {l : Launch} {G : GG} {n : Nat} {i : IP} {r : RP} {M : Nat} {s : Nat → Int32} {E : EE} {Gd : Nat → Prop} {o : Nat} {ml0 : RM} {m : MS}
theorem c_mSendW {h : Nat} (hX : MoX G n M r) (hE : EOk E Gd) (hh : h < 6) (hR : RelS E Gd o ml0 m s) (hcap : m.2.2.2.2.length + (m.2.2.2.1 h).length < 144) : Go l G mX6_sendWhatItCan 3 0 0 0 (lentry [.ref M, .int (nI h)] 4) [] n (upr i (M + 1) s) r (SQ (RelS E Gd o ml0 (mSend E h m)) M n i r) := by
  obtain ⟨hM, hr0, hs⟩ := id hX
  have loop : ∀ c m s o3, (m.2.2.2.1 h).length = c → RelS E Gd o ml0 m s → m.2.2.2.2.length + c < 144 → Go l G mX6_sendWhatItCan 3 0 0 6 [some (.ref M), some (.int (nI h)), some (.int (o2i (fstF s (nI (h + 1)) 0 80))), o3] [] n (upr i (M + 1) s) r (SQ (RelS E Gd o ml0 (mAsk h (mSendL E h c m))) M n i r) := by
    intro c
    induction c with
    | zero =>
      intro m s o3 hl hR hcap
      obtain ⟨β, qs, ps, nw, o', ho, hA⟩ := id hR
      generalize hml0 : ml0 ++ nw = ml at hA
      have hf : fstF s (nI (h + 1)) 0 80 = (qs h).head? := (hA.2.2.2.1.2.2.2.1 h hh).first
      have hQ : m.2.2.2.1 h = [] := List.length_eq_zero_iff.mp hl
      have hq : qs h = [] := by
        have := hA.2.2.2.2.2.1 h hh
        rw [hQ] at this
        exact List.map_eq_nil_iff.mp this
      rw [hf, hq]
      refine go_iload_n (z := 7) dX6_sendWhatItCan_6 rfl rfl ?_
      refine go_bipush (z := 9) (v := (-5)) dX6_sendWhatItCan_7 rfl (by decide) ?_
      refine go_icmp_eq (z := 87) (z2 := 12) dX6_sendWhatItCan_9 rfl (by decide) (fun _ => ?_) (fun h => absurd rfl h)
      refine go_iload_n (z := 88) dX6_sendWhatItCan_87 rfl rfl ?_
      refine go_bipush (z := 90) (v := (-5)) dX6_sendWhatItCan_88 rfl (by decide) ?_
      refine go_icmp_eq (z := 127) (z2 := 93) dX6_sendWhatItCan_90 rfl (by decide) (fun _ => ?_) (fun h => absurd rfl h)
      refine go_vret dX6_sendWhatItCan_127 rfl ⟨rfl, rfl, rfl, s, rfl, ?_⟩
      have h3 := (hA.2.2.1 h hh).2.1
      rw [hQ] at h3
      have e : mAsk h m = m := by
        unfold mAsk
        rw [if_neg (fun q => by rw [h3] at q; exact absurd q.1 (by decide))]
      rw [show mSendL E h 0 m = m from rfl, e]
      exact hR
    | succ c ih =>
      intro m s o3 hl hR hcap
      obtain ⟨β, qs, ps, nw, o', ho, hA⟩ := id hR
      generalize hml0 : ml0 ++ nw = ml at hA
      have hf : fstF s (nI (h + 1)) 0 80 = (qs h).head? := (hA.2.2.2.1.2.2.2.1 h hh).first
      have hml := hA.len
      obtain ⟨e, L, hq⟩ : ∃ e L, qs h = e :: L := by
        cases hq : qs h with
        | nil =>
          have := hA.2.2.2.2.2.1 h hh
          rw [hq] at this
          rw [← this] at hl
          cases hl
        | cons e L => exact ⟨e, L, rfl⟩
      have he80 : e < 80 := (((hA.2.2.2.1.2.2.2.1 h hh).1 e).mp (by rw [hq]; exact List.mem_cons_self)).1
      have hne : ¬ o2i (some e) = -5 := o2i_n (by omega)
      have e0 : mSendL E h (c + 1) m = if 2 * m.1 2 ≤ m.2.2.1 h 1 then mSendL E h c (mSendF E h m) else m := rfl
      have g1 : hF s h 1 = m.2.2.1 h 1 := (hA.2.2.1 h hh).1 1 (by omega)
      have g3 : hF s h 3 = m.2.2.1 h 4 := (hA.2.2.1 h hh).1 3 (by omega)
      have g5 : hF s h 5 = m.2.2.1 h 7 := (hA.2.2.1 h hh).1 5 (by omega)
      have g6 : hF s h 6 = m.2.2.1 h 8 := (hA.2.2.1 h hh).1 6 (by omega)
      have s9 : s 9 = m.1 2 := hA.1 9 (by omega) (by omega) (by omega)
      have s4 : s 4 = nI ml.length := hA.2.2.2.2.2.2.1.1
      have h3 : 0 < m.2.2.1 h 3 := by
        rw [(hA.2.2.1 h hh).2.1, hl]
        exact (nI_ltI (a := 0) (by omega) (by omega)).mpr (by omega)
      rw [hf, hq, show (e :: L).head? = some e from rfl]
      refine go_iload_n (z := 7) dX6_sendWhatItCan_6 rfl rfl ?_
      refine go_bipush (z := 9) (v := (-5)) dX6_sendWhatItCan_7 rfl (by decide) ?_
      refine go_icmp_eq (z := 87) (z2 := 12) dX6_sendWhatItCan_9 rfl (by decide) (fun h => absurd h hne) (fun _ => ?_)
      refine go_aload_n (z := 13) dX6_sendWhatItCan_12 rfl rfl ?_
      refine go_iload_n (z := 14) dX6_sendWhatItCan_13 rfl rfl ?_
      refine go_iconst (z := 15) (v := 1) dX6_sendWhatItCan_14 rfl (by decide) ?_
      refine go_callV (z := 18) (t := 6) [.int (nI h), .int (nI 1)] dX6_sendWhatItCan_15 rfl mlX6_ofHouse vX6_67 ⟨by decide, rfl⟩ hM rfl rfl (by decide) (cat_i (cat_i cat_nil)) (by simp) (by decide) (by first | decide | omega) (by first | decide | omega) (c_mOfHouse hX hh (by omega)) ?_
      refine ret_elim ?_
      refine go_iconst (z := 19) (v := 2) dX6_sendWhatItCan_18 rfl (by decide) ?_
      refine go_aload_n (z := 20) dX6_sendWhatItCan_19 rfl rfl ?_
      refine go_getR (z := 23) dX6_sendWhatItCan_20 rfl fX6_7 (by assumption) rfl (by assumption) ?_
      refine go_bipush (z := 25) (v := 9) dX6_sendWhatItCan_23 rfl (by decide) ?_
      refine go_ialdM (z := 26) 9 (by assumption) (by decide) rfl (by omega) dX6_sendWhatItCan_25 rfl ?_
      refine go_imul (z := 27) dX6_sendWhatItCan_26 rfl ?_
      refine go_icmp_lt (z := 87) (z2 := 30) dX6_sendWhatItCan_27 rfl (by decide) (fun hlt => ?_) (fun hge => ?_)
      · rw [g1, s9] at hlt
        rw [e0, if_neg (fun q => absurd (Int32.lt_of_lt_of_le hlt q) Int32.lt_irrefl)]
        refine go_iload_n (z := 88) dX6_sendWhatItCan_87 rfl rfl ?_
        refine go_bipush (z := 90) (v := (-5)) dX6_sendWhatItCan_88 rfl (by decide) ?_
        refine go_icmp_eq (z := 127) (z2 := 93) dX6_sendWhatItCan_90 rfl (by decide) (fun h => absurd h hne) (fun _ => ?_)
        refine go_aload_n (z := 94) dX6_sendWhatItCan_93 rfl rfl ?_
        refine go_iload_n (z := 95) dX6_sendWhatItCan_94 rfl rfl ?_
        refine go_iconst (z := 96) (v := 3) dX6_sendWhatItCan_95 rfl (by decide) ?_
        refine go_callV (z := 99) (t := 6) [.int (nI h), .int (nI 3)] dX6_sendWhatItCan_96 rfl mlX6_ofHouse vX6_67 ⟨by decide, rfl⟩ hM rfl rfl (by decide) (cat_i (cat_i cat_nil)) (by simp) (by decide) (by first | decide | omega) (by first | decide | omega) (c_mOfHouse hX hh (by omega)) ?_
        refine ret_elim ?_
        refine go_if_ne (z := 127) (z2 := 102) dX6_sendWhatItCan_99 rfl (by decide) (fun h4 => ?_) (fun h4 => ?_)
        · refine go_vret dX6_sendWhatItCan_127 rfl ⟨rfl, rfl, rfl, s, rfl, ?_⟩
          have e : mAsk h m = m := by
            unfold mAsk
            rw [if_neg (fun q => h4 (g3.trans q.2))]
          rw [e]
          exact hR
        · refine go_aload_n (z := 103) dX6_sendWhatItCan_102 rfl rfl ?_
          refine go_iload_n (z := 104) dX6_sendWhatItCan_103 rfl rfl ?_
          refine go_iconst (z := 105) (v := 3) dX6_sendWhatItCan_104 rfl (by decide) ?_
          refine go_iconst (z := 106) (v := 1) dX6_sendWhatItCan_105 rfl (by decide) ?_
          refine go_callV (z := 109) (t := 6) [.int (nI h), .int (nI 3), .int 1] dX6_sendWhatItCan_106 rfl mlX6_setHouse vX6_77 ⟨by decide, rfl⟩ hM rfl rfl (by decide) (cat_i (cat_i (cat_i cat_nil))) (by simp) (by decide) (by first | decide | omega) (by first | decide | omega) (c_mSetHouse hX hh (by omega)) ?_
          refine ret_elim ?_
          refine go_aload_n (z := 110) dX6_sendWhatItCan_109 rfl rfl ?_
          refine go_iload_n (z := 111) dX6_sendWhatItCan_110 rfl rfl ?_
          refine go_bipush (z := 113) (v := 6) dX6_sendWhatItCan_111 rfl (by decide) ?_
          refine go_iconst (z := 114) (v := 1) dX6_sendWhatItCan_113 rfl (by decide) ?_
          refine go_callV (z := 117) (t := 6) [.int (nI h), .int (nI 6), .int 1] dX6_sendWhatItCan_114 rfl mlX6_addToHouse vX6_70 ⟨by decide, rfl⟩ hM rfl rfl (by decide) (cat_i (cat_i (cat_i cat_nil))) (by simp) (by decide) (by first | decide | omega) (by first | decide | omega) (c_mAddHouse hX hh (by omega)) ?_
          refine ret_elim ?_
          refine go_aload_n (z := 118) dX6_sendWhatItCan_117 rfl rfl ?_
          refine go_iconst (z := 119) (v := 1) dX6_sendWhatItCan_118 rfl (by decide) ?_
          refine go_iload_n (z := 120) dX6_sendWhatItCan_119 rfl rfl ?_
          refine go_bipush (z := 122) (v := 6) dX6_sendWhatItCan_120 rfl (by decide) ?_
          refine go_iconst (z := 123) (v := 0) dX6_sendWhatItCan_122 rfl (by decide) ?_
          refine go_iconst (z := 124) (v := 0) dX6_sendWhatItCan_123 rfl (by decide) ?_
          refine go_callV (z := 127) (t := 6) [.int 1, .int (nI h), .int (nI 6), .int 0, .int 0] dX6_sendWhatItCan_124 rfl mlX6_send vX6_73 ⟨by decide, rfl⟩ hM rfl rfl (by decide) (cat_i (cat_i (cat_i (cat_i (cat_i cat_nil))))) (by simp) (by decide) (by first | decide | omega) (by first | decide | omega) (c_mSendM (c := ml.length) hX (by rw [uH_n hh (by omega) (by omega), uH_n hh (by omega) (by omega)]; exact s4) (by omega) (by omega) (by omega) (by omega)) ?_
          refine ret_elim ?_
          refine go_vret dX6_sendWhatItCan_127 rfl ⟨rfl, rfl, rfl, _, rfl, ?_⟩
          have e : mAsk h m = mPost (sH (sH m h (hP 3) 1) h (hP 6) (hF (uH s h 3 1) h 6 + 1)) 1 h 6 0 none := by
            unfold mAsk
            rw [if_pos ⟨h3, g3.symm.trans h4⟩, uH_o (by omega) (by omega) (by omega), g6]
            rfl
          rw [e]
          exact RelS.snoc (((hA.house (w := 3) hh (by omega) (fun _ => Or.inr rfl)).house (w := 6) hh (by omega) (by omega)).post (by omega) (by omega) (by omega) (by omega)) hml0 ho
      · rw [g1, s9] at hge
        rw [e0, if_pos (Int32.not_lt.mp hge)]
        have hA1 := hA.house (h := h) (w := 1) (x := hF s h 1 + -(hF s h 1 / 2)) hh (by omega) (by omega)
        have hA2 := hA1.house (h := h) (w := 5) (x := hF (uH s h 1 (hF s h 1 + -(hF s h 1 / 2))) h 5 + 1) hh (by omega) (by omega)
        obtain ⟨-, t1, t2, t3, hA3⟩ := hA2.sendE hE (g := hF s h 1 / 2) hh hq (by omega)
        have eSF : mSendF E h m = mPost (sQ (sH (sH m h (hP 1) (hF s h 1 + -(hF s h 1 / 2))) h (hP 5) (hF (uH s h 1 (hF s h 1 + -(hF s h 1 / 2))) h 5 + 1)) h (L.map β)) 0 h (E.1 (β e)) (hF s h 1 / 2) (some (β e)) := by
          have t3 : m.2.2.2.1 h = β e :: L.map β := t3
          unfold mSendF
          rw [t3, uH_o (by omega) (by omega) (by omega), g5, g1, ← Int32.sub_eq_add_neg]
          rfl
        rw [eSF]
        have hlen : ((sQ (sH (sH m h (hP 1) (hF s h 1 + -(hF s h 1 / 2))) h (hP 5) (hF (uH s h 1 (hF s h 1 + -(hF s h 1 / 2))) h 5 + 1)) h (L.map β)).2.2.2.1 h).length = c := by
          show (up1 m.2.2.2.1 h (L.map β) h).length = c
          have t3 : m.2.2.2.1 h = β e :: L.map β := t3
          rw [up1_s]
          rw [t3] at hl
          exact Nat.succ.inj hl
        generalize sH (sH m h (hP 1) (hF s h 1 + -(hF s h 1 / 2))) h (hP 5) (hF (uH s h 1 (hF s h 1 + -(hF s h 1 / 2))) h 5 + 1) = m2 at hA3 hlen
        refine go_aload_n (z := 31) dX6_sendWhatItCan_30 rfl rfl ?_
        refine go_iload_n (z := 32) dX6_sendWhatItCan_31 rfl rfl ?_
        refine go_iconst (z := 33) (v := 1) dX6_sendWhatItCan_32 rfl (by decide) ?_
        refine go_callV (z := 36) (t := 6) [.int (nI h), .int (nI 1)] dX6_sendWhatItCan_33 rfl mlX6_ofHouse vX6_67 ⟨by decide, rfl⟩ hM rfl rfl (by decide) (cat_i (cat_i cat_nil)) (by simp) (by decide) (by first | decide | omega) (by first | decide | omega) (c_mOfHouse hX hh (by omega)) ?_
        refine ret_elim ?_
        refine go_iconst (z := 37) (v := 2) dX6_sendWhatItCan_36 rfl (by decide) ?_
        refine go_idiv (z := 38) dX6_sendWhatItCan_37 rfl (by decide) ?_
        refine go_istore_n (z := 39) dX6_sendWhatItCan_38 rfl (by decide) ?_
        refine go_aload_n (z := 40) dX6_sendWhatItCan_39 rfl rfl ?_
        refine go_iload_n (z := 41) dX6_sendWhatItCan_40 rfl rfl ?_
        refine go_iconst (z := 42) (v := 1) dX6_sendWhatItCan_41 rfl (by decide) ?_
        refine go_iload_n (z := 43) dX6_sendWhatItCan_42 rfl rfl ?_
        refine go_ineg (z := 44) dX6_sendWhatItCan_43 rfl rfl ?_
        refine go_callV (z := 47) (t := 6) [.int (nI h), .int (nI 1), .int (-(hF s h 1 / 2))] dX6_sendWhatItCan_44 rfl mlX6_addToHouse vX6_70 ⟨by decide, rfl⟩ hM rfl rfl (by decide) (cat_i (cat_i (cat_i cat_nil))) (by simp) (by decide) (by first | decide | omega) (by first | decide | omega) (c_mAddHouse hX hh (by omega)) ?_
        refine ret_elim ?_
        refine go_aload_n (z := 48) dX6_sendWhatItCan_47 rfl rfl ?_
        refine go_iload_n (z := 49) dX6_sendWhatItCan_48 rfl rfl ?_
        refine go_iconst (z := 50) (v := 5) dX6_sendWhatItCan_49 rfl (by decide) ?_
        refine go_iconst (z := 51) (v := 1) dX6_sendWhatItCan_50 rfl (by decide) ?_
        refine go_callV (z := 54) (t := 6) [.int (nI h), .int (nI 5), .int 1] dX6_sendWhatItCan_51 rfl mlX6_addToHouse vX6_70 ⟨by decide, rfl⟩ hM rfl rfl (by decide) (cat_i (cat_i (cat_i cat_nil))) (by simp) (by decide) (by first | decide | omega) (by first | decide | omega) (c_mAddHouse hX hh (by omega)) ?_
        refine ret_elim ?_
        refine go_aload_n (z := 55) dX6_sendWhatItCan_54 rfl rfl ?_
        refine go_iload_n (z := 56) dX6_sendWhatItCan_55 rfl rfl ?_
        refine go_iconst (z := 57) (v := 4) dX6_sendWhatItCan_56 rfl (by decide) ?_
        refine go_bipush (z := 59) (v := 7) dX6_sendWhatItCan_57 rfl (by decide) ?_
        refine go_callV (z := 62) (t := 6) [.int (nI e), .int (nI 4), .int 7] dX6_sendWhatItCan_59 rfl mlX6_setErrand vX6_53 ⟨by decide, rfl⟩ hM rfl rfl (by decide) (cat_i (cat_i (cat_i cat_nil))) (by simp) (by decide) (by first | decide | omega) (by first | decide | omega) (c_mSetErrand hX he80 (by omega)) ?_
        refine ret_elim ?_
        refine go_aload_n (z := 63) dX6_sendWhatItCan_62 rfl rfl ?_
        refine go_iconst (z := 64) (v := 0) dX6_sendWhatItCan_63 rfl (by decide) ?_
        refine go_iload_n (z := 65) dX6_sendWhatItCan_64 rfl rfl ?_
        refine go_aload_n (z := 66) dX6_sendWhatItCan_65 rfl rfl ?_
        refine go_iload_n (z := 67) dX6_sendWhatItCan_66 rfl rfl ?_
        refine go_iconst (z := 68) (v := 0) dX6_sendWhatItCan_67 rfl (by decide) ?_
        refine go_callV (z := 71) (t := 6) [.int (nI e), .int (nI 0)] dX6_sendWhatItCan_68 rfl mlX6_ofErrand vX6_39 ⟨by decide, rfl⟩ hM rfl rfl (by decide) (cat_i (cat_i cat_nil)) (by simp) (by decide) (by first | decide | omega) (by first | decide | omega) (c_mOfErrand hX he80 (by omega)) ?_
        refine ret_elim ?_
        rw [show eF (uE (uH (uH s h 1 (hF s h 1 + -(hF s h 1 / 2))) h 5 (hF (uH s h 1 (hF s h 1 + -(hF s h 1 / 2))) h 5 + 1)) e 4 7) e 0 = nI (E.1 (β e)) from by rw [uE_o (by omega) (by omega) (by omega)]; exact t1]
        refine go_iload_n (z := 72) dX6_sendWhatItCan_71 rfl rfl ?_
        refine go_iload_n (z := 73) dX6_sendWhatItCan_72 rfl rfl ?_
        refine go_iconst (z := 74) (v := 1) dX6_sendWhatItCan_73 rfl (by decide) ?_
        refine go_iadd (z := 75) dX6_sendWhatItCan_74 rfl ?_
        refine go_st (st' := [.int (nI (e + 1)), .int (hF s h 1 / 2), .int (nI (E.1 (β e))), .int (nI h), .int 0, .ref M]) (by rw [← nI_1]; rfl) ?_
        refine go_callV (z := 78) (t := 6) [.int 0, .int (nI h), .int (nI (E.1 (β e))), .int (hF s h 1 / 2), .int (nI (e + 1))] dX6_sendWhatItCan_75 rfl mlX6_send vX6_73 ⟨by decide, rfl⟩ hM rfl rfl (by decide) (cat_i (cat_i (cat_i (cat_i (cat_i cat_nil))))) (by simp) (by decide) (by first | decide | omega) (by first | decide | omega) (c_mSendM (c := ml.length) hX (by rw [uE_z (by omega)]; exact hA2.2.2.2.2.2.2.1.1) (by omega) (by omega) (by omega) (Or.inl hh)) ?_
        refine ret_elim ?_
        refine go_aload_n (z := 79) dX6_sendWhatItCan_78 rfl rfl ?_
        refine go_iload_n (z := 80) dX6_sendWhatItCan_79 rfl rfl ?_
        refine go_callV (z := 83) (t := 6) [.int (nI h)] dX6_sendWhatItCan_80 rfl mlX6_firstWaiting vX6_63 ⟨by decide, rfl⟩ hM rfl rfl (by decide) (cat_i cat_nil) (by simp) (by decide) (by first | decide | omega) (by first | decide | omega) (c_mFirstW hX) ?_
        refine ret_elim ?_
        refine go_istore_n (z := 84) dX6_sendWhatItCan_83 rfl (by decide) ?_
        refine go_goto (z := 6) dX6_sendWhatItCan_84 (by decide) ?_
        refine ih _ _ _ hlen (RelS.snoc hA3 hml0 ho) ?_
        rw [hA3.len, List.length_append]
        show ml.length + 1 + c < 144
        omega
  refine go_aload_n (z := 1) dX6_sendWhatItCan_0 rfl rfl ?_
  refine go_iload_n (z := 2) dX6_sendWhatItCan_1 rfl rfl ?_
  refine go_callV (z := 5) (t := 6) [.int (nI h)] dX6_sendWhatItCan_2 rfl mlX6_firstWaiting vX6_63 ⟨by decide, rfl⟩ hM rfl rfl (by decide) (cat_i cat_nil) (by simp) (by decide) (by first | decide | omega) (by first | decide | omega) (c_mFirstW hX) ?_
  refine ret_elim ?_
  refine go_istore_n (z := 6) dX6_sendWhatItCan_5 rfl (by decide) ?_
  exact loop _ m s none rfl hR hcap
end MSENDW
