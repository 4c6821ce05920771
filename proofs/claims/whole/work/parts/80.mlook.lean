/-! quietIn, idleIn at the reference; one that is stuck stays so -/
def uRef (E : EE) (b : Bool) : Nat → Nat → MS → Int32
  | 0, _, _ => -5
  | c + 1, j, m => if uDone b m = true then nI j else uRef E b c (j + 1) (mTick E m)
theorem allH_at {p : Nat → Bool} {n : Nat} (h : allH p n = true) : ∀ q, q < n → p q = true := by
  induction n with
  | zero => intro q hq; exact absurd hq (Nat.not_lt_zero q)
  | succ n ih =>
    intro q hq
    have h : (allH p n && p n) = true := h
    rw [Bool.and_eq_true] at h
    by_cases e : q = n
    · rw [e]; exact h.2
    · exact ih h.1 q (by omega)
theorem stuck_tick {E : EE} {m : MS} (h : mStuck m = true) : mTick E m = sZ m 0 (m.1 0 + 1) := by
  unfold mStuck at h
  rw [Bool.and_eq_true] at h
  have hl : m.2.2.2.2 = [] := List.length_eq_zero_iff.mp (of_decide_eq_true h.2)
  have h0 := allH_at h.1
  have ha : mArrive E (sZ m 0 (m.1 0 + 1)) = sZ m 0 (m.1 0 + 1) := by
    unfold mArrive
    have e : cntA ((sZ m 0 (m.1 0 + 1)).1 0) (sZ m 0 (m.1 0 + 1)).2.2.2.2 = 0 := by
      show cntA _ m.2.2.2.2 = 0
      rw [hl]
      rfl
    rw [e]
    rfl
  have hw : ∀ q, q ≤ 6 → mWorkN q (sZ m 0 (m.1 0 + 1)) = sZ m 0 (m.1 0 + 1) := by
    intro q
    induction q with
    | zero => intro _; rfl
    | succ q ih =>
      intro hq
      show mWorkB q (mWorkN q (sZ m 0 (m.1 0 + 1))) = _
      rw [ih (by omega)]
      have hq0 : m.2.2.1 q 0 = 0 ∨ (m.2.2.1 q 2 = 0 ∧ ¬ m.2.2.1 q 4 = 0) := of_decide_eq_true (h0 q (by omega))
      unfold mWorkB
      by_cases c : m.2.2.1 q 0 = 0
      · exact if_pos c
      · rw [if_neg (show ¬ (sZ m 0 (m.1 0 + 1)).2.2.1 q 0 = 0 from c)]
        obtain ⟨c2, c4⟩ := hq0.resolve_left c
        unfold mWork
        dsimp only
        rw [if_neg (show ¬ 0 < (sZ m 0 (m.1 0 + 1)).2.2.1 q 2 from fun k => by
          have k : 0 < m.2.2.1 q 2 := k
          rw [c2] at k
          exact absurd k (by decide))]
        exact if_pos (Or.inr (Or.inr c4))
  show mWorks (mArrive E (sZ m 0 (m.1 0 + 1))) = _
  rw [ha, mWorks_N, hw 6 (Nat.le_refl _)]
theorem uRef_stuck {E : EE} {b : Bool} (c : Nat) : ∀ (j : Nat) (m : MS), mStuck m = true → ¬ uDone b m = true → uRef E b c j m = -5 := by
  induction c with
  | zero => intro _ _ _ _; rfl
  | succ c ih =>
    intro j m hs hd
    show (if uDone b m = true then nI j else uRef E b c (j + 1) (mTick E m)) = -5
    rw [if_neg hd, stuck_tick hs]
    refine ih (j + 1) _ hs ?_
    cases b with
    | true => exact hd
    | false => exact hd
theorem uRun_ref {E : EE} {b : Bool} (c : Nat) : ∀ (j : Nat) (m : MS), uRun E b c j m = uRef E b c j m := by
  induction c with
  | zero => intro _ _; rfl
  | succ c ih =>
    intro j m
    show (if uDone b m = true then nI j else if mStuck m = true then -5 else uRun E b c (j + 1) (mTick E m)) = (if uDone b m = true then nI j else uRef E b c (j + 1) (mTick E m))
    by_cases hd : uDone b m = true
    · rw [if_pos hd, if_pos hd]
    · rw [if_neg hd, if_neg hd]
      by_cases hs : mStuck m = true
      · rw [if_pos hs]
        have := uRef_stuck (E := E) (c + 1) j m hs hd
        have e : uRef E b (c + 1) j m = if uDone b m = true then nI j else uRef E b c (j + 1) (mTick E m) := rfl
        rw [e, if_neg hd] at this
        exact this.symm
      · rw [if_neg hs, ih]
theorem upr_same {α : Type} {f : Nat → Nat → α} {a : Nat} {t : Nat → α} (h : f a = t) : upr f a t = f := by subst h; exact upr_id
section MLOOK
variable {l : Launch} {G : GG} {n : Nat} {i : IP} {r : RP} {M : Nat} {E : EE} {Gd : Nat → Prop} {O : Nat} {A : AP}
/-- the state is put back -/
theorem RefR.back {s : Nat → Int32} (hR : RefR E Gd O A M i) : RefR E Gd O A M (upr (upr i (M + 4) (cpyK (i (M + 1)) (i (M + 4)) 1372)) (M + 1) (cpyK (cpyK (i (M + 1)) (i (M + 4)) 1372) s 1372)) := by
  obtain ⟨h1, ⟨h2, h3, h4⟩, h5, h6, h7, h8, h9⟩ := hR
  have row : ∀ a, a ≠ M + 1 → a ≠ M + 4 → upr (upr i (M + 4) (cpyK (i (M + 1)) (i (M + 4)) 1372)) (M + 1) (cpyK (cpyK (i (M + 1)) (i (M + 4)) 1372) s 1372) a = i a := fun a a1 a2 => by rw [upr_n a1, upr_n a2]
  refine ⟨?_, ⟨by rw [row _ (by omega) (by omega)]; exact h2, h3, fun j m hm => by rw [row _ (by omega) (by omega)]; exact h4 j m hm⟩, by rw [row _ (by omega) (by omega)]; exact h5, fun hk => by rw [row _ (by omega) (by omega)]; exact h6 hk, by rw [row _ (by omega) (by omega)]; exact h7, h8, fun k hk => by rw [row _ (by omega) (by omega)]; exact h9 k hk⟩
  rw [upr_s]
  exact h1.congr (fun k hk => (if_pos hk).trans (if_pos hk))
theorem c_mQuietIn {T K : Nat} (hY : MoY G n M r) (hE : EOk E Gd) (hW : EW E Gd) (hI : Inv E Gd T T (fun _ => T) A.1) (hT : T ≤ 1000000) (hP : PI E K A.1) (hK : K ≤ 2 ^ 30) (hR : RefR E Gd O A M i) (hO : O + 2000000 < 2 ^ 31) : Go l G mX6_quietIn 7 0 0 0 (lentry [.ref M] 2) [] n i r (PQ (uRef E true 501 0 A.1) (RefR E Gd O A M) M n i r) := by
  obtain ⟨⟨hM, hr0, hs⟩, ⟨hr1, hr3, hr5, hr6, hr8, hr12⟩, hA2, hA3, hA4, hA5, hA6, hA7⟩ := id hY
  have hX := hY.1
  have out : ∀ j s v, j ≤ 501 → v = (if j = 501 then -5 else nI j) → Go l G mX6_quietIn 7 0 0 37 [some (.ref M), some (.int (nI j))] [] n (upr (upr i (M + 4) (cpyK (i (M + 1)) (i (M + 4)) 1372)) (M + 1) s) r (PQ v (RefR E Gd O A M) M n i r) := by
    intro j s v hj hv
    refine go_aload_n (z := 38) dX6_quietIn_37 rfl rfl ?_
    refine go_getR (z := 41) dX6_quietIn_38 rfl fX6_19 (by assumption) rfl (by assumption) ?_
    refine go_aload_n (z := 42) dX6_quietIn_41 rfl rfl ?_
    refine go_getR (z := 45) dX6_quietIn_42 rfl fX6_7 (by assumption) rfl (by assumption) ?_
    refine go_callS (z := 48) [.ref (M + 4), .ref (M + 1)] dX6_quietIn_45 rfl mlX6_copy sX6_158 rfl rfl (by decide) (cat_r (cat_r cat_nil)) (by simp) (by decide) (by first | decide | omega) (by first | decide | omega) (c_mCopy hA4 hs (by omega)) ?_
    refine ret_elim ?_
    rw [upr_s, upr_n (show M + 4 ≠ M + 1 by omega), upr_s, upr_upr]
    refine go_iload_n (z := 49) dX6_quietIn_48 rfl rfl ?_
    refine go_sipush (z := 52) (v := 500) dX6_quietIn_49 rfl (by decide) ?_
    by_cases h5 : j = 501
    · refine go_icmp_le (z := 60) (z2 := 55) dX6_quietIn_52 rfl (by decide) (fun h => absurd ((nI_leI (b := 500) (by omega) (by omega)).mp h) (by omega)) (fun _ => ?_)
      refine go_bipush (z := 57) (v := (-5)) dX6_quietIn_55 rfl (by decide) ?_
      refine go_goto (z := 61) dX6_quietIn_57 (by decide) ?_
      rw [hv, if_pos h5]
      exact go_iret dX6_quietIn_61 rfl ⟨rfl, rfl, rfl, (OutM.pr (a := M + 4) (by omega) (by omega)).tr (OutM.pr (a := M + 1) (by omega) (by omega)), hR.back⟩
    · refine go_icmp_le (z := 60) (z2 := 55) dX6_quietIn_52 rfl (by decide) (fun _ => ?_) (fun h => absurd ((nI_leI (b := 500) (by omega) (by omega)).mpr (by omega)) h)
      refine go_iload_n (z := 61) dX6_quietIn_60 rfl rfl ?_
      rw [hv, if_neg h5]
      exact go_iret dX6_quietIn_61 rfl ⟨rfl, rfl, rfl, (OutM.pr (a := M + 4) (by omega) (by omega)).tr (OutM.pr (a := M + 1) (by omega) (by omega)), hR.back⟩
  have loop : ∀ d j T m s, j + d = 501 → RelS E Gd (O + 2160 * j) [] m s → Inv E Gd T T (fun _ => T) m → T + d ≤ 1000600 → PI E K m → Go l G mX6_quietIn 7 0 0 13 [some (.ref M), some (.int (nI j))] [] n (upr (upr i (M + 4) (cpyK (i (M + 1)) (i (M + 4)) 1372)) (M + 1) s) r (PQ (uRef E true d j m) (RefR E Gd O A M) M n i r) := by
    intro d
    induction d with
    | zero =>
      intro j T m s hj hS hI hT hP
      obtain ⟨β, qs, ps, ml, o, ho, hA⟩ := id hS
      have hA : RelA E Gd β qs ps ml o m s := hA
      refine go_aload_n (z := 14) dX6_quietIn_13 rfl rfl ?_
      refine go_callV (z := 17) (t := 6) [] dX6_quietIn_14 rfl mlX6_isQuiet vX6_178 ⟨by decide, rfl⟩ hM rfl rfl (by decide) cat_nil (by simp) (by decide) (by first | decide | omega) (by first | decide | omega) (c_mQuiet hX) ?_
      refine ret_elim ?_
      refine go_if_ne (z := 37) (z2 := 20) dX6_quietIn_17 rfl (by decide) (fun _ => out j s _ (by omega) (by rw [if_pos (by omega)]; rfl)) (fun _ => ?_)
      refine go_iload_n (z := 21) dX6_quietIn_20 rfl rfl ?_
      refine go_sipush (z := 24) (v := 500) dX6_quietIn_21 rfl (by decide) ?_
      exact go_icmp_gt (z := 37) (z2 := 27) dX6_quietIn_24 rfl (by decide) (fun _ => out j s _ (by omega) (by rw [if_pos (by omega)]; rfl)) (fun h => absurd ((nI_ltI (a := 500) (by omega) (by omega)).mpr (by omega)) h)
    | succ d ih =>
      intro j T m s hj hS hI hT hP
      obtain ⟨β, qs, ps, ml, o, ho, hA⟩ := id hS
      have hA : RelA E Gd β qs ps ml o m s := hA
      have e0 : uRef E true (d + 1) j m = if mQuiet m = true then nI j else uRef E true d (j + 1) (mTick E m) := rfl
      have hdn : decide (s 1 = s 2) = mQuiet m := by rw [hA.1 1 (by omega) (by omega) (by omega), hA.1 2 (by omega) (by omega) (by omega)]; rfl
      rw [e0]
      refine go_aload_n (z := 14) dX6_quietIn_13 rfl rfl ?_
      refine go_callV (z := 17) (t := 6) [] dX6_quietIn_14 rfl mlX6_isQuiet vX6_178 ⟨by decide, rfl⟩ hM rfl rfl (by decide) cat_nil (by simp) (by decide) (by first | decide | omega) (by first | decide | omega) (c_mQuiet hX) ?_
      refine ret_elim ?_
      rw [hdn]
      refine go_if_ne (z := 37) (z2 := 20) dX6_quietIn_17 rfl (by decide) (fun h => ?_) (fun h => ?_)
      · rw [if_pos (b2i_ne h)]
        exact out j s _ (by omega) (by rw [if_neg (by omega)])
      · rw [if_neg (fun q => by rw [b2i_eq h] at q; cases q)]
        refine go_iload_n (z := 21) dX6_quietIn_20 rfl rfl ?_
        refine go_sipush (z := 24) (v := 500) dX6_quietIn_21 rfl (by decide) ?_
        refine go_icmp_gt (z := 37) (z2 := 27) dX6_quietIn_24 rfl (by decide) (fun h => absurd ((nI_ltI (a := 500) (by omega) (by omega)).mp h) (by omega)) (fun _ => ?_)
        refine go_aload_n (z := 28) dX6_quietIn_27 rfl rfl ?_
        refine go_callV (z := 31) (t := 6) [] dX6_quietIn_28 rfl mlX6_tick vX6_149 ⟨by decide, rfl⟩ hM rfl rfl (by decide) cat_nil (by simp) (by decide) (by first | decide | omega) (by first | decide | omega) (c_mTick hX hE hW hI (by omega) hP hK hS (by omega)) ?_
        refine sq_elim (fun s5 hs5 => ?_)
        refine go_iinc (z := 34) dX6_quietIn_31 rfl rfl (nI_1 j) (by decide) ?_
        refine go_goto (z := 13) dX6_quietIn_34 (by decide) ?_
        exact ih (j + 1) (T + 1) (mTick E m) s5 (by omega) (by rw [show O + 2160 * (j + 1) = O + 2160 * j + 2160 by omega]; exact hs5) (hI.tick hE (by omega)).2 (by omega) (hI.tickP hE hW (by omega) hP hK).2
  refine go_aload_n (z := 1) dX6_quietIn_0 rfl rfl ?_
  refine go_getR (z := 4) dX6_quietIn_1 rfl fX6_7 (by assumption) rfl (by assumption) ?_
  refine go_aload_n (z := 5) dX6_quietIn_4 rfl rfl ?_
  refine go_getR (z := 8) dX6_quietIn_5 rfl fX6_19 (by assumption) rfl (by assumption) ?_
  refine go_callS (z := 11) [.ref (M + 1), .ref (M + 4)] dX6_quietIn_8 rfl mlX6_copy sX6_158 rfl rfl (by decide) (cat_r (cat_r cat_nil)) (by simp) (by decide) (by first | decide | omega) (by first | decide | omega) (c_mCopy hs hA4 (by omega)) ?_
  refine ret_elim ?_
  refine go_iconst (z := 12) (v := 0) dX6_quietIn_11 rfl (by decide) ?_
  refine go_istore_n (z := 13) dX6_quietIn_12 rfl (by decide) ?_
  have key := loop 501 0 T A.1 (i (M + 1)) rfl hR.1 hI (by omega) hP
  rw [upr_same (show upr i (M + 4) (cpyK (i (M + 1)) (i (M + 4)) 1372) (M + 1) = i (M + 1) from upr_n (by omega))] at key
  exact key
theorem c_mIdleIn {T K : Nat} (hY : MoY G n M r) (hE : EOk E Gd) (hW : EW E Gd) (hI : Inv E Gd T T (fun _ => T) A.1) (hT : T ≤ 1000000) (hP : PI E K A.1) (hK : K ≤ 2 ^ 30) (hR : RefR E Gd O A M i) (hO : O + 2000000 < 2 ^ 31) : Go l G mX6_idleIn 7 0 0 0 (lentry [.ref M] 2) [] n i r (PQ (uRef E false 501 0 A.1) (RefR E Gd O A M) M n i r) := by
  obtain ⟨⟨hM, hr0, hs⟩, ⟨hr1, hr3, hr5, hr6, hr8, hr12⟩, hA2, hA3, hA4, hA5, hA6, hA7⟩ := id hY
  have hX := hY.1
  have out : ∀ j s v, j ≤ 501 → v = (if j = 501 then -5 else nI j) → Go l G mX6_idleIn 7 0 0 37 [some (.ref M), some (.int (nI j))] [] n (upr (upr i (M + 4) (cpyK (i (M + 1)) (i (M + 4)) 1372)) (M + 1) s) r (PQ v (RefR E Gd O A M) M n i r) := by
    intro j s v hj hv
    refine go_aload_n (z := 38) dX6_idleIn_37 rfl rfl ?_
    refine go_getR (z := 41) dX6_idleIn_38 rfl fX6_19 (by assumption) rfl (by assumption) ?_
    refine go_aload_n (z := 42) dX6_idleIn_41 rfl rfl ?_
    refine go_getR (z := 45) dX6_idleIn_42 rfl fX6_7 (by assumption) rfl (by assumption) ?_
    refine go_callS (z := 48) [.ref (M + 4), .ref (M + 1)] dX6_idleIn_45 rfl mlX6_copy sX6_158 rfl rfl (by decide) (cat_r (cat_r cat_nil)) (by simp) (by decide) (by first | decide | omega) (by first | decide | omega) (c_mCopy hA4 hs (by omega)) ?_
    refine ret_elim ?_
    rw [upr_s, upr_n (show M + 4 ≠ M + 1 by omega), upr_s, upr_upr]
    refine go_iload_n (z := 49) dX6_idleIn_48 rfl rfl ?_
    refine go_sipush (z := 52) (v := 500) dX6_idleIn_49 rfl (by decide) ?_
    by_cases h5 : j = 501
    · refine go_icmp_le (z := 60) (z2 := 55) dX6_idleIn_52 rfl (by decide) (fun h => absurd ((nI_leI (b := 500) (by omega) (by omega)).mp h) (by omega)) (fun _ => ?_)
      refine go_bipush (z := 57) (v := (-5)) dX6_idleIn_55 rfl (by decide) ?_
      refine go_goto (z := 61) dX6_idleIn_57 (by decide) ?_
      rw [hv, if_pos h5]
      exact go_iret dX6_idleIn_61 rfl ⟨rfl, rfl, rfl, (OutM.pr (a := M + 4) (by omega) (by omega)).tr (OutM.pr (a := M + 1) (by omega) (by omega)), hR.back⟩
    · refine go_icmp_le (z := 60) (z2 := 55) dX6_idleIn_52 rfl (by decide) (fun _ => ?_) (fun h => absurd ((nI_leI (b := 500) (by omega) (by omega)).mpr (by omega)) h)
      refine go_iload_n (z := 61) dX6_idleIn_60 rfl rfl ?_
      rw [hv, if_neg h5]
      exact go_iret dX6_idleIn_61 rfl ⟨rfl, rfl, rfl, (OutM.pr (a := M + 4) (by omega) (by omega)).tr (OutM.pr (a := M + 1) (by omega) (by omega)), hR.back⟩
  have loop : ∀ d j T m s, j + d = 501 → RelS E Gd (O + 2160 * j) [] m s → Inv E Gd T T (fun _ => T) m → T + d ≤ 1000600 → PI E K m → Go l G mX6_idleIn 7 0 0 13 [some (.ref M), some (.int (nI j))] [] n (upr (upr i (M + 4) (cpyK (i (M + 1)) (i (M + 4)) 1372)) (M + 1) s) r (PQ (uRef E false d j m) (RefR E Gd O A M) M n i r) := by
    intro d
    induction d with
    | zero =>
      intro j T m s hj hS hI hT hP
      obtain ⟨β, qs, ps, ml, o, ho, hA⟩ := id hS
      have hA : RelA E Gd β qs ps ml o m s := hA
      refine go_aload_n (z := 14) dX6_idleIn_13 rfl rfl ?_
      refine go_callV (z := 17) (t := 6) [] dX6_idleIn_14 rfl mlX6_isIdle vX6_181 ⟨by decide, rfl⟩ hM rfl rfl (by decide) cat_nil (by simp) (by decide) (by first | decide | omega) (by first | decide | omega) (c_mIdle hX hA.2.2.2.2.2.2.1.1 hA.2.2.2.2.2.2.1.2.1) ?_
      refine ret_elim ?_
      refine go_if_ne (z := 37) (z2 := 20) dX6_idleIn_17 rfl (by decide) (fun _ => out j s _ (by omega) (by rw [if_pos (by omega)]; rfl)) (fun _ => ?_)
      refine go_iload_n (z := 21) dX6_idleIn_20 rfl rfl ?_
      refine go_sipush (z := 24) (v := 500) dX6_idleIn_21 rfl (by decide) ?_
      exact go_icmp_gt (z := 37) (z2 := 27) dX6_idleIn_24 rfl (by decide) (fun _ => out j s _ (by omega) (by rw [if_pos (by omega)]; rfl)) (fun h => absurd ((nI_ltI (a := 500) (by omega) (by omega)).mpr (by omega)) h)
    | succ d ih =>
      intro j T m s hj hS hI hT hP
      obtain ⟨β, qs, ps, ml, o, ho, hA⟩ := id hS
      have hA : RelA E Gd β qs ps ml o m s := hA
      have e0 : uRef E false (d + 1) j m = if mIdle m = true then nI j else uRef E false d (j + 1) (mTick E m) := rfl
      have hdn : idF s ml.length = mIdle m := hA.idle
      rw [e0]
      refine go_aload_n (z := 14) dX6_idleIn_13 rfl rfl ?_
      refine go_callV (z := 17) (t := 6) [] dX6_idleIn_14 rfl mlX6_isIdle vX6_181 ⟨by decide, rfl⟩ hM rfl rfl (by decide) cat_nil (by simp) (by decide) (by first | decide | omega) (by first | decide | omega) (c_mIdle hX hA.2.2.2.2.2.2.1.1 hA.2.2.2.2.2.2.1.2.1) ?_
      refine ret_elim ?_
      rw [hdn]
      refine go_if_ne (z := 37) (z2 := 20) dX6_idleIn_17 rfl (by decide) (fun h => ?_) (fun h => ?_)
      · rw [if_pos (b2i_ne h)]
        exact out j s _ (by omega) (by rw [if_neg (by omega)])
      · rw [if_neg (fun q => by rw [b2i_eq h] at q; cases q)]
        refine go_iload_n (z := 21) dX6_idleIn_20 rfl rfl ?_
        refine go_sipush (z := 24) (v := 500) dX6_idleIn_21 rfl (by decide) ?_
        refine go_icmp_gt (z := 37) (z2 := 27) dX6_idleIn_24 rfl (by decide) (fun h => absurd ((nI_ltI (a := 500) (by omega) (by omega)).mp h) (by omega)) (fun _ => ?_)
        refine go_aload_n (z := 28) dX6_idleIn_27 rfl rfl ?_
        refine go_callV (z := 31) (t := 6) [] dX6_idleIn_28 rfl mlX6_tick vX6_149 ⟨by decide, rfl⟩ hM rfl rfl (by decide) cat_nil (by simp) (by decide) (by first | decide | omega) (by first | decide | omega) (c_mTick hX hE hW hI (by omega) hP hK hS (by omega)) ?_
        refine sq_elim (fun s5 hs5 => ?_)
        refine go_iinc (z := 34) dX6_idleIn_31 rfl rfl (nI_1 j) (by decide) ?_
        refine go_goto (z := 13) dX6_idleIn_34 (by decide) ?_
        exact ih (j + 1) (T + 1) (mTick E m) s5 (by omega) (by rw [show O + 2160 * (j + 1) = O + 2160 * j + 2160 by omega]; exact hs5) (hI.tick hE (by omega)).2 (by omega) (hI.tickP hE hW (by omega) hP hK).2
  refine go_aload_n (z := 1) dX6_idleIn_0 rfl rfl ?_
  refine go_getR (z := 4) dX6_idleIn_1 rfl fX6_7 (by assumption) rfl (by assumption) ?_
  refine go_aload_n (z := 5) dX6_idleIn_4 rfl rfl ?_
  refine go_getR (z := 8) dX6_idleIn_5 rfl fX6_19 (by assumption) rfl (by assumption) ?_
  refine go_callS (z := 11) [.ref (M + 1), .ref (M + 4)] dX6_idleIn_8 rfl mlX6_copy sX6_158 rfl rfl (by decide) (cat_r (cat_r cat_nil)) (by simp) (by decide) (by first | decide | omega) (by first | decide | omega) (c_mCopy hs hA4 (by omega)) ?_
  refine ret_elim ?_
  refine go_iconst (z := 12) (v := 0) dX6_idleIn_11 rfl (by decide) ?_
  refine go_istore_n (z := 13) dX6_idleIn_12 rfl (by decide) ?_
  have key := loop 501 0 T A.1 (i (M + 1)) rfl hR.1 hI (by omega) hP
  rw [upr_same (show upr i (M + 4) (cpyK (i (M + 1)) (i (M + 4)) 1372) (M + 1) = i (M + 1) from upr_n (by omega))] at key
  exact key
end MLOOK
