/-! quietIn, idleIn -/
def uDone (b : Bool) (m : MS) : Bool := if b = true then mQuiet m else mIdle m
def uRun (E : EE) (b : Bool) : Nat → Nat → MS → Int32
  | 0, _, _ => -5
  | c + 1, j, m => if uDone b m = true then nI j else if mStuck m = true then -5 else uRun E b c (j + 1) (mTick E m)
section CE8
variable {l : Launch} {G : GG} {n : Nat} {i : IP} {r : RP} {C : Nat} {A : AP} {E : EE} {Gd : Nat → Prop}
theorem c_untilLoop {b : Bool} (hL : CeL G n C) (hg : ∀ a, Gd a → C + 1105 ≤ a) (c : Nat) : ∀ (j : Nat) (m : MS) (i : IP) (r : RP), j + c = 501 → RepC C A i r → Rep (C + 315) m i r → RepE G n E Gd i r → (∀ q, q < c → TickOk E Gd (mTicks E q m)) → Go l G mX5_ticksUntil 5 0 0 13 [some (.ref C), some (.int (b2i b)), some (.int (nI j))] [] n i r (CP (uRun E b c j m, A) n C i r) := by
  have hc0 := hL.1
  have L4 := hL.2.2.2.1
  have hs := L4.s
  induction c with
  | zero =>
    intro j m i r hj hC hR hE hT
    have hj : j = 501 := by omega
    subst hj
    refine go_iload_n (z := 14) dX5_ticksUntil_13 rfl rfl ?_
    refine go_sipush (z := 17) (v := 500) dX5_ticksUntil_14 rfl (by decide) ?_
    refine go_icmp_gt (z := 75) (z2 := 20) dX5_ticksUntil_17 rfl (by decide) (fun _ => ?_) (fun h => absurd (by decide) h)
    refine go_bipush (z := 77) (v := (-5)) dX5_ticksUntil_75 rfl (by decide) ?_
    exact go_iret dX5_ticksUntil_77 rfl (cp_same hC)
  | succ c ih =>
    intro j m i r hj hC hR hE hT
    have f2 := hC.1.2.2.1
    have e0 : uRun E b (c + 1) j m = if uDone b m = true then nI j else if mStuck m = true then -5 else uRun E b c (j + 1) (mTick E m) := rfl
    have found : uDone b m = true → Go l G mX5_ticksUntil 5 0 0 47 [some (.ref C), some (.int (b2i b)), some (.int (nI j))] [] n i r (CP (uRun E b (c + 1) j m, A) n C i r) := by
      intro h
      rw [e0, if_pos h]
      refine go_iload_n (z := 48) dX5_ticksUntil_47 rfl rfl ?_
      exact go_iret dX5_ticksUntil_48 rfl (cp_same hC)
    have next : ¬ uDone b m = true → Go l G mX5_ticksUntil 5 0 0 49 [some (.ref C), some (.int (b2i b)), some (.int (nI j))] [] n i r (CP (uRun E b (c + 1) j m, A) n C i r) := by
      intro h
      rw [e0, if_neg h]
      refine go_aload_n (z := 50) dX5_ticksUntil_49 rfl rfl ?_
      refine go_getR (z := 53) dX5_ticksUntil_50 rfl fX5_19 (by assumption) rfl (by assumption) ?_
      refine go_callV (z := 56) (t := 4) [] dX5_ticksUntil_53 rfl mlX4_isStuck vX5_164 ⟨by decide, rfl⟩ hs rfl rfl (by decide) cat_nil (by simp) (by decide) (by first | decide | omega) (by first | decide | omega) (c_isStuck L4 hR) ?_
      refine ret_elim ?_
      by_cases hst : mStuck m = true
      · rw [if_pos hst, hst]
        refine go_if_eq (z := 62) (z2 := 59) dX5_ticksUntil_56 rfl (by decide) (fun h => absurd h (by decide)) (fun _ => ?_)
        refine go_bipush (z := 61) (v := (-5)) dX5_ticksUntil_59 rfl (by decide) ?_
        exact go_iret dX5_ticksUntil_61 rfl (cp_same hC)
      · rw [if_neg hst, Bool.eq_false_iff.mpr hst]
        refine go_if_eq (z := 62) (z2 := 59) dX5_ticksUntil_56 rfl (by decide) (fun _ => ?_) (fun h => absurd rfl h)
        refine go_aload_n (z := 63) dX5_ticksUntil_62 rfl rfl ?_
        refine go_getR (z := 66) dX5_ticksUntil_63 rfl fX5_19 (by assumption) rfl (by assumption) ?_
        refine go_callV (z := 69) (t := 4) [] dX5_ticksUntil_66 rfl mlX4_tick vX5_84 ⟨by decide, rfl⟩ hs rfl rfl (by decide) cat_nil (by simp) (by decide) (by first | decide | omega) (by first | decide | omega) (c_tick L4 hR hE (hT 0 (by omega))) ?_
        refine chg_elim (fun i3 r3 hR3 hO3 => ?_)
        refine go_iinc (z := 72) dX5_ticksUntil_69 rfl rfl (nI_1 j) (by decide) ?_
        refine go_goto (z := 13) dX5_ticksUntil_72 (by decide) ?_
        have ho : OutC C i r i3 r3 := Out.c hO3 (by omega) (by omega)
        refine go_post (ih (j + 1) (mTick E m) i3 r3 (by omega) (hC.trial hR3 hO3) hR3 (hE.outC hg ho) (fun q hq => hT (q + 1) (by omega))) ?_
        intro v n2 i2 r2 hp
        obtain ⟨p1, p2, p3, p4⟩ := hp
        exact ⟨p1, p2, p3, ho.tr p4⟩
    refine go_iload_n (z := 14) dX5_ticksUntil_13 rfl rfl ?_
    refine go_sipush (z := 17) (v := 500) dX5_ticksUntil_14 rfl (by decide) ?_
    refine go_icmp_gt (z := 75) (z2 := 20) dX5_ticksUntil_17 rfl (by decide) (fun h => absurd ((nI_ltI (a := 500) (by omega) (by omega)).mp h) (by omega)) (fun _ => ?_)
    cases hb : b with
    | true =>
      rw [hb] at found next
      have ed : uDone true m = mQuiet m := rfl
      rw [ed] at found next
      refine go_iload_n (z := 21) dX5_ticksUntil_20 rfl rfl ?_
      refine go_if_eq (z := 37) (z2 := 24) dX5_ticksUntil_21 rfl (by decide) (fun h => absurd h (by decide)) (fun _ => ?_)
      refine go_aload_n (z := 25) dX5_ticksUntil_24 rfl rfl ?_
      refine go_getR (z := 28) dX5_ticksUntil_25 rfl fX5_19 (by assumption) rfl (by assumption) ?_
      refine go_callV (z := 31) (t := 4) [] dX5_ticksUntil_28 rfl mlX4_isQuiet vX5_157 ⟨by decide, rfl⟩ hs rfl rfl (by decide) cat_nil (by simp) (by decide) (by first | decide | omega) (by first | decide | omega) (c_isQuiet L4 hR) ?_
      refine ret_elim ?_
      by_cases hq : mQuiet m = true
      · rw [hq]
        refine go_if_eq (z := 49) (z2 := 34) dX5_ticksUntil_31 rfl (by decide) (fun h => absurd h (by decide)) (fun _ => ?_)
        refine go_goto (z := 47) dX5_ticksUntil_34 (by decide) ?_
        exact found hq
      · rw [Bool.eq_false_iff.mpr hq]
        exact go_if_eq (z := 49) (z2 := 34) dX5_ticksUntil_31 rfl (by decide) (fun _ => next hq) (fun h => absurd rfl h)
    | false =>
      rw [hb] at found next
      have ed : uDone false m = mIdle m := rfl
      rw [ed] at found next
      refine go_iload_n (z := 21) dX5_ticksUntil_20 rfl rfl ?_
      refine go_if_eq (z := 37) (z2 := 24) dX5_ticksUntil_21 rfl (by decide) (fun _ => ?_) (fun h => absurd rfl h)
      refine go_aload_n (z := 38) dX5_ticksUntil_37 rfl rfl ?_
      refine go_getR (z := 41) dX5_ticksUntil_38 rfl fX5_19 (by assumption) rfl (by assumption) ?_
      refine go_callV (z := 44) (t := 4) [] dX5_ticksUntil_41 rfl mlX4_isIdle vX5_161 ⟨by decide, rfl⟩ hs rfl rfl (by decide) cat_nil (by simp) (by decide) (by first | decide | omega) (by first | decide | omega) (c_isIdle L4 hR) ?_
      refine ret_elim ?_
      by_cases hq : mIdle m = true
      · rw [hq]
        exact go_if_eq (z := 49) (z2 := 47) dX5_ticksUntil_44 rfl (by decide) (fun h => absurd h (by decide)) (fun _ => found hq)
      · rw [Bool.eq_false_iff.mpr hq]
        exact go_if_eq (z := 49) (z2 := 47) dX5_ticksUntil_44 rfl (by decide) (fun _ => next hq) (fun h => absurd rfl h)
theorem c_until {b : Bool} (hL : CeL G n C) (hC : RepC C A i r) (hE : RepE G n E Gd i r) (hg : ∀ a, Gd a → C + 1105 ≤ a) (hq : okQ G n A.1) (hT : ∀ q, q < 501 → TickOk E Gd (mTicks E q A.1)) : Go l G mX5_ticksUntil 5 0 0 0 (lentry [.ref C, .int (b2i b)] 3) [] n i r (CP (uRun E b 501 0 A.1, A) n C i r) := by
  have hc0 := hL.1
  have L2 := hL.2.1
  have L4 := hL.2.2.2.1
  have hs := L4.s
  have f0 := hC.1.1
  have f2 := hC.1.2.2.1
  obtain ⟨mt, hmt⟩ := hC.2.2.2.2.1
  refine go_aload_n (z := 1) dX5_ticksUntil_0 rfl rfl ?_
  refine go_getR (z := 4) dX5_ticksUntil_1 rfl fX5_19 (by assumption) rfl (by assumption) ?_
  refine go_aload_n (z := 5) dX5_ticksUntil_4 rfl rfl ?_
  refine go_getR (z := 8) dX5_ticksUntil_5 rfl fX5_12 (by assumption) rfl (by assumption) ?_
  refine go_callV (z := 11) (t := 4) [.ref (C + 1)] dX5_ticksUntil_8 rfl mlX4_copyFrom vX5_103 ⟨by decide, rfl⟩ hs rfl rfl (by decide) (cat_r cat_nil) (by simp) (by decide) (by first | decide | omega) (by first | decide | omega) (c_State_copyFrom L4 L2 (by omega) hmt hC.2.2.1 hq) ?_
  refine chg_elim (fun i3 r3 hR3 hO3 => ?_)
  refine go_iconst (z := 12) (v := 0) dX5_ticksUntil_11 rfl (by decide) ?_
  refine go_istore_n (z := 13) dX5_ticksUntil_12 rfl (by decide) ?_
  have ho : OutC C i r i3 r3 := Out.c hO3 (by omega) (by omega)
  refine go_lo (lo' := [some (.ref C), some (.int (b2i b)), some (.int (nI 0))]) rfl ?_
  refine go_post (c_untilLoop hL hg 501 0 A.1 i3 r3 rfl (hC.trial hR3 hO3) hR3 (hE.outC hg ho) hT) ?_
  intro v n2 i2 r2 hp
  obtain ⟨p1, p2, p3, p4⟩ := hp
  exact ⟨p1, p2, p3, ho.tr p4⟩
theorem c_ceQuiet (hL : CeL G n C) (hC : RepC C A i r) (hE : RepE G n E Gd i r) (hg : ∀ a, Gd a → C + 1105 ≤ a) (hq : okQ G n A.1) (hT : ∀ q, q < 501 → TickOk E Gd (mTicks E q A.1)) : Go l G mX5_quietIn 6 0 0 0 (lentry [.ref C] 1) [] n i r (CP (uRun E true 501 0 A.1, A) n C i r) := by
  have hc0 := hL.1
  refine go_aload_n (z := 1) dX5_quietIn_0 rfl rfl ?_
  refine go_iconst (z := 2) (v := 1) dX5_quietIn_1 rfl (by decide) ?_
  refine go_callV (z := 5) (t := 5) [.int (b2i true)] dX5_quietIn_2 rfl mlX5_ticksUntil vX5_139 ⟨by decide, rfl⟩ hc0 rfl rfl (by decide) (cat_i cat_nil) (by simp) (by decide) (by first | decide | omega) (by first | decide | omega) (c_until (b := true) hL hC hE hg hq hT) ?_
  intro v n2 i2 r2 hp
  obtain ⟨p1, p2, p3, p4⟩ := hp
  rw [p1, p2]
  exact go_iret dX5_quietIn_5 rfl ⟨rfl, rfl, p3, p4⟩
theorem c_ceIdle (hL : CeL G n C) (hC : RepC C A i r) (hE : RepE G n E Gd i r) (hg : ∀ a, Gd a → C + 1105 ≤ a) (hq : okQ G n A.1) (hT : ∀ q, q < 501 → TickOk E Gd (mTicks E q A.1)) : Go l G mX5_idleIn 6 0 0 0 (lentry [.ref C] 1) [] n i r (CP (uRun E false 501 0 A.1, A) n C i r) := by
  have hc0 := hL.1
  refine go_aload_n (z := 1) dX5_idleIn_0 rfl rfl ?_
  refine go_iconst (z := 2) (v := 0) dX5_idleIn_1 rfl (by decide) ?_
  refine go_callV (z := 5) (t := 5) [.int (b2i false)] dX5_idleIn_2 rfl mlX5_ticksUntil vX5_139 ⟨by decide, rfl⟩ hc0 rfl rfl (by decide) (cat_i cat_nil) (by simp) (by decide) (by first | decide | omega) (by first | decide | omega) (c_until (b := false) hL hC hE hg hq hT) ?_
  intro v n2 i2 r2 hp
  obtain ⟨p1, p2, p3, p4⟩ := hp
  rw [p1, p2]
  exact go_iret dX5_idleIn_5 rfl ⟨rfl, rfl, p3, p4⟩
end CE8
