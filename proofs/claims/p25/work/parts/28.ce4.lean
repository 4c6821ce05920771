/-! the calls that run, drop and undo -/
def aPass (E : EE) (A : AP) (x : Int32) : Int32 × AP := if 1 ≤ x ∧ x ≤ 100 then (if A.1.1 0 + x ≤ 1000000 then ((mTicks E x.toNatClampNeg A.1).1 0, aR A (mTicks E x.toNatClampNeg A.1)) else (-3, A)) else (-2, A)
def aLoseO (A : AP) (k : Nat) : Option Mg → Int32 × AP
  | some y => (y.1 3, aR A (mDrop k y A.1))
  | none => (-1, A)
def aLose (A : AP) (x : Int32) : Int32 × AP := if x < 0 then (-2, A) else aLoseO A x.toNatClampNeg A.1.2.2.2.2[x.toNatClampNeg]?
def aGood (E : EE) (A : AP) : Int32 × AP := if A.1.1 13 = 0 then (-5, A) else (A.1.1 9, aR A (mGood E A.1))
def aUndo (A : AP) : Int32 × AP := match A.2.1.getLast? with
  | none => (-5, A)
  | some m => (nI (A.2.1.length - 1), (m, A.2.1.dropLast, A.2.2))
def aKeep (A : AP) : Int32 × AP := (A.1.1 0, (A.1, A.2.1, A.1, true, A.2.2.2.2))
def aRest (A : AP) : Int32 × AP := if A.2.2.2.1 = true then (A.2.2.1.1 0, aR A A.2.2.1) else (-5, A)
def aClear (A : AP) : Int32 × AP := (nI A.2.2.2.2.2, (A.1, A.2.1, A.2.2.1, A.2.2.2.1, A.2.2.2.2.1, 0))
theorem RepE.outC {G : GG} {n C : Nat} {E : EE} {Gd : Nat → Prop} {i i' : IP} {r r' : RP} (hE : RepE G n E Gd i r) (hg : ∀ a, Gd a → C + 1105 ≤ a) (ho : OutC C i r i' r') : RepE G n E Gd i' r' := hE.same (fun a ha => ho a (Or.inr (hg a ha)))
section CE4
variable {l : Launch} {G : GG} {n : Nat} {i : IP} {r : RP} {C : Nat} {A : AP} {E : EE} {Gd : Nat → Prop}
theorem c_cePow {x : Int32} (hL : CeL G n C) (hC : RepC C A i r) (hq : okQ G n A.1) : Go l G mX5_changePower 3 0 0 0 (lentry [.ref C, .int x] 3) [] n i r (CP (aPow A x) n C i r) := by
  have hRn := hC.2.2.1
  have hc0 := hL.1
  have L2 := hL.2.1
  have hs := L2.s
  have f0 := hC.1.1
  have bad : ¬ (2 ≤ x ∧ x ≤ 16) → Go l G mX5_changePower 3 0 0 11 (lentry [.ref C, .int x] 3) [] n i r (CP (aPow A x) n C i r) := by
    intro h
    have e : aPow A x = (-2, A) := by unfold aPow; rw [if_neg h]
    rw [e]
    refine go_bipush (z := 13) (v := (-2)) dX5_changePower_11 rfl (by decide) ?_
    exact go_iret dX5_changePower_13 rfl (cp_same hC)
  refine go_iload_n (z := 1) dX5_changePower_0 rfl rfl ?_
  refine go_iconst (z := 2) (v := 2) dX5_changePower_1 rfl (by decide) ?_
  refine go_icmp_lt (z := 11) (z2 := 5) dX5_changePower_2 rfl (by decide) (fun h => bad (fun q => absurd (Int32.lt_of_lt_of_le h q.1) Int32.lt_irrefl)) (fun h1 => ?_)
  refine go_iload_n (z := 6) dX5_changePower_5 rfl rfl ?_
  refine go_bipush (z := 8) (v := 16) dX5_changePower_6 rfl (by decide) ?_
  refine go_icmp_le (z := 14) (z2 := 11) dX5_changePower_8 rfl (by decide) (fun h2 => ?_) (fun h => bad (fun q => h q.2))
  have h1 : 2 ≤ x := Int32.not_lt.mp h1
  have hz : i (C + 1) 1 = A.1.1 1 := hRn.2.1 1 (by omega)
  refine go_aload_n (z := 15) dX5_changePower_14 rfl rfl ?_
  refine go_getR (z := 18) dX5_changePower_15 rfl fX5_12 (by assumption) rfl (by assumption) ?_
  refine go_getI (z := 21) dX5_changePower_18 rfl fX5_151 (by assumption) rfl ?_
  refine go_istore_n (z := 22) dX5_changePower_21 rfl (by decide) ?_
  refine go_iload_n (z := 23) dX5_changePower_22 rfl rfl ?_
  refine go_iload_n (z := 24) dX5_changePower_23 rfl rfl ?_
  rw [hz]
  refine go_icmp_ne (z := 30) (z2 := 27) dX5_changePower_24 rfl (by decide) (fun h => ?_) (fun h => ?_)
  · have e : aPow A x = (A.1.1 1, aR A (sZ A.1 1 x)) := by unfold aPow; rw [if_pos ⟨h1, h2⟩, if_neg h]
    rw [e]
    refine go_aload_n (z := 31) dX5_changePower_30 rfl rfl ?_
    refine go_callV (z := 34) (t := 5) [] dX5_changePower_31 rfl mlX5_record vX5_70 ⟨by decide, rfl⟩ hc0 rfl rfl (by decide) cat_nil (by simp) (by decide) (by first | decide | omega) (by first | decide | omega) (c_record hL hC hq) ?_
    refine rec_elim (fun i2 r2 hC2 hR2 hO2 f0 => ?_)
    refine go_aload_n (z := 35) dX5_changePower_34 rfl rfl ?_
    refine go_getR (z := 38) dX5_changePower_35 rfl fX5_12 (by assumption) rfl (by assumption) ?_
    refine go_iload_n (z := 39) dX5_changePower_38 rfl rfl ?_
    refine go_putI (z := 42) dX5_changePower_39 rfl fX5_151 (by assumption) rfl (Or.inl rfl) rfl ?_
    refine go_iload_n (z := 43) dX5_changePower_42 rfl rfl ?_
    have ho : Out (C + 1) i2 r2 (ups i2 (C + 1) 1 x) r2 := Out.pi (by omega) (by omega)
    exact go_iret dX5_changePower_43 rfl ⟨rfl, rfl, hC2.now (hR2.putZ x (by omega)) ho, hO2.tr (Out.c ho (by omega) (by omega))⟩
  · have e : aPow A x = (-5, A) := by unfold aPow; rw [if_pos ⟨h1, h2⟩, if_pos h]
    rw [e]
    refine go_bipush (z := 29) (v := (-5)) dX5_changePower_27 rfl (by decide) ?_
    exact go_iret dX5_changePower_29 rfl (cp_same hC)
theorem c_ceLea {x : Int32} (hL : CeL G n C) (hC : RepC C A i r) (hq : okQ G n A.1) : Go l G mX5_changeLeastPart 3 0 0 0 (lentry [.ref C, .int x] 3) [] n i r (CP (aLea A x) n C i r) := by
  have hRn := hC.2.2.1
  have hc0 := hL.1
  have L2 := hL.2.1
  have hs := L2.s
  have f0 := hC.1.1
  have bad : ¬ (1 ≤ x ∧ x ≤ 99) → Go l G mX5_changeLeastPart 3 0 0 11 (lentry [.ref C, .int x] 3) [] n i r (CP (aLea A x) n C i r) := by
    intro h
    have e : aLea A x = (-2, A) := by unfold aLea; rw [if_neg h]
    rw [e]
    refine go_bipush (z := 13) (v := (-2)) dX5_changeLeastPart_11 rfl (by decide) ?_
    exact go_iret dX5_changeLeastPart_13 rfl (cp_same hC)
  refine go_iload_n (z := 1) dX5_changeLeastPart_0 rfl rfl ?_
  refine go_iconst (z := 2) (v := 1) dX5_changeLeastPart_1 rfl (by decide) ?_
  refine go_icmp_lt (z := 11) (z2 := 5) dX5_changeLeastPart_2 rfl (by decide) (fun h => bad (fun q => absurd (Int32.lt_of_lt_of_le h q.1) Int32.lt_irrefl)) (fun h1 => ?_)
  refine go_iload_n (z := 6) dX5_changeLeastPart_5 rfl rfl ?_
  refine go_bipush (z := 8) (v := 99) dX5_changeLeastPart_6 rfl (by decide) ?_
  refine go_icmp_le (z := 14) (z2 := 11) dX5_changeLeastPart_8 rfl (by decide) (fun h2 => ?_) (fun h => bad (fun q => h q.2))
  have h1 : 1 ≤ x := Int32.not_lt.mp h1
  have hz : i (C + 1) 2 = A.1.1 2 := hRn.2.1 2 (by omega)
  refine go_aload_n (z := 15) dX5_changeLeastPart_14 rfl rfl ?_
  refine go_getR (z := 18) dX5_changeLeastPart_15 rfl fX5_12 (by assumption) rfl (by assumption) ?_
  refine go_getI (z := 21) dX5_changeLeastPart_18 rfl fX5_154 (by assumption) rfl ?_
  refine go_istore_n (z := 22) dX5_changeLeastPart_21 rfl (by decide) ?_
  refine go_iload_n (z := 23) dX5_changeLeastPart_22 rfl rfl ?_
  refine go_iload_n (z := 24) dX5_changeLeastPart_23 rfl rfl ?_
  rw [hz]
  refine go_icmp_ne (z := 30) (z2 := 27) dX5_changeLeastPart_24 rfl (by decide) (fun h => ?_) (fun h => ?_)
  · have e : aLea A x = (A.1.1 2, aR A (sZ A.1 2 x)) := by unfold aLea; rw [if_pos ⟨h1, h2⟩, if_neg h]
    rw [e]
    refine go_aload_n (z := 31) dX5_changeLeastPart_30 rfl rfl ?_
    refine go_callV (z := 34) (t := 5) [] dX5_changeLeastPart_31 rfl mlX5_record vX5_70 ⟨by decide, rfl⟩ hc0 rfl rfl (by decide) cat_nil (by simp) (by decide) (by first | decide | omega) (by first | decide | omega) (c_record hL hC hq) ?_
    refine rec_elim (fun i2 r2 hC2 hR2 hO2 f0 => ?_)
    refine go_aload_n (z := 35) dX5_changeLeastPart_34 rfl rfl ?_
    refine go_getR (z := 38) dX5_changeLeastPart_35 rfl fX5_12 (by assumption) rfl (by assumption) ?_
    refine go_iload_n (z := 39) dX5_changeLeastPart_38 rfl rfl ?_
    refine go_putI (z := 42) dX5_changeLeastPart_39 rfl fX5_154 (by assumption) rfl (Or.inl rfl) rfl ?_
    refine go_iload_n (z := 43) dX5_changeLeastPart_42 rfl rfl ?_
    have ho : Out (C + 1) i2 r2 (ups i2 (C + 1) 2 x) r2 := Out.pi (by omega) (by omega)
    exact go_iret dX5_changeLeastPart_43 rfl ⟨rfl, rfl, hC2.now (hR2.putZ x (by omega)) ho, hO2.tr (Out.c ho (by omega) (by omega))⟩
  · have e : aLea A x = (-5, A) := by unfold aLea; rw [if_pos ⟨h1, h2⟩, if_pos h]
    rw [e]
    refine go_bipush (z := 29) (v := (-5)) dX5_changeLeastPart_27 rfl (by decide) ?_
    exact go_iret dX5_changeLeastPart_29 rfl (cp_same hC)
theorem c_ceSet {k x : Int32} (hL : CeL G n C) (hC : RepC C A i r) (hq : okQ G n A.1) : Go l G mX5_set 4 0 0 0 (lentry [.ref C, .int k, .int x] 3) [] n i r (CP (aSet A k x) n C i r) := by
  have hc0 := hL.1
  refine go_iload_n (z := 1) dX5_set_0 rfl rfl ?_
  refine go_if_ne (z := 10) (z2 := 4) dX5_set_1 rfl (by decide) (fun h => ?_) (fun h => ?_)
  · refine go_iload_n (z := 11) dX5_set_10 rfl rfl ?_
    refine go_iconst (z := 12) (v := 1) dX5_set_11 rfl (by decide) ?_
    refine go_icmp_ne (z := 21) (z2 := 15) dX5_set_12 rfl (by decide) (fun h2 => ?_) (fun h2 => ?_)
    · have e : aSet A k x = (-1, A) := by unfold aSet; rw [if_neg h, if_neg h2]
      rw [e]
      refine go_iconst (z := 22) (v := (-1)) dX5_set_21 rfl (by decide) ?_
      exact go_iret dX5_set_22 rfl (cp_same hC)
    · have e : aSet A k x = aLea A x := by unfold aSet; rw [if_neg h, if_pos h2]
      rw [e]
      refine go_aload_n (z := 16) dX5_set_15 rfl rfl ?_
      refine go_iload_n (z := 17) dX5_set_16 rfl rfl ?_
      refine go_callV (z := 20) (t := 5) [.int x] dX5_set_17 rfl mlX5_changeLeastPart vX5_52 ⟨by decide, rfl⟩ hc0 rfl rfl (by decide) (cat_i cat_nil) (by simp) (by decide) (by first | decide | omega) (by first | decide | omega) (c_ceLea hL hC hq) ?_
      intro v n2 i2 r2 hp
      obtain ⟨p1, p2, p3, p4⟩ := hp
      rw [p1, p2]
      exact go_iret dX5_set_20 rfl ⟨rfl, rfl, p3, p4⟩
  · have e : aSet A k x = aPow A x := by unfold aSet; rw [if_pos h]
    rw [e]
    refine go_aload_n (z := 5) dX5_set_4 rfl rfl ?_
    refine go_iload_n (z := 6) dX5_set_5 rfl rfl ?_
    refine go_callV (z := 9) (t := 5) [.int x] dX5_set_6 rfl mlX5_changePower vX5_48 ⟨by decide, rfl⟩ hc0 rfl rfl (by decide) (cat_i cat_nil) (by simp) (by decide) (by first | decide | omega) (by first | decide | omega) (c_cePow hL hC hq) ?_
    intro v n2 i2 r2 hp
    obtain ⟨p1, p2, p3, p4⟩ := hp
    rw [p1, p2]
    exact go_iret dX5_set_9 rfl ⟨rfl, rfl, p3, p4⟩
end CE4
