/-! out of whole: pure laws -/
theorem toInt_nI {x : Int32} {w : Nat} (h : x.toInt = (w : Int)) (hw : w < 2 ^ 31) : x = nI w := Int32.toInt_inj.mp (h.trans (nI_toInt hw).symm)
theorem sumG_perm {l l' : List Mg} (h : List.Perm l l') : sumG l = sumG l' := by
  induction h with
  | nil => rfl
  | cons x _ ih => show x.1 3 + _ = x.1 3 + _; rw [ih]
  | swap x y l =>
    show y.1 3 + (x.1 3 + sumG l) = x.1 3 + (y.1 3 + sumG l)
    rw [← Int32.add_assoc, ← Int32.add_assoc, Int32.add_comm (y.1 3)]
  | trans _ _ i1 i2 => exact i1.trans i2
theorem gsum_sumG (l : List Mg) : gsum l = sumG l := by
  have : ∀ (l : List Mg) (a : Int32), l.foldl (fun a x => a + x.1 3) a = a + sumG l := by
    intro l
    induction l with
    | nil => intro a; exact (Int32.add_zero a).symm
    | cons x t ih =>
      intro a
      show t.foldl _ (a + x.1 3) = a + (x.1 3 + sumG t)
      rw [ih, Int32.add_assoc]
  exact (this l 0).trans (Int32.zero_add _)
theorem sumG_snoc (l : List Mg) (x : Mg) : sumG (l ++ [x]) = sumG l + x.1 3 := by
  rw [← gsum_sumG, ← gsum_sumG]
  unfold gsum
  rw [List.foldl_append]
  rfl
theorem aTot_ix (A : AP) : aTot A (nI 0) = A.1.1 0 ∧ aTot A (nI 1) = A.1.1 7 ∧ aTot A (nI 2) = A.1.1 8 ∧ aTot A (nI 3) = sumH A.1.2.2.1 1 6 ∧ aTot A (nI 4) = gsum A.1.2.2.2.2 ∧ aTot A (nI 5) = A.1.1 9 ∧ aTot A (nI 6) = nI A.1.2.2.2.2.length ∧ aTot A (nI 7) = cntB A.1.2.2.1 6 ∧ aTot A (nI 8) = A.1.1 10 ∧ aTot A (nI 9) = A.1.1 11 ∧ aTot A (nI 10) = A.1.1 12 ∧ aTot A (nI 11) = b2i (mQuiet A.1) ∧ aTot A (nI 12) = b2i (mIdle A.1) ∧ aTot A (nI 13) = A.1.1 1 ∧ aTot A (nI 14) = A.1.1 2 ∧ aTot A (nI 15) = nI A.2.1.length ∧ aTot A (nI 16) = nI A.2.2.2.2.2 := ⟨rfl, rfl, rfl, rfl, rfl, rfl, rfl, rfl, rfl, rfl, rfl, rfl, rfl, rfl, rfl, rfl, rfl⟩
def uRef (E : EE) (b : Bool) : Nat → Nat → MS → Int32
  | 0, _, _ => -5
  | c + 1, j, m => if uDone b m = true then nI j else uRef E b c (j + 1) (mTick E m)
theorem allH_at {p : Nat → Bool} {n : Nat} (h : allH p n = true) : ∀ q, q < n → p q = true := by
  induction n with
  | zero => intro q hq; exact absurd hq (Nat.not_lt_zero q)
  | succ n ih =>
    intro q hq
    have h : (allH p n && p n) = true := h
    rw [Bool.and_eq_true] at h
    by_cases e : q = n
    · rw [e]; exact h.2
    · exact ih h.1 q (by omega)
theorem stuck_tick {E : EE} {m : MS} (h : mStuck m = true) : mTick E m = sZ m 0 (m.1 0 + 1) := by
  unfold mStuck at h
  rw [Bool.and_eq_true] at h
  have hl : m.2.2.2.2 = [] := List.length_eq_zero_iff.mp (of_decide_eq_true h.2)
  have h0 := allH_at h.1
  have ha : mArrive E (sZ m 0 (m.1 0 + 1)) = sZ m 0 (m.1 0 + 1) := by
    unfold mArrive
    have e : cntA ((sZ m 0 (m.1 0 + 1)).1 0) (sZ m 0 (m.1 0 + 1)).2.2.2.2 = 0 := by
      show cntA _ m.2.2.2.2 = 0
      rw [hl]
      rfl
    rw [e]
    rfl
  have hw : ∀ q, q ≤ 6 → mWorkN q (sZ m 0 (m.1 0 + 1)) = sZ m 0 (m.1 0 + 1) := by
    intro q
    induction q with
    | zero => intro _; rfl
    | succ q ih =>
      intro hq
      show mWorkB q (mWorkN q (sZ m 0 (m.1 0 + 1))) = _
      rw [ih (by omega)]
      have hq0 : m.2.2.1 q 0 = 0 ∨ (m.2.2.1 q 2 = 0 ∧ ¬ m.2.2.1 q 4 = 0) := of_decide_eq_true (h0 q (by omega))
      unfold mWorkB
      by_cases c : m.2.2.1 q 0 = 0
      · exact if_pos c
      · rw [if_neg (show ¬ (sZ m 0 (m.1 0 + 1)).2.2.1 q 0 = 0 from c)]
        obtain ⟨c2, c4⟩ := hq0.resolve_left c
        unfold mWork
        dsimp only
        rw [if_neg (show ¬ 0 < (sZ m 0 (m.1 0 + 1)).2.2.1 q 2 from fun k => by
          have k : 0 < m.2.2.1 q 2 := k
          rw [c2] at k
          exact absurd k (by decide))]
        exact if_pos (Or.inr (Or.inr c4))
  show mWorks (mArrive E (sZ m 0 (m.1 0 + 1))) = _
  rw [ha, mWorks_N, hw 6 (Nat.le_refl _)]
theorem uRef_stuck {E : EE} {b : Bool} (c : Nat) : ∀ (j : Nat) (m : MS), mStuck m = true → ¬ uDone b m = true → uRef E b c j m = -5 := by
  induction c with
  | zero => intro _ _ _ _; rfl
  | succ c ih =>
    intro j m hs hd
    show (if uDone b m = true then nI j else uRef E b c (j + 1) (mTick E m)) = -5
    rw [if_neg hd, stuck_tick hs]
    refine ih (j + 1) _ hs ?_
    cases b with
    | true => exact hd
    | false => exact hd
theorem uRun_ref {E : EE} {b : Bool} (c : Nat) : ∀ (j : Nat) (m : MS), uRun E b c j m = uRef E b c j m := by
  induction c with
  | zero => intro _ _; rfl
  | succ c ih =>
    intro j m
    show (if uDone b m = true then nI j else if mStuck m = true then -5 else uRun E b c (j + 1) (mTick E m)) = (if uDone b m = true then nI j else uRef E b c (j + 1) (mTick E m))
    by_cases hd : uDone b m = true
    · rw [if_pos hd, if_pos hd]
    · rw [if_neg hd, if_neg hd]
      by_cases hs : mStuck m = true
      · rw [if_pos hs]
        have := uRef_stuck (E := E) (c + 1) j m hs hd
        have e : uRef E b (c + 1) j m = if uDone b m = true then nI j else uRef E b c (j + 1) (mTick E m) := rfl
        rw [e, if_neg hd] at this
        exact this.symm
      · rw [if_neg hs, ih]
theorem RepC.same {C : Nat} {A : AP} {i i' : IP} {r r' : RP} (h : RepC C A i r) (hs : ∀ a, C ≤ a → a < C + 1105 → i' a = i a ∧ r' a = r a) : RepC C A i' r' := by
  obtain ⟨a1, a2, a3, a4, ⟨q, a5⟩, p, b1, b2, b3⟩ := h
  have fr : ∀ S m, C < S → S + 157 ≤ C + 1105 → Rep S m i r → Rep S m i' r' := fun S m c1 c2 hR => hR.frame (fun a d1 d2 => hs a (by omega) (by omega))
  have eI : i' C = i C := (hs C (by omega) (by omega)).1
  have eR : r' C = r C := (hs C (by omega) (by omega)).2
  have eI3 : i' (C + 473) = i (C + 473) := (hs _ (by omega) (by omega)).1
  have eR4 : r' (C + 474) = r (C + 474) := (hs _ (by omega) (by omega)).2
  have eR2 : r' (C + 472) = r (C + 472) := (hs _ (by omega) (by omega)).2
  have hl := a2.2.2.2.2.1
  refine ⟨?_, ?_, fr _ _ (by omega) (by omega) a3, fr _ _ (by omega) (by omega) a4, ⟨q, fr _ _ (by omega) (by omega) a5⟩, p, fun j hj => ⟨(b1 j hj).1, ?_, ?_⟩, b2, fun j m hm => ?_⟩
  · unfold CeF
    rw [eR, eR4]
    exact a1
  · unfold CeI
    rw [eI, eI3]
    exact a2
  · rw [eR2]; exact (b1 j hj).2.1
  · obtain ⟨m, hm⟩ := (b1 j hj).2.2
    have := (b1 j hj).1
    exact ⟨m, fr _ _ (by omega) (by omega) hm⟩
  · have hj : j < 4 := by
      have := (List.getElem?_eq_some_iff.mp hm).1
      omega
    have := (b1 j hj).1
    exact fr _ _ (by omega) (by omega) (b3 j m hm)
