/-! how often a house has asked in one tick; what a trial leaves -/
def AskB (k : Nat) (m : MS) : Prop := ∀ h, h < 6 → ∃ a, a ≤ k ∧ m.2.2.1 h 8 = nI a
def KW (mo m : MS) : Prop := m.1 2 = mo.1 2 ∧ m.2.1 = mo.2.1
section ASK
variable {E : EE} {Gd : Nat → Prop} {m mo : MS}
theorem AskB.same {k : Nat} {m' : MS} (h : AskB k m) (hs : ∀ q, m'.2.2.1 q 8 = m.2.2.1 q 8) : AskB k m' := fun q hq => by rw [hs]; exact h q hq
theorem AskB.mono {k k' : Nat} (h : AskB k m) (hk : k ≤ k') : AskB k' m := fun q hq => by
  obtain ⟨a, a1, a2⟩ := h q hq
  exact ⟨a, by omega, a2⟩
theorem sendF_8 (h : Nat) (m : MS) : ∀ q, (mSendF E h m).2.2.1 q 8 = m.2.2.1 q 8 := by
  intro q
  unfold mSendF
  split
  · rfl
  · show ups (ups (ups m.2.2.1 h 1 (m.2.2.1 h 1 - m.2.2.1 h 1 / 2)) h 7 (m.2.2.1 h 7 + 1)) h 3 (nI _) q 8 = _
    rw [ups_k (by decide), ups_k (by decide), ups_k (by decide)]
theorem sendL_8 (h c : Nat) : ∀ (m : MS) (q : Nat), (mSendL E h c m).2.2.1 q 8 = m.2.2.1 q 8 := by
  induction c with
  | zero => intro m q; rfl
  | succ c ih =>
    intro m q
    show (if 2 * m.1 2 ≤ m.2.2.1 h 1 then mSendL E h c (mSendF E h m) else m).2.2.1 q 8 = _
    split
    · rw [ih, sendF_8]
    · rfl
theorem AskB.send {k : Nat} (h : AskB k m) (q : Nat) : AskB (k + 1) (mSend E q m) := by
  have h1 : AskB k (mSendL E q (m.2.2.2.1 q).length m) := h.same (sendL_8 q _ m)
  show AskB (k + 1) (mAsk q (mSendL E q (m.2.2.2.1 q).length m))
  generalize mSendL E q (m.2.2.2.1 q).length m = m1 at h1
  unfold mAsk
  split
  · intro v hv
    obtain ⟨a, a1, a2⟩ := h1 v hv
    show ∃ a, a ≤ k + 1 ∧ ups (ups m1.2.2.1 q 4 1) q 8 (m1.2.2.1 q 8 + 1) v 8 = nI a
    by_cases c : v = q
    · subst c
      rw [ups_s, a2, nI_1]
      exact ⟨a + 1, by omega, rfl⟩
    · rw [ups_a c, ups_a c]
      exact ⟨a, by omega, a2⟩
  · exact h1.mono (by omega)
theorem AskB.arr {k : Nat} (h : AskB k m) (x : Mg) : AskB (k + 1) (mArr E x m) := by
  unfold mArr
  split
  · exact h.mono (by omega)
  · split
    · exact AskB.mono (m := mPost (mMint m) 2 6 (x.1 1).toNatClampNeg (coin m) none) h (by omega)
    · split
      · exact AskB.send (AskB.same h (fun q => by
          show ups (ups m.2.2.1 _ 1 _) _ 4 0 q 8 = _
          rw [ups_k (by decide), ups_k (by decide)])) _
      · split
        · refine AskB.send (AskB.same h (fun q => ?_)) _
          unfold mTake
          show ups (ups (ups (ups (ups m.2.2.1 _ 1 _) _ 0 1) _ 6 _) _ 2 _) _ 3 _ q 8 = _
          rw [ups_k (by decide), ups_k (by decide), ups_k (by decide), ups_k (by decide), ups_k (by decide)]
        · exact AskB.send (AskB.same h (fun q => by
            show ups m.2.2.1 _ 1 _ q 8 = _
            rw [ups_k (by decide)])) _
theorem AskB.steps (c : Nat) : ∀ {k : Nat} {m : MS}, AskB k m → AskB (k + c) (mSteps E c m) := by
  induction c with
  | zero => intro k m h; exact h
  | succ c ih =>
    intro k m h
    have h1 : AskB (k + 1) (mStep E m) := by
      unfold mStep
      split
      · exact h.mono (by omega)
      · exact h.arr _
    show AskB (k + (c + 1)) (mSteps E c (mStep E m))
    rw [show k + (c + 1) = k + 1 + c by omega]
    exact ih h1
theorem workB_8 (h : Nat) (m : MS) : ∀ q, (mWorkB h m).2.2.1 q 8 = m.2.2.1 q 8 := by
  intro q
  unfold mWorkB
  split
  · rfl
  · rw [mWork_fin]
    have fin : ∀ m, (mFin h m).2.2.1 q 8 = m.2.2.1 q 8 := by
      intro m
      unfold mFin
      split
      · rfl
      · split
        · show ups (ups (ups m.2.2.1 h 0 0) h 9 (m.2.2.1 h 9 + 1)) h 1 0 q 8 = _
          rw [ups_k (by decide), ups_k (by decide), ups_k (by decide)]
        · show ups (ups m.2.2.1 h 0 0) h 9 (m.2.2.1 h 9 + 1) q 8 = _
          rw [ups_k (by decide), ups_k (by decide)]
    rw [fin]
    split
    · show ups m.2.2.1 h 2 (m.2.2.1 h 2 - 1) q 8 = _
      rw [ups_k (by decide)]
    · rfl
theorem AskB.tick {k : Nat} (h : AskB k m) : AskB (k + m.2.2.2.2.length) (mTick E m) := by
  have h1 : AskB k (sZ m 0 (m.1 0 + 1)) := h
  have h2 : AskB (k + cntA ((sZ m 0 (m.1 0 + 1)).1 0) (sZ m 0 (m.1 0 + 1)).2.2.2.2) (mArrive E (sZ m 0 (m.1 0 + 1))) := AskB.steps _ h1
  have h3 := cntA_le ((sZ m 0 (m.1 0 + 1)).1 0) (sZ m 0 (m.1 0 + 1)).2.2.2.2
  have h4 : (sZ m 0 (m.1 0 + 1)).2.2.2.2.length = m.2.2.2.2.length := rfl
  have hw : ∀ q, AskB (k + m.2.2.2.2.length) (mWorkN q (mArrive E (sZ m 0 (m.1 0 + 1)))) := by
    intro q
    induction q with
    | zero => exact h2.mono (by omega)
    | succ q ih => exact AskB.same ih (workB_8 q _)
  show AskB _ (mWorks (mArrive E (sZ m 0 (m.1 0 + 1))))
  rw [mWorks_N]
  exact hw 6
theorem launch_H (q : List Nat) : ∀ (m : MS), (mLaunch E q m).2.2.1 = m.2.2.1 := by
  induction q with
  | nil => intro m; rfl
  | cons a q ih =>
    intro m
    show (mLaunch E q (mPost (mMint (sZ m 10 (m.1 10 + 1))) 0 6 (E.1 a) (coin m) (some a))).2.2.1 = _
    rw [ih]
    rfl
/-! what does not change in a trial -/
theorem KW.rf : KW m m := ⟨rfl, rfl⟩
theorem KW.sendL (h c : Nat) (hk : KW mo m) : KW mo (mSendL E h c m) := by
  obtain ⟨h1, h2⟩ := sendL_zw E h c m
  exact ⟨by rw [h1]; exact hk.1, by rw [h2]; exact hk.2⟩
theorem KW.send (h : Nat) (hk : KW mo m) : KW mo (mSend E h m) := by
  have h1 := KW.sendL (E := E) h (m.2.2.2.1 h).length hk
  show KW mo (mAsk h (mSendL E h (m.2.2.2.1 h).length m))
  generalize mSendL E h (m.2.2.2.1 h).length m = m1 at h1
  unfold mAsk
  split
  · exact h1
  · exact h1
theorem KW.arr (x : Mg) (hk : KW mo m) : KW mo (mArr E x m) := by
  unfold mArr
  split
  · refine ⟨?_, hk.2⟩
    show up1 m.1 8 (m.1 8 + x.1 3) 2 = _
    rw [up1_n (by decide)]
    exact hk.1
  · split
    · refine ⟨?_, hk.2⟩
      show up1 (up1 m.1 7 (m.1 7 + coin m)) 11 (m.1 11 + 1) 2 = _
      rw [up1_n (by decide), up1_n (by decide)]
      exact hk.1
    · split
      · exact KW.send _ hk
      · split
        · exact KW.send _ hk
        · exact KW.send _ hk
theorem KW.steps (c : Nat) : ∀ {m : MS}, KW mo m → KW mo (mSteps E c m) := by
  induction c with
  | zero => intro m h; exact h
  | succ c ih =>
    intro m h
    have h1 : KW mo (mStep E m) := by
      unfold mStep
      split
      · exact h
      · exact KW.arr (m := m) _ h
    exact ih h1
theorem KW.workB (h : Nat) (hk : KW mo m) : KW mo (mWorkB h m) := by
  unfold mWorkB
  split
  · exact hk
  · rw [mWork_fin]
    have fin : ∀ m, KW mo m → KW mo (mFin h m) := by
      intro m hm
      unfold mFin
      split
      · exact hm
      · split
        · exact hm
        · exact hm
    refine fin _ ?_
    split
    · exact hk
    · exact hk
theorem KW.tick (hk : KW mo m) : KW mo (mTick E m) := by
  have h1 : KW mo (sZ m 0 (m.1 0 + 1)) := by
    refine ⟨?_, hk.2⟩
    show up1 m.1 0 (m.1 0 + 1) 2 = _
    rw [up1_n (by decide)]
    exact hk.1
  have hw : ∀ q, KW mo (mWorkN q (mArrive E (sZ m 0 (m.1 0 + 1)))) := by
    intro q
    induction q with
    | zero => exact KW.steps _ h1
    | succ q ih => exact KW.workB q ih
  show KW mo (mWorks (mArrive E (sZ m 0 (m.1 0 + 1))))
  rw [mWorks_N]
  exact hw 6
theorem KW.launch (q : List Nat) : ∀ {m : MS}, KW mo m → KW mo (mLaunch E q m) := by
  induction q with
  | nil => intro m h; exact h
  | cons a q ih =>
    intro m h
    refine ih (m := mPost (mMint (sZ m 10 (m.1 10 + 1))) 0 6 (E.1 a) (coin m) (some a)) ⟨?_, h.2⟩
    show up1 (up1 (up1 m.1 10 (m.1 10 + 1)) 7 ((sZ m 10 (m.1 10 + 1)).1 7 + coin (sZ m 10 (m.1 10 + 1)))) 11 ((sZ m 10 (m.1 10 + 1)).1 11 + 1) 2 = _
    rw [up1_n (by decide), up1_n (by decide), up1_n (by decide)]
    exact h.1
/-- asks, summed -/
theorem RelG.asks {β : Nat → Nat} {qs ps : Nat → List Nat} {ml : RM} {bs : List Nat} {e0 o : Nat} {s : Nat → Int32} (hR : RelG E Gd β qs ps ml bs e0 o m s) {k : Nat} (hA : AskB k m) (hk : k ≤ 1000) : ∃ t, t < 2 ^ 31 ∧ smF s 6 6 = nI t ∧ (t = 0 ↔ mAsked m = false) := by
  have key : ∀ c, c ≤ 6 → ∃ t, t ≤ k * c ∧ smF s 6 c = nI t ∧ (t = 0 ↔ allH (fun h => decide (m.2.2.1 h 8 ≤ 0)) c = true) := by
    intro c
    induction c with
    | zero => intro _; exact ⟨0, Nat.le_refl _, rfl, by simp [allH]⟩
    | succ c ih =>
      intro hc
      obtain ⟨t, t1, t2, t3⟩ := ih (by omega)
      obtain ⟨a, a1, a2⟩ := hA c (by omega)
      have g : hF s c 6 = m.2.2.1 c 8 := (hR.2.2.1 c (by omega)).1 6 (by omega)
      refine ⟨t + a, by rw [Nat.mul_succ]; omega, ?_, ?_⟩
      · show smF s 6 c + hF s c 6 = _
        rw [t2, g, a2, nI_add]
      · show t + a = 0 ↔ (allH (fun h => decide (m.2.2.1 h 8 ≤ 0)) c && decide (m.2.2.1 c 8 ≤ 0)) = true
        rw [Bool.and_eq_true, ← t3, a2, decide_eq_true_iff, show (0 : Int32) = nI 0 from rfl, nI_leI (by omega) (by omega)]
        omega
  obtain ⟨t, t1, t2, t3⟩ := key 6 (Nat.le_refl _)
  refine ⟨t, by omega, t2, t3.trans ?_⟩
  unfold mAsked
  cases allH (fun h => decide (m.2.2.1 h 8 ≤ 0)) 6 <;> simp
theorem AskB.none {k : Nat} (hA : AskB k m) (hk : k ≤ 1000) (h : mAsked m = false) : AskB 0 m := by
  intro q hq
  obtain ⟨a, a1, a2⟩ := hA q hq
  have h0 : allH (fun h => decide (m.2.2.1 h 8 ≤ 0)) 6 = true := by
    unfold mAsked at h
    cases hh : allH (fun h => decide (m.2.2.1 h 8 ≤ 0)) 6 with
    | true => rfl
    | false => rw [hh] at h; cases h
  have h1 := of_decide_eq_true (allH_at h0 q hq)
  rw [a2] at h1
  have := (nI_leI (b := 0) (by omega) (by omega)).mp h1
  have : a = 0 := by omega
  subst this
  exact ⟨0, Nat.le_refl _, a2⟩
theorem AskB.no (h : AskB 0 m) : mAsked m = false := by
  unfold mAsked
  have : ∀ c, c ≤ 6 → allH (fun h => decide (m.2.2.1 h 8 ≤ 0)) c = true := by
    intro c
    induction c with
    | zero => intro _; rfl
    | succ c ih =>
      intro hc
      show (allH (fun h => decide (m.2.2.1 h 8 ≤ 0)) c && decide (m.2.2.1 c 8 ≤ 0)) = true
      obtain ⟨a, a1, a2⟩ := h c (by omega)
      have : a = 0 := by omega
      subst this
      rw [ih (by omega), a2]
      rfl
  rw [this 6 (Nat.le_refl _)]
  rfl
end ASK
