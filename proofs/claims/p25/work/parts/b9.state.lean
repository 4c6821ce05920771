/-! P25: the law's state; what each act keeps -/
def WS (m : MS) : Prop := (∀ a, a < 6 → m.2.1 (a * 7 + a) = 1) ∧ ∀ a b, a < 7 → b < 7 → m.2.1 (a * 7 + b) = m.2.1 (b * 7 + a)
theorem WS.of {m m' : MS} (h : WS m) (e : m'.2.1 = m.2.1) : WS m' := by unfold WS; rw [e]; exact h
theorem WS.m0 : WS m0 := by
  constructor
  · intro a ha
    show fW ((a * 7 + a) / 7) ((a * 7 + a) % 7) = 1
    rw [show (a * 7 + a) / 7 = a by omega, show (a * 7 + a) % 7 = a by omega]
    exact if_pos rfl
  · intro a b ha hb
    show fW ((a * 7 + b) / 7) ((a * 7 + b) % 7) = fW ((b * 7 + a) / 7) ((b * 7 + a) % 7)
    rw [show (a * 7 + b) / 7 = a by omega, show (a * 7 + b) % 7 = b by omega, show (b * 7 + a) / 7 = b by omega, show (b * 7 + a) % 7 = a by omega]
    unfold fW
    by_cases c : a = b
    · rw [if_pos c, if_pos c.symm]
    · rw [if_neg c, if_neg (show ¬ b = a from fun q => c q.symm)]
      by_cases c2 : a = 6 ∨ b = 6
      · rw [if_pos c2, if_pos c2.symm]
      · rw [if_neg c2, if_neg (show ¬ (b = 6 ∨ a = 6) from fun q => c2 q.symm)]
theorem WS.put {m : MS} {x : Int32} {a b : Nat} (h : WS m) (ha : a < 7) (hb : b < 7) (hab : a ≠ b) : WS (sW (sW m (a * 7 + b) x) (b * 7 + a) x) ∧ (sW (sW m (a * 7 + b) x) (b * 7 + a) x).2.1 (a * 7 + b) = x ∧ (sW (sW m (a * 7 + b) x) (b * 7 + a) x).2.1 (b * 7 + a) = x := by
  have hne : a * 7 + b ≠ b * 7 + a := by omega
  have v1 : (sW (sW m (a * 7 + b) x) (b * 7 + a) x).2.1 (a * 7 + b) = x := by
    show up1 (up1 m.2.1 (a * 7 + b) x) (b * 7 + a) x (a * 7 + b) = x
    rw [up1_n hne, up1_s]
  have v2 : (sW (sW m (a * 7 + b) x) (b * 7 + a) x).2.1 (b * 7 + a) = x := up1_s
  have v0 : ∀ k, k ≠ a * 7 + b → k ≠ b * 7 + a → (sW (sW m (a * 7 + b) x) (b * 7 + a) x).2.1 k = m.2.1 k := fun k k1 k2 => by
    show up1 (up1 m.2.1 (a * 7 + b) x) (b * 7 + a) x k = _
    rw [up1_n k2, up1_n k1]
  refine ⟨⟨fun c hc => ?_, fun c d hc hd => ?_⟩, v1, v2⟩
  · rw [v0 _ (by omega) (by omega)]
    exact h.1 c hc
  · by_cases e1 : c = a ∧ d = b
    · rw [e1.1, e1.2, v1, v2]
    · by_cases e2 : c = b ∧ d = a
      · rw [e2.1, e2.2, v1, v2]
      · rw [v0 (c * 7 + d) (by omega) (by omega), v0 (d * 7 + c) (by omega) (by omega)]
        exact h.2 c d hc hd
section PKEEP
variable {E : EE} {Gd : Nat → Prop} {m : MS}
theorem send_zw (E : EE) (h : Nat) (m : MS) : (mSend E h m).1 = m.1 ∧ (mSend E h m).2.1 = m.2.1 := by
  have e : (mSend E h m).1 = (mSendL E h (m.2.2.2.1 h).length m).1 ∧ (mSend E h m).2.1 = (mSendL E h (m.2.2.2.1 h).length m).2.1 := by
    show (mAsk h (mSendL E h (m.2.2.2.1 h).length m)).1 = _ ∧ (mAsk h (mSendL E h (m.2.2.2.1 h).length m)).2.1 = _
    unfold mAsk
    split <;> exact ⟨rfl, rfl⟩
  exact ⟨e.1.trans (sendL_zw E h _ m).1, e.2.trans (sendL_zw E h _ m).2⟩
theorem arr_w (x : Mg) : (mArr E x m).2.1 = m.2.1 := by
  unfold mArr
  split
  · rfl
  · split
    · rfl
    · split
      · exact (send_zw E _ _).2
      · split
        · exact (send_zw E _ _).2
        · exact (send_zw E _ _).2
theorem steps_w (c : Nat) : ∀ m : MS, (mSteps E c m).2.1 = m.2.1 := by
  induction c with
  | zero => intro m; rfl
  | succ c ih =>
    intro m
    refine (ih (mStep E m)).trans ?_
    unfold mStep
    split
    · rfl
    · exact arr_w _
theorem workB_w (h : Nat) (m : MS) : (mWorkB h m).2.1 = m.2.1 := by
  have go : ∀ m : MS, (if 0 < m.2.2.1 h 2 ∨ 0 < m.2.2.1 h 3 ∨ ¬ m.2.2.1 h 4 = 0 then m else if 0 < (sH (sH m h 0 0) h 9 (m.2.2.1 h 9 + 1)).2.2.1 h 1 then sH (mPost (sH (sH m h 0 0) h 9 (m.2.2.1 h 9 + 1)) 3 h 6 ((sH (sH m h 0 0) h 9 (m.2.2.1 h 9 + 1)).2.2.1 h 1) none) h 1 0 else sH (sH m h 0 0) h 9 (m.2.2.1 h 9 + 1)).2.1 = m.2.1 := by
    intro m
    split
    · rfl
    · split <;> rfl
  unfold mWorkB
  split
  · rfl
  · unfold mWork
    dsimp only
    split
    · exact go _
    · exact go _
theorem tick_w : (mTick E m).2.1 = m.2.1 := by
  have e : mTick E m = mWorks (mArrive E (sZ m 0 (m.1 0 + 1))) := rfl
  have key : ∀ q (m : MS), (mWorkN q m).2.1 = m.2.1 := by
    intro q
    induction q with
    | zero => intro m; rfl
    | succ q ih => intro m; exact (workB_w q _).trans (ih m)
  rw [e, mWorks_N, key]
  unfold mArrive
  rw [steps_w]
  rfl
theorem ticks_w (c : Nat) : ∀ m : MS, (mTicks E c m).2.1 = m.2.1 := by
  induction c with
  | zero => intro m; rfl
  | succ c ih => intro m; exact (ih (mTick E m)).trans tick_w
theorem drop_w {k : Nat} {x : Mg} : (mDrop k x m).2.1 = m.2.1 := by
  unfold mDrop
  dsimp only
  split <;> split <;> rfl
theorem drop_z {k : Nat} {x : Mg} : (mDrop k x m).1 0 = m.1 0 ∧ (mDrop k x m).1 9 = m.1 9 + x.1 3 := by
  unfold mDrop
  dsimp only
  split <;> split <;> exact ⟨rfl, rfl⟩
theorem good_zw : (mGood E m).1 = (mGood0 m).1 ∧ (mGood E m).2.1 = m.2.1 := by
  have one : ∀ h (m : MS), (mGoodH E h m).1 = m.1 ∧ (mGoodH E h m).2.1 = m.2.1 := by
    intro h m
    unfold mGoodH
    split
    · exact ⟨rfl, rfl⟩
    · exact send_zw E h _
  have key : ∀ q, (mGoodN E q (mGood0 m)).1 = (mGood0 m).1 ∧ (mGoodN E q (mGood0 m)).2.1 = m.2.1 := by
    intro q
    induction q with
    | zero => exact ⟨rfl, rfl⟩
    | succ q ih => exact ⟨(one q _).1.trans ih.1, (one q _).2.trans ih.2⟩
  rw [mGood_N]
  exact key 6
theorem launch_w (q : List Nat) : ∀ m : MS, (mLaunch E q m).2.1 = m.2.1 ∧ (mLaunch E q m).1 0 = m.1 0 := by
  induction q with
  | nil => intro m; exact ⟨rfl, rfl⟩
  | cons a q ih =>
    intro m
    obtain ⟨i1, i2⟩ := ih (mPost (mMint (sZ m 10 (m.1 10 + 1))) 0 6 (E.1 a) (coin m) (some a))
    exact ⟨i1, i2⟩
end PKEEP
/-- the law's state: T the time, B the bound of all grains, c0, c1, c3 its own row -/
def LawS (G : GG) (n C : Nat) (E : EE) (Gd : Nat → Prop) (K T B : Nat) (c0 c1 c3 : Int32) (A : AP) (i : IP) (r : RP) : Prop :=
  DS G n C E Gd K A i r ∧ A.1.1 0 = nI T ∧ CI 0 c0 c1 c3 B 0 (fun _ => 0) (fun _ => True) (fun _ => c3 = 0) A.1 ∧ WS A.1 ∧ (i (C + 1105) 0 = c0 ∧ i (C + 1105) 1 = c1 ∧ i (C + 1105) 3 = c3) ∧ (OkA G n (C + 1105) 7 4 ∧ C + 1106 ≤ n ∧ (∀ a, C + 1106 ≤ a → (G.2.1 a).1 = 0) ∧ G.1 ≤ n ∧ ∀ a, Gd a → C + 1106 ≤ a)
def ActQ (G : GG) (n C K T B : Nat) : QP := fun v n' i' r' => v = some (.int 1) ∧ n ≤ n' ∧ n' ≤ n + 120 ∧ ∃ E' Gd' K' T' B' c0' c1' c3' A', LawS G n' C E' Gd' K' T' B' c0' c1' c3' A' i' r' ∧ K' ≤ K + 1969350 ∧ T' ≤ T + 100 ∧ B' ≤ B + tB * 100 + 327680
section PFIN
variable {l : Launch} {G : GG} {n n1 : Nat} {i i1 i2 : IP} {r r1 : RP} {C K T B : Nat} {E : EE} {Gd : Nat → Prop} {A A1 : AP} {c0 c1 c3 : Int32}
/-- an act that leaves the row as it is -/
theorem act_fin {T1 B1 : Nat} (hS : LawS G n C E Gd K T B c0 c1 c3 A i r) (ho : OutC C i r i1 r1) (hC1 : RepC C A1 i1 r1) (hA1 : AInv E Gd A1) (hP1 : AllS (PI E K) A1) (hT1 : A1.1.1 0 = nI T1) (hI1 : CI 0 c0 c1 c3 B1 0 (fun _ => 0) (fun _ => True) (fun _ => c3 = 0) A1.1) (hW1 : WS A1.1) (hTT : T1 ≤ T + 100) (hBB : B1 ≤ B + tB * 100 + 327680) : ActQ G n C K T B (some (.int 1)) n i1 r1 := by
  obtain ⟨hD, -, -, -, ⟨q0, q1, q3⟩, hlay⟩ := hS
  have hcc := (ho (C + 1105) (by omega)).1
  exact ⟨rfl, Nat.le_refl _, by omega, E, Gd, K, T1, B1, c0, c1, c3, A1, ⟨hD.next hC1 ho hA1 hP1, hT1, hI1, hW1, ⟨by rw [hcc]; exact q0, by rw [hcc]; exact q1, by rw [hcc]; exact q3⟩, hlay⟩, by omega, hTT, hBB⟩
/-- an act that writes its row -/
theorem act_finC {T1 B1 : Nat} {d0 d1 d3 : Int32} (hS : LawS G n C E Gd K T B c0 c1 c3 A i r) (ho : OutC C i r i1 r1) (hC1 : RepC C A1 i1 r1) (hA1 : AInv E Gd A1) (hP1 : AllS (PI E K) A1) (hT1 : A1.1.1 0 = nI T1) (hI1 : CI 0 d0 d1 d3 B1 0 (fun _ => 0) (fun _ => True) (fun _ => d3 = 0) A1.1) (hW1 : WS A1.1) (hi2 : ∀ a, a ≠ C + 1105 → i2 a = i1 a) (q0 : i2 (C + 1105) 0 = d0) (q1 : i2 (C + 1105) 1 = d1) (q3 : i2 (C + 1105) 3 = d3) (hTT : T1 ≤ T + 100) (hBB : B1 ≤ B + tB * 100 + 327680) : ActQ G n C K T B (some (.int 1)) n i2 r1 := by
  obtain ⟨hD, -, -, -, -, hlay⟩ := hS
  obtain ⟨e1, e2, e3, e4, e5, e6, e7⟩ := hD.next hC1 ho hA1 hP1
  refine ⟨rfl, Nat.le_refl _, by omega, E, Gd, K, T1, B1, d0, d1, d3, A1, ⟨⟨e1, e2.same (fun a a1 a2 => ⟨hi2 a (by omega), rfl⟩), e3.same (fun a ha => ⟨hi2 a (by have := hlay.2.2.2.2 a ha; omega), rfl⟩), e4, e5, e6, e7⟩, hT1, hI1, hW1, ⟨q0, q1, q3⟩, hlay⟩, by omega, hTT, hBB⟩
theorem tm_v {a b : Nat} (ha : a < 6) (hb : b < 6) : aTm A (nI a) (nI b) = A.1.2.1 (a * 7 + b) := by
  unfold aTm
  rw [if_pos ⟨isH_nI ha, isH_nI hb⟩, nI_clamp (by omega), nI_clamp (by omega)]
theorem bt_v {a : Nat} (ha : a < 6) : aBt A (nI a) = A.1.2.1 (a * 7 + 6) := by
  unfold aBt
  rw [if_pos (isH_nI ha), nI_clamp (by omega)]
theorem isW_nI {t : Nat} (h1 : 1 ≤ t) (h9 : t ≤ 9) : isW (nI t) = true := by
  unfold isW
  rw [decide_eq_true (show (1 : Int32) ≤ nI t from (nI_leI (a := 1) (by omega) (by omega)).mpr h1), decide_eq_true (show nI t ≤ 9 from (nI_leI (b := 9) (by omega) (by omega)).mpr h9)]
  rfl
theorem way_ok {x : Int32} {a b : Nat} (hW : WS A.1) (ha : a < 7) (hb : b < 7) (hab : a ≠ b) : (aWay A a b x).1 = (if A.1.2.1 (a * 7 + b) = x then -5 else A.1.2.1 (a * 7 + b)) ∧ (aWay A a b x).2.1.2.1 (a * 7 + b) = x ∧ (aWay A a b x).2.1.2.1 (b * 7 + a) = x ∧ WS (aWay A a b x).2.1 ∧ (aWay A a b x).2.1.1 = A.1.1 ∧ (aWay A a b x).2.1.2.2 = A.1.2.2 := by
  unfold aWay
  by_cases c : A.1.2.1 (a * 7 + b) = x
  · rw [if_pos c, if_pos c]
    exact ⟨rfl, c, (hW.2 b a hb ha).trans c, hW, rfl, rfl⟩
  · rw [if_neg c, if_neg c]
    obtain ⟨w1, w2, w3⟩ := hW.put (x := x) ha hb hab
    exact ⟨rfl, w2, w3, w1, rfl, rfl⟩
theorem CI.ways {d1 d2 d3 z : Int32} {B t : Nat} {e : Nat → Nat} {W u : Nat → Prop} {m m' : MS} (h : CI d1 d2 d3 z B t e W u m) (h1 : m'.1 = m.1) (h2 : m'.2.2 = m.2.2) : CI d1 d2 d3 z B t e W u m' := by
  obtain ⟨a, b, c⟩ := m
  obtain ⟨a', b', c'⟩ := m'
  have h1 : a' = a := h1
  have h2 : c' = c := h2
  subst h1
  subst h2
  exact h
end PFIN
