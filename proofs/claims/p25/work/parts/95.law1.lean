/-! THE LAW'S INVARIANT: all the states of both sides -/
def AllS (P : MS → Prop) (A : AP) : Prop := P A.1 ∧ (∀ m ∈ A.2.1, P m) ∧ P A.2.2.1
section ALLS
variable {P : MS → Prop} {A : AP}
theorem AllS.mono {P' : MS → Prop} (h : AllS P A) (hp : ∀ m, P m → P' m) : AllS P' A := ⟨hp _ h.1, fun m hm => hp m (h.2.1 m hm), hp _ h.2.2⟩
theorem AllS.rec (h : AllS P A) : AllS P (aRec A) := by
  obtain ⟨h1, h2, h3⟩ := h
  unfold aRec
  split
  · refine ⟨h1, fun m hm => ?_, h3⟩
    rcases List.mem_append.mp hm with e | e
    · exact h2 m e
    · rw [List.mem_singleton.mp e]; exact h1
  · refine ⟨h1, fun m hm => ?_, h3⟩
    rcases List.mem_append.mp hm with e | e
    · exact h2 m (List.mem_of_mem_tail e)
    · rw [List.mem_singleton.mp e]; exact h1
theorem AllS.aR (h : AllS P A) {m : MS} (hm : P m) : AllS P (aR A m) := ⟨hm, h.rec.2.1, h.rec.2.2⟩
theorem AllS.way (h : AllS P A) (hs : ∀ m k x, P m → P (sW m k x)) (a b : Nat) (x : Int32) : AllS P (aWay A a b x).2 := by
  unfold aWay
  split
  · exact h
  · exact h.aR (hs _ _ _ (hs _ _ _ h.1))
theorem AllS.time (h : AllS P A) (hs : ∀ m k x, P m → P (sW m k x)) (x y t : Int32) : AllS P (aTime A x y t).2 := by
  unfold aTime
  split
  · split
    · exact h.way hs _ _ _
    · exact h
  · exact h
theorem AllS.bank (h : AllS P A) (hs : ∀ m k x, P m → P (sW m k x)) (x t : Int32) : AllS P (aBank A x t).2 := by
  unfold aBank
  split
  · split
    · exact h.way hs _ _ _
    · exact h
  · exact h
theorem AllS.set (h : AllS P A) (hs : ∀ m k x, P m → P (sZ m k x)) (k x : Int32) : AllS P (aSet A k x).2 := by
  unfold aSet
  split
  · unfold aPow
    split
    · split
      · exact h
      · exact h.aR (hs _ _ _ h.1)
    · exact h
  · split
    · unfold aLea
      split
      · split
        · exact h
        · exact h.aR (hs _ _ _ h.1)
      · exact h
    · exact h
theorem AllS.type (h : AllS P A) (x : Int32) : AllS P (aType A x).2 := by
  unfold aType
  split
  · exact h
  · exact h
theorem AllS.keep (h : AllS P A) : AllS P (aKeep A).2 := ⟨h.1, h.2.1, h.1⟩
theorem AllS.rest (h : AllS P A) : AllS P (aRest A).2 := by
  unfold aRest
  split
  · exact h.aR h.2.2
  · exact h
theorem AllS.undo (h : AllS P A) : AllS P (aUndo A).2 := by
  unfold aUndo
  cases hq : A.2.1.getLast? with
  | none => exact h
  | some m => exact ⟨h.2.1 m (List.mem_of_getLast? hq), fun y hy => h.2.1 y (List.dropLast_subset _ hy), h.2.2⟩
end ALLS
section LAW1
variable {E : EE} {Gd : Nat → Prop} {A : AP} {K n : Nat}
theorem PI.sW {m : MS} (k : Nat) (x : Int32) (h : PI E K m) : PI E K (sW m k x) := h
theorem PI.sZ {m : MS} (k : Nat) (x : Int32) (h : PI E K m) : PI E K (sZ m k x) := h
theorem PI.mono {K' : Nat} {m : MS} (h : PI E K m) (hK : K ≤ K') : PI E K' m := ⟨h.1, Nat.le_trans h.2 hK⟩
theorem pass_of {T : Nat} {x : Int32} {b : Nat → Nat} (hI : Inv E Gd T T b A.1) (hT : T ≤ 1000000) (h1 : 1 ≤ x) (h2 : x ≤ 100) (h3 : A.1.1 0 + x ≤ 1000000) : ∃ c, x = nI c ∧ x.toNatClampNeg = c ∧ c ≤ 100 ∧ T + c ≤ 1000000 := by
  obtain ⟨c, hc, hx⟩ := nI_of (x := x) (fun q => absurd (Int32.lt_of_lt_of_le q (Int32.le_trans (by decide : (0 : Int32) ≤ 1) h1)) Int32.lt_irrefl)
  subst hx
  have hc100 : c ≤ 100 := (nI_leI (b := 100) hc (by omega)).mp h2
  rw [hI.1.1, nI_add] at h3
  exact ⟨c, rfl, nI_clamp hc, hc100, (nI_leI (b := 1000000) (by omega) (by omega)).mp h3⟩
theorem AInv.pass (h : AInv E Gd A) (hE : EOk E Gd) (x : Int32) : AInv E Gd (aPass E A x).2 := by
  obtain ⟨T, hT, hI⟩ := h.1
  unfold aPass
  split
  · rename_i q
    split
    · rename_i q2
      obtain ⟨c, rfl, e, c1, c2⟩ := pass_of hI hT q.1 q.2 q2
      rw [e]
      exact h.aR ⟨T + c, c2, (hI.ticks hE c (by omega)).2⟩
    · exact h
  · exact h
theorem pass_ok (h : AInv E Gd A) (hE : EOk E Gd) {x : Int32} : A.1.1 0 + x ≤ 1000000 → 1 ≤ x → x ≤ 100 → ∀ q, q < x.toNatClampNeg → TickOk E Gd (mTicks E q A.1) := by
  intro h3 h1 h2
  obtain ⟨T, hT, hI⟩ := h.1
  obtain ⟨c, rfl, e, c1, c2⟩ := pass_of hI hT h1 h2 h3
  rw [e]
  exact (hI.ticks hE c (by omega)).1
theorem PA.pass (hp : AllS (PI E K) A) (h : AInv E Gd A) (hE : EOk E Gd) (hW : EW E Gd) (hK : K ≤ 2 ^ 30) (x : Int32) : AllS (PI E K) (aPass E A x).2 := by
  obtain ⟨T, hT, hI⟩ := h.1
  unfold aPass
  split
  · rename_i q
    split
    · rename_i q2
      obtain ⟨c, rfl, e, c1, c2⟩ := pass_of hI hT q.1 q.2 q2
      rw [e]
      exact hp.aR (hI.ticksP hE hW hK c (by omega) hp.1)
    · exact hp
  · exact hp
theorem PA.good (hp : AllS (PI E K) A) (h : AInv E Gd A) (hE : EOk E Gd) : AllS (PI E K) (aGood E A).2 := by
  obtain ⟨T, hT, hI⟩ := h.1
  unfold aGood
  split
  · exact hp
  · have := pot_good hI hE hp.1.1
    exact hp.aR ⟨this.1, Nat.le_trans this.2 hp.1.2⟩
theorem PA.lose (hp : AllS (PI E K) A) (h : AInv E Gd A) (x : Int32) : AllS (PI E K) (aLose A x).2 := by
  obtain ⟨T, hT, hI⟩ := h.1
  unfold aLose
  split
  · exact hp
  · cases hq : A.1.2.2.2.2[x.toNatClampNeg]? with
    | none => exact hp
    | some y =>
      have := pot_drop (E := E) hp.1.1 hq (hI.2.2.2.1 y (List.mem_of_getElem? hq)).1
      exact hp.aR ⟨this.1, Nat.le_trans this.2 hp.1.2⟩
/-- what the contracts ask of the states -/
theorem AInv.q {G : GG} {i : IP} {r : RP} {m : MS} (h : SInv E Gd m) (hE : RepE G n E Gd i r) : okQ G n m := by
  obtain ⟨T, hT, hI⟩ := h
  exact fun q hq e he => (hE e (hI.2.2.1 q hq e he)).1
theorem AInv.run (h : AInv E Gd A) (hE : EOk E Gd) : ∀ q, q < 501 → TickOk E Gd (mTicks E q A.1) := by
  obtain ⟨T, hT, hI⟩ := h.1
  exact (hI.ticks hE 501 (by omega)).1
theorem AInv.cap (h : AInv E Gd A) (hE : EOk E Gd) : mAll E A.1 ≤ 80 ∧ ∀ c, mAll E A.1 + c ≤ 80 → A.1.2.2.2.2.length + c ≤ 141 := by
  obtain ⟨T, hT, hI⟩ := h.1
  refine ⟨hI.2.2.2.2.1, fun c hc => ?_⟩
  have := hI.cap hE (Nat.le_refl _)
  have e : mAll E A.1 = sumQ E A.1.2.2.2.1 6 + sumM E A.1.2.2.2.2 := rfl
  omega
theorem AInv.ms (h : AInv E Gd A) : (∀ y ∈ A.1.2.2.2.2, MgOk Gd y ∧ ∃ a, a < 2 ^ 30 ∧ y.1 4 = nI a) ∧ (∀ y ∈ A.1.2.2.2.2, ∀ b, y.2 = some b → Gd b) ∧ (∀ q, q < 6 → ∀ e ∈ A.1.2.2.2.1 q, Gd e) := by
  obtain ⟨T, hT, hI⟩ := h.1
  refine ⟨fun y hy => ?_, fun y hy b hb => ?_, hI.2.2.1⟩
  · obtain ⟨h1, a, a1, a2, a3⟩ := hI.2.2.2.1 y hy
    exact ⟨h1, a, by omega, a3⟩
  · obtain ⟨⟨f, t, -, -, -, -, hk⟩, -⟩ := hI.2.2.2.1 y hy
    rcases hk with ⟨-, -, a, k2, k3⟩ | ⟨-, -, k2⟩ | ⟨-, -, k2⟩ | ⟨-, -, k2⟩
    · rw [k2] at hb
      cases hb
      exact k3
    · rw [k2] at hb; cases hb
    · rw [k2] at hb; cases hb
    · rw [k2] at hb; cases hb
theorem mAll_new {E : EE} (m : MS) (x : Int32) : mAll E (mNew m x) = 0 := by
  unfold mAll
  rw [sumQ_s6]
  rfl
/-- leastCoin's trials -/
theorem AInv.least (h : AInv E Gd A) (hE : EOk E Gd) (hG : ∀ a, Gd a → a < n) (hl : A.2.2.2.2.2 ≤ 60) : aErr A = none → ∀ k, 2 ≤ k → k ≤ 16 → Inv (eExt n (aL A) E) (gExt n (aL A) Gd) 0 0 (fun _ => 0) (mLaunch (eExt n (aL A) E) (rootsOf n (aL A)) (mNew A.1 (nI k))) ∧ PI (eExt n (aL A) E) 1970538 (mLaunch (eExt n (aL A) E) (rootsOf n (aL A)) (mNew A.1 (nI k))) := by
  intro he k k1 k2
  obtain ⟨T, hT, hI⟩ := h.1
  obtain ⟨f1, f2, f3, f4, f5⟩ := read_fi hl he
  have hE' := hE.ext hG f1 f2 f3
  have e1 : (2 : Int32) ≤ nI k := (nI_leI (a := 2) (by omega) (by omega)).mpr k1
  have e2 : nI k ≤ (16 : Int32) := (nI_leI (b := 16) (by omega) (by omega)).mpr k2
  have hN : Inv (eExt n (aL A) E) (gExt n (aL A) Gd) 0 0 (fun _ => 0) (mNew A.1 (nI k)) := (hI.mNew e1 e2).mono (fun a ha => Or.inl ha) (fun a ha => (ext_old (hG a ha)).2.2.1)
  have hr := roots_gd (n0 := n) (Gd := Gd) f1
  have hs := roots_sum (n0 := n) (E := E) f1
  refine ⟨Inv.launch hE' (Nat.le_refl _) _ hN hr (by rw [mAll_new, hs]; omega), ?_⟩
  have hP := PI_fresh (E := eExt n (aL A) E) (m := A.1) (nI k)
  have := pot_launch hE' (rootsOf n (aL A)) _ hP.1 e1 e2 hr
  rw [hs] at this
  exact ⟨this.1, by have := this.2; have := hP.2; omega⟩
theorem AInv.trial (h : AInv E Gd A) (hE : EOk E Gd) (hG : ∀ a, Gd a → a < n) (hl : A.2.2.2.2.2 ≤ 60) : aErr A = none → ∀ k, 2 ≤ k → k ≤ 16 → ∀ q, q < 500 → TickOk (eExt n (aL A) E) (gExt n (aL A) Gd) (mTicks (eExt n (aL A) E) q (mLaunch (eExt n (aL A) E) (rootsOf n (aL A)) (mNew A.1 (nI k)))) := by
  intro he k k1 k2
  obtain ⟨f1, f2, f3, f4, f5⟩ := read_fi hl he
  exact ((h.least hE hG hl he k k1 k2).1.ticks (hE.ext hG f1 f2 f3) 500 (by omega)).1
/-- launching: all that the invariant holds, over the errands that there are then -/
theorem AInv.launch (h : AInv E Gd A) (hp : AllS (PI E K) A) (hE : EOk E Gd) (hW : EW E Gd) (hG : ∀ a, Gd a → a < n) (hl : A.2.2.2.2.2 ≤ 60) : EW (aLaunch E Gd n A).2.2.1 (aLaunch E Gd n A).2.2.2 ∧ AInv (aLaunch E Gd n A).2.2.1 (aLaunch E Gd n A).2.2.2 (aLaunch E Gd n A).2.1 ∧ AllS (PI (aLaunch E Gd n A).2.2.1 (K + 1969350)) (aLaunch E Gd n A).2.1 ∧ ∀ a, (aLaunch E Gd n A).2.2.2 a → Gd a ∨ n ≤ a := by
  have hp' : AllS (PI E (K + 1969350)) A := hp.mono (fun m hm => hm.mono (by omega))
  unfold aLaunch
  cases he : aErr A with
  | some p => exact ⟨hW, h, hp', fun a ha => Or.inl ha⟩
  | none =>
    unfold aLaunchO
    dsimp only
    by_cases hc : mAll E A.1 + (aL A).length ≤ 80
    · rw [if_pos hc]
      obtain ⟨f1, f2, f3, f4, f5⟩ := read_fi hl he
      have hE' := hE.ext hG f1 f2 f3
      have hold : ∀ a, Gd a → (eExt n (aL A) E).2.2.1 a = E.2.2.1 a := fun a ha => (ext_old (hG a ha)).2.2.1
      have hmo : ∀ m, SInv E Gd m → SInv (eExt n (aL A) E) (gExt n (aL A) Gd) m := fun m ⟨T, hT, hI⟩ => ⟨T, hT, hI.mono (fun a ha => Or.inl ha) hold⟩
      have h' : AInv (eExt n (aL A) E) (gExt n (aL A) Gd) A := AllS.mono (P := SInv E Gd) h hmo
      have hpo : ∀ m, SInv E Gd m → PI E K m → PI (eExt n (aL A) E) K m := fun m ⟨T, hT, hI⟩ hm => ⟨hm.1, by rw [hI.potExt hold]; exact hm.2⟩
      have hp2 : AllS (PI (eExt n (aL A) E) K) A := ⟨hpo _ h.1 hp.1, fun m hm => hpo m (h.2.1 m hm) (hp.2.1 m hm), hpo _ h.2.2 hp.2.2⟩
      obtain ⟨T, hT, hI⟩ := h.1
      obtain ⟨T', hT', hI'⟩ := h'.1
      have hr := roots_gd (n0 := n) (Gd := Gd) f1
      have hs := roots_sum (n0 := n) (E := E) f1
      have ha := hI.sameAll hold
      refine ⟨hW.ext hG f3, h'.aR ⟨T', hT', Inv.launch hE' (Nat.le_refl _) _ hI' hr (by rw [ha, hs]; exact hc)⟩, AllS.aR (hp2.mono (fun m hm => hm.mono (by omega))) ?_, fun a ha => ?_⟩
      · have := pot_launch hE' (rootsOf n (aL A)) _ hp2.1.1 hI.1.2.2.1 hI.1.2.2.2.1 hr
        rw [hs] at this
        exact ⟨this.1, by have := this.2; have := hp2.1.2; omega⟩
      · rcases ha with q | q
        · exact Or.inl q
        · exact Or.inr q.1
    · rw [if_neg hc]
      exact ⟨hW, h, hp', fun a ha => Or.inl ha⟩
end LAW1
