/-! both sides in one heap: the class's cells at C, the reference's at C + 1105, errands from C + 1113 on -/
theorem RepC.same {C : Nat} {A : AP} {i i' : IP} {r r' : RP} (h : RepC C A i r) (hs : ∀ a, C ≤ a → a < C + 1105 → i' a = i a ∧ r' a = r a) : RepC C A i' r' := by
  obtain ⟨a1, a2, a3, a4, ⟨q, a5⟩, p, b1, b2, b3⟩ := h
  have fr : ∀ S m, C < S → S + 157 ≤ C + 1105 → Rep S m i r → Rep S m i' r' := fun S m c1 c2 hR => hR.frame (fun a d1 d2 => hs a (by omega) (by omega))
  have eI : i' C = i C := (hs C (by omega) (by omega)).1
  have eR : r' C = r C := (hs C (by omega) (by omega)).2
  have eI3 : i' (C + 473) = i (C + 473) := (hs _ (by omega) (by omega)).1
  have eR4 : r' (C + 474) = r (C + 474) := (hs _ (by omega) (by omega)).2
  have eR2 : r' (C + 472) = r (C + 472) := (hs _ (by omega) (by omega)).2
  have hl := a2.2.2.2.2.1
  refine ⟨?_, ?_, fr _ _ (by omega) (by omega) a3, fr _ _ (by omega) (by omega) a4, ⟨q, fr _ _ (by omega) (by omega) a5⟩, p, fun j hj => ⟨(b1 j hj).1, ?_, ?_⟩, b2, fun j m hm => ?_⟩
  · unfold CeF
    rw [eR, eR4]
    exact a1
  · unfold CeI
    rw [eI, eI3]
    exact a2
  · rw [eR2]; exact (b1 j hj).2.1
  · obtain ⟨m, hm⟩ := (b1 j hj).2.2
    have := (b1 j hj).1
    exact ⟨m, fr _ _ (by omega) (by omega) hm⟩
  · have hj : j < 4 := by
      have := (List.getElem?_eq_some_iff.mp hm).1
      omega
    have := (b1 j hj).1
    exact fr _ _ (by omega) (by omega) (b3 j m hm)
theorem RefR.same {E : EE} {Gd : Nat → Prop} {O M : Nat} {A : AP} {i i' : IP} (hR : RefR E Gd O A M i) (hs : ∀ a, M ≤ a → a < M + 8 → i' a = i a) : RefR E Gd O A M i' := by
  obtain ⟨h1, ⟨h2, h3, h4⟩, h5, h6, h7, h8, h9⟩ := hR
  have e0 := hs M (by omega) (by omega)
  exact ⟨by rw [hs _ (by omega) (by omega)]; exact h1, ⟨by rw [e0]; exact h2, h3, fun j m hm => by rw [hs (M + 2) (by omega) (by omega)]; exact h4 j m hm⟩, by rw [e0]; exact h5, fun hk => by rw [hs (M + 3) (by omega) (by omega)]; exact h6 hk, by rw [e0]; exact h7, h8, fun k hk => by rw [hs (M + 5) (by omega) (by omega)]; exact h9 k hk⟩
theorem MoY.same {G : GG} {n n' M : Nat} {r r' : RP} (h : MoY G n M r) (hn : n ≤ n') (hr : r' M = r M) : MoY G n' M r' := by
  obtain ⟨⟨hM, hr0, hs⟩, hh, hA2, hA3, hA4, hA5, hA6, hA7⟩ := h
  refine ⟨⟨hM.mono hn, by rw [hr]; exact hr0, hs.mono hn⟩, by rw [hr]; exact hh, hA2.mono hn, hA3.mono hn, hA4.mono hn, hA5.mono hn, hA6.mono hn, hA7.mono hn⟩
theorem OutC.n {C n : Nat} {i i' : IP} {r r' : RP} (h : OutC C i r i' r') : OutN C n i r i' r' := fun a ha => h a (by omega)
def LyG (G : GG) (C n : Nat) : Prop := CeL G n C ∧ C + 1113 ≤ n ∧ (∀ a, C + 1113 ≤ a → (G.2.1 a).1 = 0) ∧ G.1 ≤ n
theorem LyG.mono {G : GG} {C n n' : Nat} (h : LyG G C n) (hn : n ≤ n') : LyG G C n' := ⟨h.1.mono hn, Nat.le_trans h.2.1 hn, h.2.2.1, Nat.le_trans h.2.2.2 hn⟩
def LwS (G : GG) (C K O : Nat) (E : EE) (Gd : Nat → Prop) (A : AP) (n : Nat) (i : IP) (r : RP) : Prop :=
  LyG G C n ∧ (RepC C A i r ∧ RepE G n E Gd i r ∧ ∀ a, Gd a → C + 1113 ≤ a) ∧ (MoY G n (C + 1105) r ∧ RefR E Gd O A (C + 1105) i) ∧ EW E Gd ∧ AInv E Gd A ∧ AllS (PI E K) A
section LSS
variable {G : GG} {C K O n n1 : Nat} {E : EE} {Gd : Nat → Prop} {A A' : AP} {i i1 i2 : IP} {r r1 : RP}
theorem LwS.more (h : LwS G C K O E Gd A n i r) {K' O' : Nat} (hK : K ≤ K') (hO : O ≤ O') : LwS G C K' O' E Gd A n i r := ⟨h.1, h.2.1, ⟨h.2.2.1.1, h.2.2.1.2.mono hO⟩, h.2.2.2.1, h.2.2.2.2.1, h.2.2.2.2.2.mono (fun m hm => hm.mono hK)⟩
theorem LwS.midN (h : LwS G C K O E Gd A n i r) (hn : n ≤ n1) (ho : OutN C n i r i1 r1) : MoY G n1 (C + 1105) r1 ∧ RefR E Gd O A (C + 1105) i1 := by
  obtain ⟨⟨h1, h2, h3, h4⟩, -, ⟨h5, h6⟩, -⟩ := h
  exact ⟨h5.same hn (ho _ (by omega)).2, h6.same (fun a ha hb => (ho a (by omega)).1)⟩
theorem LwS.mid (h : LwS G C K O E Gd A n i r) (ho : OutC C i r i1 r1) : MoY G n (C + 1105) r1 ∧ RefR E Gd O A (C + 1105) i1 := h.midN (Nat.le_refl _) ho.n
theorem LwS.finN {E' : EE} {Gd' : Nat → Prop} {K' O' : Nat} (h : LwS G C K O E Gd A n i r) (hn : n ≤ n1) (hC : RepC C A' i1 r1) (hE : RepE G n1 E' Gd' i1 r1) (ho : OutN C n i r i1 r1) (ho2 : OutM (C + 1105) i1 i2) (hR2 : RefR E' Gd' O' A' (C + 1105) i2) (hW : EW E' Gd') (hA : AInv E' Gd' A') (hP : AllS (PI E' K') A') (hg : ∀ a, Gd' a → Gd a ∨ n ≤ a) : LwS G C K' O' E' Gd' A' n1 i2 r1 := by
  have hY := (h.midN hn ho).1
  obtain ⟨h0, ⟨h1, h2, h3⟩, -⟩ := h
  have hg' : ∀ a, Gd' a → C + 1113 ≤ a := fun a ha => by
    rcases hg a ha with q | q
    · exact h3 a q
    · have := h0.2.1
      omega
  exact ⟨h0.mono hn, ⟨hC.same (fun a ha hb => ⟨ho2 a (by omega), rfl⟩), hE.same (fun a ha => ⟨ho2 a (by have := hg' a ha; omega), rfl⟩), hg'⟩, ⟨hY, hR2⟩, hW, hA, hP⟩
theorem LwS.fin {O' : Nat} (h : LwS G C K O E Gd A n i r) (hC : RepC C A' i1 r1) (ho : OutC C i r i1 r1) (ho2 : OutM (C + 1105) i1 i2) (hR2 : RefR E Gd O' A' (C + 1105) i2) (hA : AInv E Gd A') (hP : AllS (PI E K) A') : LwS G C K O' E Gd A' n i2 r1 := h.finN (Nat.le_refl _) hC (h.2.1.2.1.outC (fun a ha => by have := h.2.1.2.2 a ha; omega) ho) ho.n ho2 hR2 h.2.2.2.1 hA hP (fun a ha => Or.inl ha)
theorem LwS.gn (h : LwS G C K O E Gd A n i r) : (∀ a, Gd a → a < n) ∧ (∀ a, Gd a → C + 1105 ≤ a) ∧ A.2.2.2.2.2 ≤ 60 ∧ EOk E Gd := ⟨fun a ha => (h.2.1.2.1 a ha).1.2.1, fun a ha => by have := h.2.1.2.2 a ha; omega, h.2.1.1.2.1.2.2.2.2.2, h.2.1.2.1.ok⟩
end LSS
