/-! ERRANDS READ: what a reading adds to the errands there are -/
def nodeAt (L : List RN) (q : Nat) : RN := match L[q]? with
  | some y => y
  | none => (0, 0, 0)
def eExt (n0 : Nat) (L : List RN) (E : EE) : EE := (fun a => if n0 ≤ a then (nodeAt L (a - n0)).1 else E.1 a, fun a => if n0 ≤ a then nI (nodeAt L (a - n0)).2.1 else E.2.1 a, fun a => if n0 ≤ a then (fbL L).2.2.1 (a - n0) else E.2.2.1 a, fun a => if n0 ≤ a then ((fbL L).2.1 (a - n0)).map (fun k => n0 + k) else E.2.2.2 a)
def gExt (n0 : Nat) (L : List RN) (Gd : Nat → Prop) : Nat → Prop := fun a => Gd a ∨ (n0 ≤ a ∧ a < n0 + L.length)
def rootsOf (n0 : Nat) (L : List RN) : List Nat := (fbL L).1.map (fun k => n0 + k)
theorem len_le_sum {l : List Nat} {g : Nat → Nat} (h : ∀ k, k ∈ l → 1 ≤ g k) : l.length ≤ (l.map g).sum := by
  induction l with
  | nil => exact Nat.le_refl _
  | cons a t ih =>
    have h1 := h a List.mem_cons_self
    have h2 := ih (fun k hk => h k (List.mem_cons_of_mem _ hk))
    rw [List.map_cons, List.sum_cons, List.length_cons]
    omega
theorem RepE.mono {G : GG} {n n' : Nat} {E : EE} {Gd : Nat → Prop} {i : IP} {r : RP} (h : RepE G n E Gd i r) (hn : n ≤ n') : RepE G n' E Gd i r := fun a ha => by
  obtain ⟨b1, b2⟩ := h a ha
  exact ⟨⟨b1.1, Nat.lt_of_lt_of_le b1.2.1 hn, b1.2.2⟩, b2⟩
theorem RepE.outR {G : GG} {n0 n Rd : Nat} {E : EE} {Gd : Nat → Prop} {i i' : IP} {r r' : RP} (h : RepE G n0 E Gd i r) (hL : RdL G n Rd r') (ho : OutR n0 Rd i r i' r') : RepE G n0 E Gd i' r' := h.same (fun a ha => by
  have hok := (h a ha).1
  have t0 := hok.2.2
  refine ho a hok.2.1 (fun e => ?_) (fun e => ?_) (fun e => ?_)
  · have := hL.1.2.2; rw [← e, t0] at this; exact absurd this (by decide)
  · have := hL.2.1.2.2; rw [← e] at this; rw [this] at t0; exact absurd t0 (by decide)
  · have := hL.2.2.1.2.2; rw [← e] at this; rw [this] at t0; exact absurd t0 (by decide))
theorem RepE.ext {G : GG} {n0 n Rd len : Nat} {s : RS} {E : EE} {Gd : Nat → Prop} {i i' : IP} {r r' : RP} (h : RepE G n0 E Gd i r) (ho : OutR n0 Rd i r i' r') (hR : RdRep G n0 Rd s n i' r') (hI : RInv s len) (hc : s.1.length ≤ 15) : RepE G n (eExt n0 s.1 E) (gExt n0 s.1 Gd) i' r' := by
  have h' := h.outR hR.2.1 ho
  obtain ⟨L, d, due⟩ := s
  have hc : L.length ≤ 15 := hc
  obtain ⟨hF, hB, -⟩ := hI
  have hF : FI (fbL L) L.length (mL L) := hF
  have hB : ∀ y ∈ L, y.1 < 6 ∧ y.2.1 ≤ 20 ∧ y.2.2 < L.length := hB
  have hn : n = n0 + L.length := hR.1
  intro a ha
  rcases ha with ha | ⟨ha1, ha2⟩
  · obtain ⟨b1, b2, b3, b4, b5, b6, b7, b8, b9, b10, b11⟩ := h' a ha
    have hlt : ¬ n0 ≤ a := by have := b1.2.1; omega
    have e1 : (eExt n0 L E).1 a = E.1 a := if_neg hlt
    have e2 : (eExt n0 L E).2.1 a = E.2.1 a := if_neg hlt
    have e3 : (eExt n0 L E).2.2.1 a = E.2.2.1 a := if_neg hlt
    have e4 : (eExt n0 L E).2.2.2 a = E.2.2.2 a := if_neg hlt
    have e5 : (E.2.2.2 a).map (eExt n0 L E).2.2.1 = (E.2.2.2 a).map E.2.2.1 := List.map_congr_left (fun b hb => by
      have := (h' b (b8 b hb).1).1.2.1
      exact if_neg (by omega))
    show Ok G n a 0 ∧ (eExt n0 L E).1 a < 6 ∧ i' a 0 = nI ((eExt n0 L E).1 a) ∧ i' a 1 = (eExt n0 L E).2.1 a ∧ i' a 2 = nI ((eExt n0 L E).2.2.2 a).length ∧ i' a 3 = nI ((eExt n0 L E).2.2.1 a) ∧ Kid r' (r' a 4) ((eExt n0 L E).2.2.2 a) ∧ (∀ b ∈ (eExt n0 L E).2.2.2 a, gExt n0 L Gd b ∧ a < b) ∧ ((eExt n0 L E).2.2.2 a).length ≤ 15 ∧ (eExt n0 L E).2.2.1 a = 1 + (((eExt n0 L E).2.2.2 a).map (eExt n0 L E).2.2.1).sum ∧ (eExt n0 L E).2.2.1 a ≤ 15
    rw [e1, e2, e3, e4, e5]
    exact ⟨⟨b1.1, by have := b1.2.1; omega, b1.2.2⟩, b2, b3, b4, b5, b6, b7, fun b hb => ⟨Or.inl (b8 b hb).1, (b8 b hb).2⟩, b9, b10, b11⟩
  · obtain ⟨q, rfl⟩ : ∃ q, a = n0 + q := ⟨a - n0, by omega⟩
    have ha2 : n0 + q < n0 + L.length := ha2
    have hq : q < L.length := by omega
    have hy : L[q]? = some L[q] := List.getElem?_eq_getElem hq
    obtain ⟨c0, c1, c2, c3, c4, c5⟩ := hR.2.2.2.2.2.2.2 q L[q] hy
    have hm := hB _ (List.getElem_mem hq)
    have en : nodeAt L q = L[q] := by unfold nodeAt; rw [hy]
    have es : n0 + q - n0 = q := by omega
    have e1 : (eExt n0 L E).1 (n0 + q) = L[q].1 := by show (if n0 ≤ n0 + q then (nodeAt L (n0 + q - n0)).1 else _) = _; rw [if_pos (by omega), es, en]
    have e2 : (eExt n0 L E).2.1 (n0 + q) = nI L[q].2.1 := by show (if n0 ≤ n0 + q then nI (nodeAt L (n0 + q - n0)).2.1 else _) = _; rw [if_pos (by omega), es, en]
    have e3 : ∀ q, (eExt n0 L E).2.2.1 (n0 + q) = (fbL L).2.2.1 q := fun q => by show (if n0 ≤ n0 + q then (fbL L).2.2.1 (n0 + q - n0) else _) = _; rw [if_pos (by omega), Nat.add_sub_cancel_left]
    have e4 : (eExt n0 L E).2.2.2 (n0 + q) = ((fbL L).2.1 q).map (fun k => n0 + k) := by show (if n0 ≤ n0 + q then ((fbL L).2.1 (n0 + q - n0)).map (fun k => n0 + k) else _) = _; rw [if_pos (by omega), es]
    have e5 : (((fbL L).2.1 q).map (fun k => n0 + k)).map (eExt n0 L E).2.2.1 = ((fbL L).2.1 q).map (fbL L).2.2.1 := by
      rw [List.map_map]
      exact List.map_congr_left (fun k _ => e3 k)
    obtain ⟨g1, g2, g3, g4, g5, g6, g7, -⟩ := hF
    have hs6 := g6 q hq
    have hs7 := g7 q hq
    have hkl : ((fbL L).2.1 q).length ≤ (((fbL L).2.1 q).map (fbL L).2.2.1).sum := len_le_sum (fun k hk => (g7 k (g3 q k hk).2).1)
    show Ok G n (n0 + q) 0 ∧ (eExt n0 L E).1 (n0 + q) < 6 ∧ i' (n0 + q) 0 = nI ((eExt n0 L E).1 (n0 + q)) ∧ i' (n0 + q) 1 = (eExt n0 L E).2.1 (n0 + q) ∧ i' (n0 + q) 2 = nI ((eExt n0 L E).2.2.2 (n0 + q)).length ∧ i' (n0 + q) 3 = nI ((eExt n0 L E).2.2.1 (n0 + q)) ∧ Kid r' (r' (n0 + q) 4) ((eExt n0 L E).2.2.2 (n0 + q)) ∧ (∀ b ∈ (eExt n0 L E).2.2.2 (n0 + q), gExt n0 L Gd b ∧ n0 + q < b) ∧ ((eExt n0 L E).2.2.2 (n0 + q)).length ≤ 15 ∧ (eExt n0 L E).2.2.1 (n0 + q) = 1 + (((eExt n0 L E).2.2.2 (n0 + q)).map (eExt n0 L E).2.2.1).sum ∧ (eExt n0 L E).2.2.1 (n0 + q) ≤ 15
    rw [e1, e2, e3, e4, e5]
    refine ⟨⟨by have := hR.2.2.2.1; omega, by omega, hR.2.2.1 _ (by omega)⟩, hm.1, c0, c1, ?_, c3, c4, fun b hb => ?_, ?_, hs6, by omega⟩
    · rw [List.length_map]; exact c2
    · obtain ⟨k, hk, hkb⟩ := List.mem_map.mp hb
      have := g3 q k hk
      exact ⟨Or.inr ⟨by omega, by show b < n0 + L.length; omega⟩, by omega⟩
    · rw [List.length_map]; omega
/-- what the reading of a text leaves at CoinErrands -/
theorem RepC.rd {G : GG} {n0 n C : Nat} {A : AP} {i i' : IP} {r r' : RP} (h : RepC C A i r) (hn : C + 1105 ≤ n0) (hL : RdL G n (C + 474) r') (ho : OutR n0 (C + 474) i r i' r') : RepC C A i' r' := by
  obtain ⟨⟨f0, f1, f2, f3, f6, f8, f80, f82⟩, ⟨g4, g5, g7, gt, gh, gl⟩, a3, a4, ⟨m, a5⟩, p, b1, b2, b3⟩ := h
  have oC := ho C (by omega) (by omega) (by omega) (by omega)
  have oT := ho (C + 473) (by omega) (by omega) (by omega) (by omega)
  have oH := ho (C + 472) (by omega) (by omega) (by omega) (by omega)
  have fr : ∀ S m, C < S → (S + 157 ≤ C + 474 ∨ C + 477 ≤ S) → S + 157 ≤ C + 1105 → Rep S m i r → Rep S m i' r' := fun S m c1 c2 c3 hR => hR.frame (fun a d1 d2 => ho a (by omega) (by omega) (by omega) (by omega))
  refine ⟨?_, ?_, fr _ _ (by omega) (by omega) (by omega) a3, fr _ _ (by omega) (by omega) (by omega) a4, ⟨m, fr _ _ (by omega) (by omega) (by omega) a5⟩, p, fun j hj => ⟨(b1 j hj).1, ?_, ?_⟩, b2, fun j m hm => ?_⟩
  · unfold CeF
    rw [oC.2]
    exact ⟨f0, f1, f2, f3, f6, f8, hL.2.2.2.1, hL.2.2.2.2⟩
  · unfold CeI
    rw [oC.1, oT.1]
    exact ⟨g4, g5, g7, gt, gh, gl⟩
  · rw [oH.2]; exact (b1 j hj).2.1
  · obtain ⟨x, hx⟩ := (b1 j hj).2.2
    have := (b1 j hj).1
    exact ⟨x, fr _ _ (by omega) (by omega) (by omega) hx⟩
  · have hj : j < 4 := by
      have := (List.getElem?_eq_some_iff.mp hm).1
      omega
    have := (b1 j hj).1
    exact fr _ _ (by omega) (by omega) (by omega) (b3 j m hm)
theorem CeL.mono {G : GG} {n n' C : Nat} (h : CeL G n C) (hn : n ≤ n') : CeL G n' C := by
  obtain ⟨L1, L2, L3, L4, L5, L6, L7, L8, L9, L10⟩ := h
  exact ⟨⟨L1.1, by have := L1.2.1; omega, L1.2.2⟩, L2.mono hn, L3.mono hn, L4.mono hn, L5.mono hn, L6.mono hn, ⟨L7.1, by have := L7.2.1; omega, L7.2.2⟩, L8.mono hn, L9.mono hn, fun j hj => (L10 j hj).mono hn⟩
theorem rgo_congr {t t' : Nat → Int32} {c : Nat} : ∀ (p : Nat) (s : RS), (∀ k, p ≤ k → k < p + c → t k = t' k) → rgo t s p c = rgo t' s p c := by
  induction c with
  | zero => intro p s h; rfl
  | succ c ih =>
    intro p s h
    show (match rstep s (t p) with | none => Sum.inl p | some s1 => rgo t s1 (p + 1) c) = (match rstep s (t' p) with | none => Sum.inl p | some s1 => rgo t' s1 (p + 1) c)
    rw [h p (by omega) (by omega)]
    cases rstep s (t' p) with
    | none => rfl
    | some s1 => exact ih (p + 1) s1 (fun k h1 h2 => h k (by omega) (by omega))
