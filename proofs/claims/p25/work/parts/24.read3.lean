def lev (d due : Nat) : Nat := if due = 0 then d else d + 1
theorem RdRep.ctl {G : GG} {n0 Rd : Nat} {L : List RN} {d due d' due' : Nat} {n : Nat} {i i' : IP} {r : RP} (h : RdRep G n0 Rd (L, d, due) n i r) (h3 : i' Rd 3 = nI d') (h4 : i' Rd 4 = nI due') (ho : ∀ a k, ¬ (a = Rd ∧ (k = 3 ∨ k = 4)) → i' a k = i a k) (hl : lev d' due' ≤ lev d due) : RdRep G n0 Rd (L, d', due') n i' r := by
  have hlt := h.lt
  obtain ⟨a1, a2, a3, a4, ⟨f1, f3, f4, f5, f6, f7, f8⟩, a6, a7, a8⟩ := h
  refine ⟨a1, a2, a3, a4, ⟨?_, h3, h4, ?_, ?_, ?_, ?_⟩, a6, fun e he => a7 e (Nat.lt_of_lt_of_le he hl), fun q y hy => ?_⟩
  · rw [ho Rd 1 (by omega)]; exact f1
  · rw [ho Rd 5 (by omega)]; exact f5
  · rw [ho Rd 6 (by omega)]; exact f6
  · rw [ho Rd 7 (by omega)]; exact f7
  · rw [ho Rd 8 (by omega)]; exact f8
  · obtain ⟨b0, b1, b2, b3, b4, b5⟩ := a8 q y hy
    exact ⟨by rw [ho _ 0 (by omega)]; exact b0, by rw [ho _ 1 (by omega)]; exact b1, by rw [ho _ 2 (by omega)]; exact b2, by rw [ho _ 3 (by omega)]; exact b3, b4, b5⟩
theorem swk_snoc (L : List RN) (y : RN) : swk (L ++ [y]) = swk L + y.2.1 := by unfold swk; rw [List.map_append, List.sum_append]; simp
theorem mxd_setW (L : List RN) (y : RN) (w : Nat) : mxd (L ++ [(y.1, w, y.2.2)]) = mxd (L ++ [y]) := by rw [mxd_snoc, mxd_snoc]
theorem RdRep.digit {G : GG} {n0 Rd : Nat} {L : List RN} {y : RN} {d due w : Nat} {n : Nat} {i : IP} {r : RP} (h : RdRep G n0 Rd (L ++ [y], d, due) n i r) (hw : y.2.1 ≤ w) : RdRep G n0 Rd (L ++ [(y.1, w, y.2.2)], d, due) n (ups (ups i Rd 6 (i Rd 6 + (nI w - nI y.2.1))) (n0 + L.length) 1 (nI w)) r := by
  have hlt := h.lt
  obtain ⟨a1, a2, a3, a4, ⟨f1, f3, f4, f5, f6, f7, f8⟩, a6, a7, a8⟩ := h
  have ef : fbL (L ++ [(y.1, w, y.2.2)]) = fbL (L ++ [y]) := by rw [fbL_snoc, fbL_snoc]
  have el : (L ++ [(y.1, w, y.2.2)]).length = (L ++ [y]).length := by simp
  have hne : Rd ≠ n0 + L.length := by omega
  refine ⟨by show n = n0 + (L ++ [(y.1, w, y.2.2)]).length; rw [el]; exact a1, a2, a3, a4, ⟨?_, ?_, ?_, ?_, ?_, ?_, ?_⟩, ?_, ?_, fun q z hz => ?_⟩
  · show ups _ _ _ _ Rd 1 = nI (fbL (L ++ [(y.1, w, y.2.2)])).1.length
    rw [ef, ups_a hne, ups_k (by decide)]; exact f1
  · rw [ups_a hne, ups_k (by decide)]; exact f3
  · rw [ups_a hne, ups_k (by decide)]; exact f4
  · show ups _ _ _ _ Rd 5 = nI (L ++ [(y.1, w, y.2.2)]).length
    rw [el, ups_a hne, ups_k (by decide)]; exact f5
  · have f6 : i Rd 6 = nI (swk (L ++ [y])) := f6
    show ups _ _ _ _ Rd 6 = nI (swk (L ++ [(y.1, w, y.2.2)]))
    rw [ups_a hne, ups_s, f6, swk_snoc, swk_snoc, pk_sub hw, nI_add]
    congr 1
    show swk L + y.2.1 + (w - y.2.1) = swk L + w
    omega
  · show ups _ _ _ _ Rd 7 = nI (mxd (L ++ [(y.1, w, y.2.2)]))
    rw [mxd_setW, ups_a hne, ups_k (by decide)]; exact f7
  · show ups _ _ _ _ Rd 8 = nI (mxP (fbL (L ++ [(y.1, w, y.2.2)])) (L ++ [(y.1, w, y.2.2)]).length)
    rw [ef, el, ups_a hne, ups_k (by decide)]; exact f8
  · show ∀ (k a : Nat), (fbL (L ++ [(y.1, w, y.2.2)])).1[k]? = some a → _
    rw [ef]; exact a6
  · show ∀ e, e < _ → r (Rd + 2) e = some (n0 + (fbL (L ++ [(y.1, w, y.2.2)])).2.2.2 e)
    rw [ef]; exact a7
  · show Node n0 (fbL (L ++ [(y.1, w, y.2.2)])) _ r q z
    rw [ef]
    have hz : (L ++ [(y.1, w, y.2.2)])[q]? = some z := hz
    by_cases hq : q < L.length
    · rw [List.getElem?_append_left hq] at hz
      obtain ⟨b0, b1, b2, b3, b4, b5⟩ := a8 q z (by show (L ++ [y])[q]? = some z; rw [List.getElem?_append_left hq]; exact hz)
      have g1 : n0 + q ≠ n0 + L.length := by omega
      have g2 : n0 + q ≠ Rd := by omega
      exact ⟨by rw [ups_a g1, ups_a g2]; exact b0, by rw [ups_a g1, ups_a g2]; exact b1, by rw [ups_a g1, ups_a g2]; exact b2, by rw [ups_a g1, ups_a g2]; exact b3, b4, b5⟩
    · rw [List.getElem?_append_right (by omega)] at hz
      have hz1 : q - L.length < 1 := (List.getElem?_eq_some_iff.mp hz).1
      have hq2 : q = L.length := by omega
      subst hq2
      rw [Nat.sub_self] at hz
      have hz2 : (y.1, w, y.2.2) = z := Option.some.inj hz
      subst hz2
      obtain ⟨b0, b1, b2, b3, b4, b5⟩ := a8 L.length y (by show (L ++ [y])[L.length]? = some y; rw [List.getElem?_append_right (Nat.le_refl _), Nat.sub_self]; rfl)
      have g2 : n0 + L.length ≠ Rd := by omega
      exact ⟨by rw [ups_k (by decide), ups_a g2]; exact b0, ups_s, by rw [ups_k (by decide), ups_a g2]; exact b2, by rw [ups_k (by decide), ups_a g2]; exact b3, b4, b5⟩
/-- what a sign does to the reader -/
def TakeQ (G : GG) (n0 Rd : Nat) (s : RS) (x : Int32) (n : Nat) (i : IP) (r : RP) : QP := fun v n' i' r' => n ≤ n' ∧ n' ≤ n + 1 ∧ OutR n0 Rd i r i' r' ∧ RdL G n' Rd r' ∧ (∀ s', rstep s x = some s' → v = some (.int 1) ∧ RdRep G n0 Rd s' n' i' r') ∧ (rstep s x = none → v = some (.int 0))
section READ3
variable {l : Launch} {G : GG} {n : Nat} {i : IP} {r : RP} {Rd n0 : Nat}
theorem outR_rd {n0 Rd : Nat} {i : IP} {r : RP} {k : Nat} {x : Int32} : OutR n0 Rd i r (ups i Rd k x) r := fun _ _ h _ _ => ⟨ups_row h, rfl⟩
theorem c_rdAfter {L : List RN} {d due : Nat} {x : Int32} (hR : RdRep G n0 Rd (L, d, due) n i r) (hdue : due = 3 ∨ due = 4) (hd : d ≤ 60) : Go l G mX3_takeAfter 0 0 0 0 (lentry [.ref Rd, .int x] 2) [] n i r (fun v n' i' r' => n' = n ∧ r' = r ∧ OutR n0 Rd i r i' r ∧ (∀ s', rAfter (L, d, due) x = some s' → v = some (.int 1) ∧ RdRep G n0 Rd s' n i' r) ∧ (rAfter (L, d, due) x = none → v = some (.int 0))) := by
  have hL := hR.2.1
  have f3 : i Rd 3 = nI d := hR.2.2.2.2.1.2.1
  have hlv : lev d due = d + 1 := by unfold lev; rw [if_neg (by omega)]
  refine go_post (c_takeAfter hL) ?_
  intro v n' i' r' ⟨p1, p2, p3⟩
  refine ⟨p1, p2, ?_⟩
  rw [f3] at p3
  have hpos : 0 < nI d ↔ 0 < d := nI_ltI (a := 0) (by omega) (by omega)
  have hz : nI d = 0 ↔ d = 0 := nI_eq (b := 0) (by omega) (by omega)
  rcases p3 with ⟨q1, q2, q3, q4⟩ | ⟨q1, q3, q4⟩
  · have q2 := hpos.mp q2
    have hA : rAfter (L, d, due) x = some (L, d - 1, 4) := by unfold rAfter; rw [if_pos ⟨q1, q2⟩]
    rw [q4]
    refine ⟨outR_rd.tr outR_rd, fun s' hs => ?_, fun hs => by rw [hA] at hs; cases hs⟩
    rw [hA] at hs
    cases hs
    refine ⟨q3, hR.ctl ?_ ?_ (fun a k hk => ?_) ?_⟩
    · rw [ups_k (by decide), ups_s]; exact pk_sub (b := 1) q2
    · rw [ups_s]; rfl
    · by_cases ha : a = Rd
      · subst ha; rw [ups_k (fun q => hk ⟨rfl, Or.inr q⟩), ups_k (fun q => hk ⟨rfl, Or.inl q⟩)]
      · rw [ups_a ha, ups_a ha]
    · rw [hlv]; unfold lev; rw [if_neg (by decide)]; omega
  · have hn1 : ¬ (x = 41 ∧ 0 < d) := fun q => q1 ⟨q.1, hpos.mpr q.2⟩
    have hA : rAfter (L, d, due) x = if (d = 0 ∧ x = 59) ∨ (¬ d = 0 ∧ x = 44) then some (L, d, 0) else none := by unfold rAfter; rw [if_neg hn1]
    rw [q4, hA]
    refine ⟨outR_rd, fun s' hs => ?_, fun hs => ?_⟩
    · split at hs
      · rename_i hc
        cases hs
        refine ⟨?_, hR.ctl ?_ ?_ (fun a k hk => ?_) ?_⟩
        · rw [q3]
          by_cases d0 : d = 0
          · rw [if_pos (hz.mpr d0)]
            rcases hc with hc | hc
            · rw [if_pos hc.2]
            · exact absurd d0 hc.1
          · rw [if_neg (fun q => d0 (hz.mp q))]
            rcases hc with hc | hc
            · exact absurd hc.1 d0
            · rw [if_pos hc.2]
        · rw [ups_k (by decide)]; exact f3
        · rw [ups_s]; rfl
        · by_cases ha : a = Rd
          · subst ha; rw [ups_k (fun q => hk ⟨rfl, Or.inr q⟩)]
          · rw [ups_a ha]
        · rw [hlv]; unfold lev; rw [if_pos rfl]; omega
      · cases hs
    · split at hs
      · cases hs
      · rename_i hc
        rw [q3]
        by_cases d0 : d = 0
        · rw [if_pos (hz.mpr d0), if_neg (fun q => hc (Or.inl ⟨d0, q⟩))]
        · rw [if_neg (fun q => d0 (hz.mp q)), if_neg (fun q => hc (Or.inr ⟨d0, q⟩))]
theorem c_rdDigit {L : List RN} {y : RN} {d : Nat} {x : Int32} (hR : RdRep G n0 Rd (L ++ [y], d, 3) n i r) (hy : y.2.2 = d) (hy20 : y.2.1 ≤ 20) (hd : d < 15) : Go l G mX3_takeDigit 0 0 0 0 (lentry [.ref Rd, .int x] 4) [] n i r (fun v n' i' r' => n' = n ∧ r' = r ∧ OutR n0 Rd i r i' r ∧ (∀ due s', rDigit (L ++ [y], d, due) x = some s' → (y.2.1 = 0 ∨ 0 < y.2.1) → v = some (.int 1) ∧ RdRep G n0 Rd s' n i' r) ∧ (∀ due, rDigit (L ++ [y], d, due) x = none → v = some (.int 0))) := by
  have hlt := hR.lt
  have hL := hR.2.1
  have f3 : i Rd 3 = nI d := hR.2.2.2.2.1.2.1
  have hn : n = n0 + (L ++ [y]).length := hR.1
  have hlat : (fbL (L ++ [y])).2.2.2 d = L.length := by rw [fbL_snoc, hy]; exact up1_s
  have hrow : r (Rd + 2) d = some (n0 + L.length) := by
    have := hR.2.2.2.2.2.2.1 d (by show d < (if (3:Nat) = 0 then d else d + 1); rw [if_neg (by decide)]; omega)
    rw [this]
    show some (n0 + (fbL (L ++ [y])).2.2.2 d) = _
    rw [hlat]
  have hok : Ok G n (n0 + L.length) 0 := ⟨by have := hR.2.2.2.1; omega, by rw [hn, List.length_append]; simp, hR.2.2.1 _ (by omega)⟩
  have hnd := hR.2.2.2.2.2.2.2 L.length y (by show (L ++ [y])[L.length]? = some y; rw [List.getElem?_append_right (Nat.le_refl _), Nat.sub_self]; rfl)
  have hw : i (n0 + L.length) 1 = nI y.2.1 := hnd.2.1
  refine go_post (c_takeDigit hL f3 hd hrow hok) ?_
  intro v n' i' r' ⟨p1, p2, p3⟩
  rw [hw] at p3
  have hlast : lastW (L ++ [y]) = y.2.1 := lastW_snoc L y
  have hcond : (48 ≤ x ∧ x ≤ 57 ∧ nI y.2.1 * 10 + (x - 48) ≤ 20) ↔ (48 ≤ x ∧ x ≤ 57 ∧ y.2.1 * 10 + (x - 48).toNatClampNeg ≤ 20) := by
    constructor
    · rintro ⟨a, b, c⟩
      obtain ⟨k, k1, k2, k3, k4, k5⟩ := dig_of (b := 57) a b (by omega)
      refine ⟨a, b, ?_⟩
      rw [k4, show nI y.2.1 * 10 = nI (y.2.1 * 10) from pk_mul y.2.1 10, nI_add] at c
      rw [k5]
      exact (nI_leI (b := 20) (by omega) (by omega)).mp c
    · rintro ⟨a, b, c⟩
      obtain ⟨k, k1, k2, k3, k4, k5⟩ := dig_of (b := 57) a b (by omega)
      refine ⟨a, b, ?_⟩
      rw [k5] at c
      rw [k4, show nI y.2.1 * 10 = nI (y.2.1 * 10) from pk_mul y.2.1 10, nI_add]
      exact (nI_leI (b := 20) (by omega) (by omega)).mpr c
  refine ⟨p1, p2, ?_⟩
  rcases p3 with ⟨q1, q2, q3, q4, q5⟩ | ⟨q1, q4, q5⟩
  · obtain ⟨-, -, c3⟩ := hcond.mp ⟨q1, q2, q3⟩
    obtain ⟨k, k1, k2, k3, k4, k5⟩ := dig_of (b := 57) q1 q2 (by omega)
    have hval : nI y.2.1 * 10 + (x - 48) = nI (y.2.1 * 10 + (x - 48).toNatClampNeg) := by
      rw [k5, k4, show nI y.2.1 * 10 = nI (y.2.1 * 10) from pk_mul y.2.1 10, nI_add]
    rw [hval] at q5
    have hD : ∀ due, rDigit (L ++ [y], d, due) x = some (L ++ [(y.1, y.2.1 * 10 + (x - 48).toNatClampNeg, y.2.2)], d, 3) := fun due => by
      unfold rDigit
      dsimp only
      rw [hlast, if_pos ⟨q1, q2, c3⟩, setW_snoc]
    refine ⟨?_, fun due s' hs _ => ?_, fun due hs => by rw [hD] at hs; cases hs⟩
    · rw [q5]
      intro a a1 a2 a3 a4
      exact ⟨by rw [ups_row (by omega), ups_row a2], rfl⟩
    · rw [hD] at hs
      cases hs
      refine ⟨q4, ?_⟩
      rw [q5]
      exact hR.digit (by omega)
  · have hn1 : ¬ (48 ≤ x ∧ x ≤ 57 ∧ y.2.1 * 10 + (x - 48).toNatClampNeg ≤ 20) := fun q => q1 (hcond.mpr q)
    have hD : ∀ due, rDigit (L ++ [y], d, due) x = none := fun due => by
      unfold rDigit
      dsimp only
      rw [hlast, if_neg hn1]
    rw [q5]
    exact ⟨OutR.rf, fun due s' hs _ => absurd ((hD due).symm.trans hs) (by simp), fun _ _ => q4⟩
theorem take_of {s : RS} {x : Int32} {n' : Nat} {v : Option Value} {i' : IP} {r' : RP} (hR : RdRep G n0 Rd s n i r) (hn : n' = n) (ho : OutR n0 Rd i r i' r') (h2 : ∀ s', rstep s x = some s' → v = some (.int 1) ∧ RdRep G n0 Rd s' n' i' r') (h3 : rstep s x = none → v = some (.int 0)) (hr : r' = r) : TakeQ G n0 Rd s x n i r v n' i' r' := by
  subst hn; subst hr
  exact ⟨Nat.le_refl _, by omega, ho, hR.2.1, h2, h3⟩
theorem c_takeInWork {L : List RN} {y : RN} {d : Nat} {x : Int32} (hR : RdRep G n0 Rd (L ++ [y], d, 3) n i r) (hy : y.2.2 = d) (hy20 : y.2.1 ≤ 20) (hd : d < 15) : Go l G mX3_takeInWork 1 0 0 0 (lentry [.ref Rd, .int x] 2) [] n i r (TakeQ G n0 Rd (L ++ [y], d, 3) x n i r) := by
  have hL0 := hR.2.1
  have f3 : i Rd 3 = nI d := hR.2.2.2.2.1.2.1
  have hlw : lastW (L ++ [y]) = y.2.1 := lastW_snoc L y
  have hs3 : rstep (L ++ [y], d, 3) x = if x = 40 then some (L ++ [y], d + 1, 0) else if 48 ≤ x ∧ x ≤ 57 then (if y.2.1 = 0 then none else rDigit (L ++ [y], d, 3) x) else rAfter (L ++ [y], d, 3) x := by
    unfold rstep
    dsimp only
    rw [if_neg (by decide), if_neg (by decide), if_neg (by decide), if_pos rfl, hlw]
  have hRd := hL0.1
  refine go_iload_n (z := 1) dX3_takeInWork_0 rfl rfl ?_
  refine go_bipush (z := 3) (v := 40) dX3_takeInWork_1 rfl (by decide) ?_
  refine go_icmp_ne (z := 23) (z2 := 6) dX3_takeInWork_3 rfl (by decide) (fun h => ?_) (fun h => ?_)
  · have hx40 : ¬ x = 40 := h
    rw [if_neg hx40] at hs3
    have hA : ¬ (48 ≤ x ∧ x ≤ 57) → Go l G mX3_takeInWork 1 0 0 56 (lentry [.ref Rd, .int x] 2) [] n i r (TakeQ G n0 Rd (L ++ [y], d, 3) x n i r) := by
      intro hdg
      rw [if_neg hdg] at hs3
      refine go_aload_n (z := 57) dX3_takeInWork_56 rfl rfl ?_
      refine go_iload_n (z := 58) dX3_takeInWork_57 rfl rfl ?_
      refine go_callV (z := 61) (t := 3) [.int x] dX3_takeInWork_58 rfl mlX3_takeAfter vX3_55 ⟨by decide, rfl⟩ hRd rfl rfl (by decide) (cat_i cat_nil) (by simp) (by decide) (by first | decide | omega) (by first | decide | omega) (c_rdAfter hR (Or.inl rfl) (by omega)) ?_
      intro v n2 i2 r2 hp
      obtain ⟨p1, p2, p3, p4, p5⟩ := hp
      cases hq : rAfter (L ++ [y], d, 3) x with
      | none =>
        rw [p5 hq]
        exact go_zret dX3_takeInWork_61 rfl (congrArg Value.int (by decide)) (take_of hR p1 (by rw [p2] at *; exact p3) (fun s' hs => absurd (hs.symm.trans (hs3.trans hq)) (by simp)) (fun _ => rfl) p2)
      | some s1 =>
        rw [(p4 s1 hq).1]
        refine go_zret dX3_takeInWork_61 rfl (congrArg Value.int (by decide)) (take_of hR p1 (by rw [p2] at *; exact p3) (fun s' hs => ?_) (fun hs => absurd (hs.symm.trans (hs3.trans hq)) (by simp)) p2)
        have e : s' = s1 := Option.some.inj (hs.symm.trans (hs3.trans hq))
        rw [p1, p2, e]
        exact ⟨rfl, (p4 s1 hq).2⟩
    refine go_iload_n (z := 24) dX3_takeInWork_23 rfl rfl ?_
    refine go_bipush (z := 26) (v := 48) dX3_takeInWork_24 rfl (by decide) ?_
    refine go_icmp_lt (z := 56) (z2 := 29) dX3_takeInWork_26 rfl (by decide) (fun h => hA (fun q => ?_)) (fun h1 => ?_)
    · have h : x < 48 := h
      exact absurd (Int32.lt_of_lt_of_le h q.1) (Int32.lt_irrefl)
    refine go_iload_n (z := 30) dX3_takeInWork_29 rfl rfl ?_
    refine go_bipush (z := 32) (v := 57) dX3_takeInWork_30 rfl (by decide) ?_
    refine go_icmp_gt (z := 56) (z2 := 35) dX3_takeInWork_32 rfl (by decide) (fun h => hA (fun q => ?_)) (fun h2 => ?_)
    · have h : 57 < x := h
      exact absurd (Int32.lt_of_lt_of_le h q.2) (Int32.lt_irrefl)
    have h1 : 48 ≤ x := Int32.not_lt.mp h1
    have h2 : x ≤ 57 := Int32.not_lt.mp h2
    rw [if_pos ⟨h1, h2⟩] at hs3
    have hlt := hR.lt
    have hlat : (fbL (L ++ [y])).2.2.2 d = L.length := by rw [fbL_snoc, hy]; exact up1_s
    have hrow : r (Rd + 2) d = some (n0 + L.length) := by
      have := hR.2.2.2.2.2.2.1 d (by show d < (if (3:Nat) = 0 then d else d + 1); rw [if_neg (by decide)]; omega)
      rw [this]
      show some (n0 + (fbL (L ++ [y])).2.2.2 d) = _
      rw [hlat]
    have hnn : n = n0 + (L ++ [y]).length := hR.1
    have hok : Ok G n (n0 + L.length) 0 := ⟨by have := hR.2.2.2.1; omega, by rw [hnn, List.length_append]; simp, hR.2.2.1 _ (by omega)⟩
    have hnd := hR.2.2.2.2.2.2.2 L.length y (by show (L ++ [y])[L.length]? = some y; rw [List.getElem?_append_right (Nat.le_refl _), Nat.sub_self]; rfl)
    have hw : i (n0 + L.length) 1 = nI y.2.1 := hnd.2.1
    refine go_aload_n (z := 36) dX3_takeInWork_35 rfl rfl ?_
    refine go_callV (z := 39) (t := 3) [] dX3_takeInWork_36 rfl mlX3_isWorkZero vX3_85 ⟨by decide, rfl⟩ hRd rfl rfl (by decide) cat_nil (by simp) (by decide) (by first | decide | omega) (by first | decide | omega) (c_isWorkZero hL0 f3 hd hrow hok) ?_
    refine ret_elim ?_
    rw [hw]
    by_cases hz : y.2.1 = 0
    · rw [if_pos hz] at hs3
      rw [if_pos (show nI y.2.1 = 0 by rw [hz]; rfl)]
      refine go_if_ne (z := 54) (z2 := 42) dX3_takeInWork_39 rfl (by decide) (fun _ => ?_) (fun h => absurd h (by decide))
      refine go_iconst (z := 55) (v := 0) dX3_takeInWork_54 rfl (by decide) ?_
      exact go_zret dX3_takeInWork_55 rfl (congrArg Value.int (by decide)) (take_of hR rfl OutR.rf (fun s' hs => absurd (hs.symm.trans hs3) (by simp)) (fun _ => rfl) rfl)
    · rw [if_neg hz] at hs3
      rw [if_neg (nI_ne0 (by omega) (by omega))]
      refine go_if_ne (z := 54) (z2 := 42) dX3_takeInWork_39 rfl (by decide) (fun h => absurd rfl h) (fun _ => ?_)
      refine go_aload_n (z := 43) dX3_takeInWork_42 rfl rfl ?_
      refine go_iload_n (z := 44) dX3_takeInWork_43 rfl rfl ?_
      refine go_callV (z := 47) (t := 3) [.int x] dX3_takeInWork_44 rfl mlX3_takeDigit vX3_49 ⟨by decide, rfl⟩ hRd rfl rfl (by decide) (cat_i cat_nil) (by simp) (by decide) (by first | decide | omega) (by first | decide | omega) (c_rdDigit hR hy hy20 hd) ?_
      intro v n2 i2 r2 hp
      obtain ⟨p1, p2, p3, p4, p5⟩ := hp
      cases hq : rDigit (L ++ [y], d, 3) x with
      | none =>
        rw [p5 3 hq]
        refine go_if_eq (z := 54) (z2 := 50) dX3_takeInWork_47 rfl (by decide) (fun _ => ?_) (fun h => absurd rfl h)
        refine go_iconst (z := 55) (v := 0) dX3_takeInWork_54 rfl (by decide) ?_
        exact go_zret dX3_takeInWork_55 rfl (congrArg Value.int (by decide)) (take_of hR p1 (by rw [p2] at *; exact p3) (fun s' hs => absurd (hs.symm.trans (hs3.trans hq)) (by simp)) (fun _ => rfl) p2)
      | some s1 =>
        have g := p4 3 s1 hq (by omega)
        rw [g.1]
        refine go_if_eq (z := 54) (z2 := 50) dX3_takeInWork_47 rfl (by decide) (fun h => absurd h (by decide)) (fun _ => ?_)
        refine go_iconst (z := 51) (v := 1) dX3_takeInWork_50 rfl (by decide) ?_
        refine go_goto (z := 55) dX3_takeInWork_51 (by decide) ?_
        refine go_zret dX3_takeInWork_55 rfl (congrArg Value.int (by decide)) (take_of hR p1 (by rw [p2] at *; exact p3) (fun s' hs => ?_) (fun hs => absurd (hs.symm.trans (hs3.trans hq)) (by simp)) p2)
        have e : s' = s1 := Option.some.inj (hs.symm.trans (hs3.trans hq))
        rw [p1, p2, e]
        exact ⟨rfl, g.2⟩
  · have hx40 : x = 40 := h
    rw [if_pos hx40] at hs3
    refine go_aload_n (z := 7) dX3_takeInWork_6 rfl rfl ?_
    refine go_dup (z := 8) dX3_takeInWork_7 rfl rfl ?_
    refine go_getI (z := 11) dX3_takeInWork_8 rfl fX3_24 (by assumption) rfl ?_
    refine go_iconst (z := 12) (v := 1) dX3_takeInWork_11 rfl (by decide) ?_
    refine go_iadd (z := 13) dX3_takeInWork_12 rfl ?_
    refine go_putI (z := 16) dX3_takeInWork_13 rfl fX3_24 (by assumption) rfl (Or.inl rfl) rfl ?_
    refine go_aload_n (z := 17) dX3_takeInWork_16 rfl rfl ?_
    refine go_iconst (z := 18) (v := 0) dX3_takeInWork_17 rfl (by decide) ?_
    refine go_putI (z := 21) dX3_takeInWork_18 rfl fX3_27 (by assumption) rfl (Or.inl rfl) rfl ?_
    refine go_iconst (z := 22) (v := 1) dX3_takeInWork_21 rfl (by decide) ?_
    refine go_zret dX3_takeInWork_22 rfl (congrArg Value.int (by decide)) (take_of hR rfl (outR_rd.tr outR_rd) (fun s' hs => ?_) (fun hs => absurd (hs.symm.trans hs3) (by simp)) rfl)
    have e : s' = (L ++ [y], d + 1, 0) := Option.some.inj (hs.symm.trans hs3)
    rw [e]
    refine ⟨rfl, hR.ctl ?_ ?_ (fun a k hk => ?_) ?_⟩
    · rw [ups_k (by decide), ups_s, f3]; exact nI_1 d
    · rw [ups_s]; rfl
    · by_cases ha : a = Rd
      · subst ha; rw [ups_k (fun q => hk ⟨rfl, Or.inr q⟩), ups_k (fun q => hk ⟨rfl, Or.inl q⟩)]
      · rw [ups_a ha, ups_a ha]
    · show lev (d + 1) 0 ≤ lev d 3
      unfold lev
      simp
theorem c_take {s : RS} {x : Int32} {p : Nat} (hR : RdRep G n0 Rd s n i r) (hI : RInv s p) (hp : p < 60) : Go l G mX3_take 3 1 7 0 (lentry [.ref Rd, .int x] 2) [] n i r (TakeQ G n0 Rd s x n i r) := by
  obtain ⟨L, d, due⟩ := s
  have hI0 := hI
  obtain ⟨hF, hB, hD⟩ := hI
  have hF : FI (fbL L) L.length (mL L) := hF
  have hB : ∀ y ∈ L, y.1 < 6 ∧ y.2.1 ≤ 20 ∧ y.2.2 < L.length := hB
  have hD : (due = 0 ∧ d ≤ mL L ∧ 4 * L.length ≤ p) ∨ (due = 1 ∧ mL L = d + 1 ∧ 4 * L.length ≤ p + 3) ∨ (due = 2 ∧ mL L = d + 1 ∧ 4 * L.length ≤ p + 2) ∨ (due = 3 ∧ mL L = d + 1 ∧ 4 * L.length ≤ p + 1) ∨ (due = 4 ∧ d < mL L ∧ 4 * L.length ≤ p) := hD
  have hmc : mL L ≤ L.length := hF.2.2.2.2.2.2.2.2.2.2.2.2
  have hL0 := hR.2.1
  have hRd := hL0.1
  have f3 : i Rd 3 = nI d := hR.2.2.2.2.1.2.1
  have f4 : i Rd 4 = nI due := hR.2.2.2.2.1.2.2.1
  have hs : rstep (L, d, due) x = (if due = 0 then (if 48 ≤ x ∧ x < 54 then some (L ++ [((x - 48).toNatClampNeg, 0, d)], d, 1) else none) else if due = 1 then (if x = 58 then some (L, d, 2) else none) else if due = 2 then rDigit (L, d, due) x else if due = 3 then (if x = 40 then some (L, d + 1, 0) else if 48 ≤ x ∧ x ≤ 57 then (if lastW L = 0 then none else rDigit (L, d, due) x) else rAfter (L, d, due) x) else rAfter (L, d, due) x) := rfl
  refine go_aload_n (z := 1) dX3_take_0 rfl rfl ?_
  refine go_getI (z := 4) dX3_take_1 rfl fX3_27 (by assumption) rfl ?_
  rw [f4]
  rcases hD with ⟨q1, q2, q3⟩ | ⟨q1, q2, q3⟩ | ⟨q1, q2, q3⟩ | ⟨q1, q2, q3⟩ | ⟨q1, q2, q3⟩
  · subst due
    rw [if_pos rfl] at hs
    refine go_tabIn (z := 36) 0 dX3_take_4 (by decide) (by decide) (by decide) rfl rfl ?_
    refine go_aload_n (z := 37) dX3_take_36 rfl rfl ?_
    refine go_iload_n (z := 38) dX3_take_37 rfl rfl ?_
    refine go_callV (z := 41) (t := 3) [.int x] dX3_take_38 rfl mlX3_takeHouse vX3_46 ⟨by decide, rfl⟩ hRd rfl rfl (by decide) (cat_i cat_nil) (by simp) (by decide) (by first | decide | omega) (by first | decide | omega) (c_takeHouse hR hF q2 (by omega) (fun y hy => (hB y hy).2.2)) ?_
    intro v n2 i2 r2 hp
    rcases hp with ⟨a1, a2, a3, a4, a5⟩ | ⟨a1, a2, a3, a4, a5⟩
    · rw [if_pos ⟨a1, a2⟩] at hs
      rw [a3]
      have hn2 : n2 = n + 1 := by
        have b1 : n2 = n0 + (L ++ [((x - 48).toNatClampNeg, 0, d)]).length := a4.1
        have b2 : n = n0 + L.length := hR.1
        rw [b1, b2, List.length_append]; rfl
      refine go_zret dX3_take_41 rfl (congrArg Value.int (by decide)) ⟨by omega, by omega, a5, a4.2.1, fun s' h2 => ?_, fun h2 => absurd (h2.symm.trans hs) (by simp)⟩
      have e := Option.some.inj (h2.symm.trans hs)
      rw [e]
      exact ⟨rfl, a4⟩
    · rw [if_neg a1] at hs
      rw [a2]
      exact go_zret dX3_take_41 rfl (congrArg Value.int (by decide)) (take_of hR a3 (by rw [a4, a5]; exact OutR.rf) (fun s' h2 => absurd (h2.symm.trans hs) (by simp)) (fun _ => rfl) a5)
  · subst due
    rw [if_neg (by decide), if_pos rfl] at hs
    refine go_tabIn (z := 42) 1 dX3_take_4 (by decide) (by decide) (by decide) rfl rfl ?_
    refine go_aload_n (z := 43) dX3_take_42 rfl rfl ?_
    refine go_iconst (z := 44) (v := 2) dX3_take_43 rfl (by decide) ?_
    refine go_putI (z := 47) dX3_take_44 rfl fX3_27 (by assumption) rfl (Or.inl rfl) rfl ?_
    refine go_iload_n (z := 48) dX3_take_47 rfl rfl ?_
    refine go_bipush (z := 50) (v := 58) dX3_take_48 rfl (by decide) ?_
    refine go_icmp_ne (z := 57) (z2 := 53) dX3_take_50 rfl (by decide) (fun h => ?_) (fun h => ?_)
    · rw [if_neg (show ¬ x = 58 from h)] at hs
      refine go_iconst (z := 58) (v := 0) dX3_take_57 rfl (by decide) ?_
      exact go_zret dX3_take_58 rfl (congrArg Value.int (by decide)) (take_of hR rfl outR_rd (fun s' h2 => absurd (h2.symm.trans hs) (by simp)) (fun _ => rfl) rfl)
    · rw [if_pos (show x = 58 from h)] at hs
      refine go_iconst (z := 54) (v := 1) dX3_take_53 rfl (by decide) ?_
      refine go_goto (z := 58) dX3_take_54 (by decide) ?_
      refine go_zret dX3_take_58 rfl (congrArg Value.int (by decide)) (take_of hR rfl outR_rd (fun s' h2 => ?_) (fun h2 => absurd (h2.symm.trans hs) (by simp)) rfl)
      have e := Option.some.inj (h2.symm.trans hs)
      rw [e]
      refine ⟨rfl, hR.ctl ?_ ups_s (fun a k hk => ?_) (Nat.le_refl _)⟩
      · rw [ups_k (by decide)]; exact f3
      · by_cases ha : a = Rd
        · subst ha; rw [ups_k (fun q => hk ⟨rfl, Or.inr q⟩)]
        · rw [ups_a ha]
  · subst due
    rw [if_neg (by decide), if_neg (by decide), if_pos rfl] at hs
    obtain ⟨L', y, hL', hy⟩ := snoc_of (L := L) (by omega)
    subst hL'
    have hyd : y.2.2 = d := by omega
    have hy20 := (hB y (List.mem_append_right _ List.mem_cons_self)).2.1
    have hR1 : RdRep G n0 Rd (L' ++ [y], d, 3) n (ups i Rd 4 3) r := hR.ctl (by rw [ups_k (by decide)]; exact f3) ups_s (fun a k hk => by
      by_cases ha : a = Rd
      · subst ha; rw [ups_k (fun q => hk ⟨rfl, Or.inr q⟩)]
      · rw [ups_a ha]) (Nat.le_refl _)
    refine go_tabIn (z := 59) 2 dX3_take_4 (by decide) (by decide) (by decide) rfl rfl ?_
    refine go_aload_n (z := 60) dX3_take_59 rfl rfl ?_
    refine go_iconst (z := 61) (v := 3) dX3_take_60 rfl (by decide) ?_
    refine go_putI (z := 64) dX3_take_61 rfl fX3_27 (by assumption) rfl (Or.inl rfl) rfl ?_
    refine go_aload_n (z := 65) dX3_take_64 rfl rfl ?_
    refine go_iload_n (z := 66) dX3_take_65 rfl rfl ?_
    refine go_callV (z := 69) (t := 3) [.int x] dX3_take_66 rfl mlX3_takeDigit vX3_49 ⟨by decide, rfl⟩ hRd rfl rfl (by decide) (cat_i cat_nil) (by simp) (by decide) (by first | decide | omega) (by first | decide | omega) (c_rdDigit hR1 hyd hy20 (by omega)) ?_
    intro v n2 i2 r2 hp
    obtain ⟨p1, p2, p3, p4, p5⟩ := hp
    have p3 : OutR n0 Rd i r i2 r2 := by rw [p2]; exact outR_rd.tr p3
    cases hq : rDigit (L' ++ [y], d, 2) x with
    | none =>
      rw [p5 2 hq]
      exact go_zret dX3_take_69 rfl (congrArg Value.int (by decide)) (take_of hR p1 p3 (fun s' h2 => absurd (h2.symm.trans (hs.trans hq)) (by simp)) (fun _ => rfl) p2)
    | some s1 =>
      have g := p4 2 s1 hq (by omega)
      rw [g.1]
      refine go_zret dX3_take_69 rfl (congrArg Value.int (by decide)) (take_of hR p1 p3 (fun s' h2 => ?_) (fun h2 => absurd (h2.symm.trans (hs.trans hq)) (by simp)) p2)
      have e : s' = s1 := Option.some.inj (h2.symm.trans (hs.trans hq))
      rw [p1, p2, e]
      exact ⟨rfl, g.2⟩
  · subst due
    obtain ⟨L', y, hL', hy⟩ := snoc_of (L := L) (by omega)
    subst hL'
    have hyd : y.2.2 = d := by omega
    have hy20 := (hB y (List.mem_append_right _ List.mem_cons_self)).2.1
    refine go_tabIn (z := 70) 3 dX3_take_4 (by decide) (by decide) (by decide) rfl rfl ?_
    refine go_aload_n (z := 71) dX3_take_70 rfl rfl ?_
    refine go_iload_n (z := 72) dX3_take_71 rfl rfl ?_
    refine go_callV (z := 75) (t := 3) [.int x] dX3_take_72 rfl mlX3_takeInWork vX3_52 ⟨by decide, rfl⟩ hRd rfl rfl (by decide) (cat_i cat_nil) (by simp) (by decide) (by first | decide | omega) (by first | decide | omega) (c_takeInWork hR hyd hy20 (by omega)) ?_
    intro v n2 i2 r2 hp
    obtain ⟨p1, p2, p3, p4, p5, p6⟩ := hp
    cases hq : rstep (L' ++ [y], d, 3) x with
    | none =>
      rw [p6 hq]
      exact go_zret dX3_take_75 rfl (congrArg Value.int (by decide)) ⟨p1, p2, p3, p4, fun s' h2 => absurd (h2.symm.trans hq) (by simp), fun _ => rfl⟩
    | some s1 =>
      rw [(p5 s1 hq).1]
      refine go_zret dX3_take_75 rfl (congrArg Value.int (by decide)) ⟨p1, p2, p3, p4, fun s' h2 => ⟨rfl, (p5 s' h2).2⟩, fun h2 => absurd (h2.symm.trans hq) (by simp)⟩
  · subst due
    rw [if_neg (by decide), if_neg (by decide), if_neg (by decide), if_neg (by decide)] at hs
    refine go_tabOut (z := 76) dX3_take_4 (by decide) rfl ?_
    refine go_aload_n (z := 77) dX3_take_76 rfl rfl ?_
    refine go_iload_n (z := 78) dX3_take_77 rfl rfl ?_
    refine go_callV (z := 81) (t := 3) [.int x] dX3_take_78 rfl mlX3_takeAfter vX3_55 ⟨by decide, rfl⟩ hRd rfl rfl (by decide) (cat_i cat_nil) (by simp) (by decide) (by first | decide | omega) (by first | decide | omega) (c_rdAfter hR (Or.inr rfl) (by omega)) ?_
    intro v n2 i2 r2 hp
    obtain ⟨p1, p2, p3, p4, p5⟩ := hp
    have p3 : OutR n0 Rd i r i2 r2 := by rw [p2]; exact p3
    cases hq : rAfter (L, d, 4) x with
    | none =>
      rw [p5 hq]
      exact go_zret dX3_take_81 rfl (congrArg Value.int (by decide)) (take_of hR p1 p3 (fun s' h2 => absurd (h2.symm.trans (hs.trans hq)) (by simp)) (fun _ => rfl) p2)
    | some s1 =>
      rw [(p4 s1 hq).1]
      refine go_zret dX3_take_81 rfl (congrArg Value.int (by decide)) (take_of hR p1 p3 (fun s' h2 => ?_) (fun h2 => absurd (h2.symm.trans (hs.trans hq)) (by simp)) p2)
      have e : s' = s1 := Option.some.inj (h2.symm.trans (hs.trans hq))
      rw [p1, p2, e]
      exact ⟨rfl, (p4 s1 hq).2⟩
/-- reading the signs from place p on -/
def rgo (tx : Nat → Int32) (s : RS) : Nat → Nat → Sum Nat RS
  | _, 0 => .inr s
  | p, c + 1 => match rstep s (tx p) with
    | none => .inl p
    | some s1 => rgo tx s1 (p + 1) c
def RdQ (G : GG) (n0 Rd : Nat) (o : Sum Nat RS) (len : Nat) (n : Nat) (i : IP) (r : RP) : QP := fun v n' i' r' => n ≤ n' ∧ n' ≤ n0 + 60 ∧ OutR n0 Rd i r i' r' ∧ RdL G n' Rd r' ∧ (∀ p, o = .inl p → p < len ∧ v = some (.int (nI p))) ∧ (∀ s, o = .inr s → (¬ (s.2.1 = 0 ∧ (s.2.2 = 3 ∨ s.2.2 = 4)) → v = some (.int (nI len))) ∧ (s.2.1 = 0 ∧ (s.2.2 = 3 ∨ s.2.2 = 4) → v = some (.int (-1)) ∧ RdRep G n0 Rd s n' i' r' ∧ RInv s len))
theorem c_rdEnd {Tx len p : Nat} {s : RS} {o : List (Option Value)} (hRd : Ok G n Rd 3) (hR : RdRep G n0 Rd s n i r) (hI : RInv s len) (hl : len ≤ 60) (hn : n ≤ n0 + 60) (ho : o = [some (.ref Rd), some (.ref Tx), some (.int (nI len)), some (.int (nI p))]) : Go l G mX3_read 0 0 0 66 o [] n i r (RdQ G n0 Rd (.inr s) len n i r) := by
  subst ho
  obtain ⟨L, d, due⟩ := s
  have f3 : i Rd 3 = nI d := hR.2.2.2.2.1.2.1
  have f4 : i Rd 4 = nI due := hR.2.2.2.2.1.2.2.1
  have hD : due ≤ 4 := by
    have := hI.2.2
    dsimp only at this
    omega
  have hd0 : d ≤ 100 := by
    have h3 := hI.2.2
    have hmc : mL L ≤ L.length := hI.1.2.2.2.2.2.2.2.2.2.2.2.2
    dsimp only at h3
    omega
  have bad : ¬ (d = 0 ∧ (due = 3 ∨ due = 4)) → RdQ G n0 Rd (.inr (L, d, due)) len n i r (some (.int (nI len))) n i r := by
    intro hb
    refine ⟨Nat.le_refl _, hn, OutR.rf, hR.2.1, fun p hp => (by cases hp), fun s1 hs1 => ?_⟩
    have e := Sum.inr.inj hs1
    subst e
    exact ⟨fun _ => rfl, fun h => absurd h hb⟩
  refine go_aload_n (z := 67) dX3_read_66 rfl rfl ?_
  refine go_getI (z := 70) dX3_read_67 rfl fX3_24 (by assumption) rfl ?_
  rw [f3]
  refine go_if_ne (z := 93) (z2 := 73) dX3_read_70 rfl (by decide) (fun h => ?_) (fun h => ?_)
  · refine go_iload_n (z := 94) dX3_read_93 rfl rfl ?_
    exact go_iret dX3_read_94 rfl (bad (fun q => h (by rw [q.1]; rfl)))
  have hd : d = 0 := (nI_eq (b := 0) (by omega) (by omega)).mp h
  refine go_aload_n (z := 74) dX3_read_73 rfl rfl ?_
  refine go_getI (z := 77) dX3_read_74 rfl fX3_27 (by assumption) rfl ?_
  refine go_iconst (z := 78) (v := 3) dX3_read_77 rfl (by decide) ?_
  rw [f4]
  have good : due = 3 ∨ due = 4 → Go l G mX3_read 0 0 0 89 [some (.ref Rd), some (.ref Tx), some (.int (nI len)), some (.int (nI p))] [] n i r (RdQ G n0 Rd (.inr (L, d, due)) len n i r) := by
    intro hdu
    refine go_iconst (z := 90) (v := (-1)) dX3_read_89 rfl (by decide) ?_
    refine go_goto (z := 94) dX3_read_90 (by decide) ?_
    refine go_iret dX3_read_94 rfl ⟨Nat.le_refl _, hn, OutR.rf, hR.2.1, fun p hp => (by cases hp), fun s1 hs1 => ?_⟩
    have e := Sum.inr.inj hs1
    subst e
    exact ⟨fun h => absurd ⟨hd, hdu⟩ h, fun _ => ⟨rfl, hR, hI⟩⟩
  refine go_icmp_eq (z := 89) (z2 := 81) dX3_read_78 rfl (by decide) (fun h => ?_) (fun h => ?_)
  · exact good (Or.inl ((nI_eq (b := 3) (by omega) (by omega)).mp h))
  refine go_aload_n (z := 82) dX3_read_81 rfl rfl ?_
  refine go_getI (z := 85) dX3_read_82 rfl fX3_27 (by assumption) rfl ?_
  refine go_iconst (z := 86) (v := 4) dX3_read_85 rfl (by decide) ?_
  rw [f4]
  refine go_icmp_ne (z := 93) (z2 := 89) dX3_read_86 rfl (by decide) (fun h2 => ?_) (fun h2 => ?_)
  · refine go_iload_n (z := 94) dX3_read_93 rfl rfl ?_
    exact go_iret dX3_read_94 rfl (bad (fun q => by
      rcases q.2 with e | e
      · exact h (by rw [e]; rfl)
      · exact h2 (by rw [e]; rfl)))
  · exact good (Or.inr ((nI_eq (b := 4) (by omega) (by omega)).mp h2))
theorem c_rdLoop {Tx len : Nat} (hT : OkA G n Tx 8 60) (hl : len ≤ 60) (c : Nat) : ∀ (p : Nat) (s : RS) (n : Nat) (i : IP) (r : RP), p + c = len → RdRep G n0 Rd s n i r → RInv s p → n ≤ n0 + p → Tx < n0 → Tx ≠ Rd → Tx ≠ Rd + 1 → Tx ≠ Rd + 2 → OkA G n Tx 8 60 → Go l G mX3_read 4 c (7 * c) 37 [some (.ref Rd), some (.ref Tx), some (.int (nI len)), some (.int (nI p))] [] n i r (RdQ G n0 Rd (rgo (i Tx) s p c) len n i r) := by
  clear hT
  induction c with
  | zero =>
    intro p s n i r hp hR hI hn t1 t2 t3 t4 hT
    have hpl : p = len := by omega
    subst hpl
    refine go_iload_n (z := 38) dX3_read_37 rfl rfl ?_
    refine go_iload_n (z := 39) dX3_read_38 rfl rfl ?_
    refine go_icmp_ge (z := 66) (z2 := 42) dX3_read_39 rfl (by decide) (fun _ => ?_) (fun h => absurd (Int32.le_refl _) h)
    exact go_less (c_rdEnd (Tx := Tx) (p := p) hR.2.1.1 hR hI hl (by omega) rfl) (by omega) (by omega) (by omega)
  | succ c ih =>
    intro p s n i r hp hR hI hn t1 t2 t3 t4 hT
    have hRd := hR.2.1.1
    refine go_iload_n (z := 38) dX3_read_37 rfl rfl ?_
    refine go_iload_n (z := 39) dX3_read_38 rfl rfl ?_
    refine go_icmp_ge (z := 66) (z2 := 42) dX3_read_39 rfl (by decide) (fun h => absurd ((nI_leI (by omega) (by omega)).mp h) (by omega)) (fun _ => ?_)
    refine go_iload_n (z := 43) dX3_read_42 rfl rfl ?_
    refine go_aload_n (z := 44) dX3_read_43 rfl rfl ?_
    refine go_alen (z := 45) hT (by decide) dX3_read_44 rfl ?_
    refine go_icmp_ge (z := 66) (z2 := 48) dX3_read_45 rfl (by decide) (fun h => absurd ((nI_leI (b := p) (by omega) (by omega)).mp h) (by omega)) (fun _ => ?_)
    refine go_aload_n (z := 49) dX3_read_48 rfl rfl ?_
    refine go_aload_n (z := 50) dX3_read_49 rfl rfl ?_
    refine go_iload_n (z := 51) dX3_read_50 rfl rfl ?_
    refine go_cald (z := 52) p hT (by decide) rfl (by omega) dX3_read_51 rfl ?_
    refine go_callV (z := 55) (t := 3) [.int (i Tx p)] dX3_read_52 rfl mlX3_take vX3_42 ⟨by decide, rfl⟩ hRd rfl rfl (by decide) (cat_i cat_nil) (by simp) (by decide) (by first | decide | omega) (by first | decide | omega) (c_take hR hI (by omega)) ?_
    intro v n2 i2 r2 ⟨p1, p2, p3, p4, p5, p6⟩
    cases hq : rstep s (i Tx p) with
    | none =>
      rw [p6 hq]
      refine go_if_ne (z := 60) (z2 := 58) dX3_read_55 rfl (by decide) (fun h => absurd rfl h) (fun _ => ?_)
      refine go_iload_n (z := 59) dX3_read_58 rfl rfl ?_
      refine go_iret dX3_read_59 rfl ⟨p1, by omega, p3, p4, fun q hq1 => ?_, fun q hq1 => ?_⟩
      · have e : rgo (i Tx) s p (c + 1) = .inl p := by
          show (match rstep s (i Tx p) with | none => Sum.inl p | some s1 => rgo (i Tx) s1 (p + 1) c) = _
          rw [hq]
        rw [e] at hq1
        cases hq1
        exact ⟨by omega, rfl⟩
      · have e : rgo (i Tx) s p (c + 1) = .inl p := by
          show (match rstep s (i Tx p) with | none => Sum.inl p | some s1 => rgo (i Tx) s1 (p + 1) c) = _
          rw [hq]
        rw [e] at hq1
        cases hq1
    | some s1 =>
      obtain ⟨g1, g2⟩ := p5 s1 hq
      rw [g1]
      refine go_if_ne (z := 60) (z2 := 58) dX3_read_55 rfl (by decide) (fun _ => ?_) (fun h => absurd h (by decide))
      refine go_iinc (z := 63) dX3_read_60 rfl rfl (nI_1 p) (by decide) ?_
      refine go_goto (z := 37) dX3_read_63 (by decide) ?_
      have e : rgo (i Tx) s p (c + 1) = rgo (i2 Tx) s1 (p + 1) c := by
        rw [(p3 Tx t1 t2 t3 t4).1]
        show (match rstep s (i Tx p) with | none => Sum.inl p | some s1 => rgo (i Tx) s1 (p + 1) c) = _
        rw [hq]
      rw [e]
      refine go_post (go_less (ih (p + 1) s1 n2 i2 r2 (by omega) g2 (rstep_inv hI hq) (by omega) t1 t2 t3 t4 ⟨hT.1, by have := hT.2.1; omega, hT.2.2⟩) (by omega) (by omega) (by omega)) ?_
      intro v n3 i3 r3 ⟨z1, z2, z3, z4, z5, z6⟩
      exact ⟨by omega, z2, p3.tr z3, z4, z5, z6⟩
theorem rinv_0 : RInv ([], 0, 0) 0 := ⟨fi_0, fun y hy => (by cases hy), Or.inl ⟨rfl, Nat.zero_le _, Nat.zero_le _⟩⟩
theorem c_read {Tx len : Nat} (hL : RdL G n Rd r) (htag : ∀ a, n ≤ a → (G.2.1 a).1 = 0) (hG : G.1 ≤ n) (hl : len ≤ 60) (hT : OkA G n Tx 8 60) : Go l G mX3_read 4 60 420 0 (lentry [.ref Rd, .ref Tx, .int (nI len)] 4) [] n i r (RdQ G n Rd (rgo (i Tx) ([], 0, 0) 0 len) len n i r) := by
  have hRd := hL.1
  obtain ⟨-, hh1, hh2, e0, e2⟩ := hL
  have t1 : Tx ≠ Rd := by
    intro q
    have h := hRd.2.2
    rw [← q, hT.2.2] at h
    exact absurd h (by decide)
  have t2 : Tx ≠ Rd + 1 := by
    intro q
    have h := hh1.2.2
    rw [← q, hT.2.2] at h
    exact absurd h (by decide)
  have t3 : Tx ≠ Rd + 2 := by
    intro q
    have h := hh2.2.2
    rw [← q, hT.2.2] at h
    exact absurd h (by decide)
  refine go_aload_n (z := 1) dX3_read_0 rfl rfl ?_
  refine go_iconst (z := 2) (v := 0) dX3_read_1 rfl (by decide) ?_
  refine go_putI (z := 5) dX3_read_2 rfl fX3_20 (by assumption) rfl (Or.inl rfl) rfl ?_
  refine go_aload_n (z := 6) dX3_read_5 rfl rfl ?_
  refine go_iconst (z := 7) (v := 0) dX3_read_6 rfl (by decide) ?_
  refine go_putI (z := 10) dX3_read_7 rfl fX3_24 (by assumption) rfl (Or.inl rfl) rfl ?_
  refine go_aload_n (z := 11) dX3_read_10 rfl rfl ?_
  refine go_iconst (z := 12) (v := 0) dX3_read_11 rfl (by decide) ?_
  refine go_putI (z := 15) dX3_read_12 rfl fX3_27 (by assumption) rfl (Or.inl rfl) rfl ?_
  refine go_aload_n (z := 16) dX3_read_15 rfl rfl ?_
  refine go_iconst (z := 17) (v := 0) dX3_read_16 rfl (by decide) ?_
  refine go_putI (z := 20) dX3_read_17 rfl fX3_30 (by assumption) rfl (Or.inl rfl) rfl ?_
  refine go_aload_n (z := 21) dX3_read_20 rfl rfl ?_
  refine go_iconst (z := 22) (v := 0) dX3_read_21 rfl (by decide) ?_
  refine go_putI (z := 25) dX3_read_22 rfl fX3_33 (by assumption) rfl (Or.inl rfl) rfl ?_
  refine go_aload_n (z := 26) dX3_read_25 rfl rfl ?_
  refine go_iconst (z := 27) (v := 0) dX3_read_26 rfl (by decide) ?_
  refine go_putI (z := 30) dX3_read_27 rfl fX3_36 (by assumption) rfl (Or.inl rfl) rfl ?_
  refine go_aload_n (z := 31) dX3_read_30 rfl rfl ?_
  refine go_iconst (z := 32) (v := 0) dX3_read_31 rfl (by decide) ?_
  refine go_putI (z := 35) dX3_read_32 rfl fX3_39 (by assumption) rfl (Or.inl rfl) rfl ?_
  refine go_iconst (z := 36) (v := 0) dX3_read_35 rfl (by decide) ?_
  refine go_istore_n (z := 37) dX3_read_36 rfl (by decide) ?_
  have hi : ∀ a k, a ≠ Rd → (ups (ups (ups (ups (ups (ups (ups i Rd 1 0) Rd 3 0) Rd 4 0) Rd 5 0) Rd 6 0) Rd 7 0) Rd 8 0) a k = i a k := by
    intro a k ha
    rw [ups_a ha, ups_a ha, ups_a ha, ups_a ha, ups_a ha, ups_a ha, ups_a ha]
  have hR : RdRep G n Rd ([], 0, 0) n (ups (ups (ups (ups (ups (ups (ups i Rd 1 0) Rd 3 0) Rd 4 0) Rd 5 0) Rd 6 0) Rd 7 0) Rd 8 0) r := by
    refine ⟨rfl, ⟨hRd, hh1, hh2, e0, e2⟩, htag, hG, ⟨?_, ?_, ?_, ?_, ?_, ?_, ?_⟩, fun k a hk => ?_, fun e he => ?_, fun q y hy => ?_⟩
    · rw [ups_k (by decide), ups_k (by decide), ups_k (by decide), ups_k (by decide), ups_k (by decide), ups_k (by decide), ups_s]; rfl
    · rw [ups_k (by decide), ups_k (by decide), ups_k (by decide), ups_k (by decide), ups_k (by decide), ups_s]; rfl
    · rw [ups_k (by decide), ups_k (by decide), ups_k (by decide), ups_k (by decide), ups_s]; rfl
    · rw [ups_k (by decide), ups_k (by decide), ups_k (by decide), ups_s]; rfl
    · rw [ups_k (by decide), ups_k (by decide), ups_s]; rfl
    · rw [ups_k (by decide), ups_s]; rfl
    · rw [ups_s]; rfl
    · exact absurd hk (by show ¬ ([] : List Nat)[k]? = some a; simp)
    · exact absurd he (by show ¬ e < 0; omega)
    · exact absurd hy (by simp)
  have hlp := c_rdLoop (l := l) hT hl len 0 ([], 0, 0) n _ r (Nat.zero_add _) hR rinv_0 (by omega) hT.2.1 t1 t2 t3 hT
  refine go_less (go_post hlp ?_) (by omega) (by omega) (by omega)
  intro v n3 i3 r3 ⟨z1, z2, z3, z4, z5, z6⟩
  have hTx : (ups (ups (ups (ups (ups (ups (ups i Rd 1 0) Rd 3 0) Rd 4 0) Rd 5 0) Rd 6 0) Rd 7 0) Rd 8 0) Tx = i Tx := funext (fun k => hi Tx k t1)
  rw [hTx] at z5 z6
  exact ⟨z1, z2, fun a a1 a2 a3 a4 => ⟨(z3 a a1 a2 a3 a4).1.trans (funext (fun k => hi a k a2)), (z3 a a1 a2 a3 a4).2⟩, z4, z5, z6⟩
end READ3
