def lev (d due : Nat) : Nat := if due = 0 then d else d + 1
theorem RdRep.ctl {G : GG} {n0 Rd : Nat} {L : List RN} {d due d' due' : Nat} {n : Nat} {i i' : IP} {r : RP} (h : RdRep G n0 Rd (L, d, due) n i r) (h3 : i' Rd 3 = nI d') (h4 : i' Rd 4 = nI due') (ho : ∀ a k, ¬ (a = Rd ∧ (k = 3 ∨ k = 4)) → i' a k = i a k) (hl : lev d' due' ≤ lev d due) : RdRep G n0 Rd (L, d', due') n i' r := by
  have hlt := h.lt
  obtain ⟨a1, a2, a3, a4, ⟨f1, f3, f4, f5, f6, f7, f8⟩, a6, a7, a8⟩ := h
  refine ⟨a1, a2, a3, a4, ⟨?_, h3, h4, ?_, ?_, ?_, ?_⟩, a6, fun e he => a7 e (Nat.lt_of_lt_of_le he hl), fun q y hy => ?_⟩
  · rw [ho Rd 1 (by omega)]; exact f1
  · rw [ho Rd 5 (by omega)]; exact f5
  · rw [ho Rd 6 (by omega)]; exact f6
  · rw [ho Rd 7 (by omega)]; exact f7
  · rw [ho Rd 8 (by omega)]; exact f8
  · obtain ⟨b0, b1, b2, b3, b4, b5⟩ := a8 q y hy
    exact ⟨by rw [ho _ 0 (by omega)]; exact b0, by rw [ho _ 1 (by omega)]; exact b1, by rw [ho _ 2 (by omega)]; exact b2, by rw [ho _ 3 (by omega)]; exact b3, b4, b5⟩
theorem swk_snoc (L : List RN) (y : RN) : swk (L ++ [y]) = swk L + y.2.1 := by unfold swk; rw [List.map_append, List.sum_append]; simp
theorem mxd_setW (L : List RN) (y : RN) (w : Nat) : mxd (L ++ [(y.1, w, y.2.2)]) = mxd (L ++ [y]) := by rw [mxd_snoc, mxd_snoc]
theorem RdRep.digit {G : GG} {n0 Rd : Nat} {L : List RN} {y : RN} {d due w : Nat} {n : Nat} {i : IP} {r : RP} (h : RdRep G n0 Rd (L ++ [y], d, due) n i r) (hw : y.2.1 ≤ w) : RdRep G n0 Rd (L ++ [(y.1, w, y.2.2)], d, due) n (ups (ups i Rd 6 (i Rd 6 + (nI w - nI y.2.1))) (n0 + L.length) 1 (nI w)) r := by
  have hlt := h.lt
  obtain ⟨a1, a2, a3, a4, ⟨f1, f3, f4, f5, f6, f7, f8⟩, a6, a7, a8⟩ := h
  have ef : fbL (L ++ [(y.1, w, y.2.2)]) = fbL (L ++ [y]) := by rw [fbL_snoc, fbL_snoc]
  have el : (L ++ [(y.1, w, y.2.2)]).length = (L ++ [y]).length := by simp
  have hne : Rd ≠ n0 + L.length := by omega
  refine ⟨by show n = n0 + (L ++ [(y.1, w, y.2.2)]).length; rw [el]; exact a1, a2, a3, a4, ⟨?_, ?_, ?_, ?_, ?_, ?_, ?_⟩, ?_, ?_, fun q z hz => ?_⟩
  · show ups _ _ _ _ Rd 1 = nI (fbL (L ++ [(y.1, w, y.2.2)])).1.length
    rw [ef, ups_a hne, ups_k (by decide)]; exact f1
  · rw [ups_a hne, ups_k (by decide)]; exact f3
  · rw [ups_a hne, ups_k (by decide)]; exact f4
  · show ups _ _ _ _ Rd 5 = nI (L ++ [(y.1, w, y.2.2)]).length
    rw [el, ups_a hne, ups_k (by decide)]; exact f5
  · have f6 : i Rd 6 = nI (swk (L ++ [y])) := f6
    show ups _ _ _ _ Rd 6 = nI (swk (L ++ [(y.1, w, y.2.2)]))
    rw [ups_a hne, ups_s, f6, swk_snoc, swk_snoc, pk_sub hw, nI_add]
    congr 1
    show swk L + y.2.1 + (w - y.2.1) = swk L + w
    omega
  · show ups _ _ _ _ Rd 7 = nI (mxd (L ++ [(y.1, w, y.2.2)]))
    rw [mxd_setW, ups_a hne, ups_k (by decide)]; exact f7
  · show ups _ _ _ _ Rd 8 = nI (mxP (fbL (L ++ [(y.1, w, y.2.2)])) (L ++ [(y.1, w, y.2.2)]).length)
    rw [ef, el, ups_a hne, ups_k (by decide)]; exact f8
  · show ∀ (k a : Nat), (fbL (L ++ [(y.1, w, y.2.2)])).1[k]? = some a → _
    rw [ef]; exact a6
  · show ∀ e, e < _ → r (Rd + 2) e = some (n0 + (fbL (L ++ [(y.1, w, y.2.2)])).2.2.2 e)
    rw [ef]; exact a7
  · show Node n0 (fbL (L ++ [(y.1, w, y.2.2)])) _ r q z
    rw [ef]
    have hz : (L ++ [(y.1, w, y.2.2)])[q]? = some z := hz
    by_cases hq : q < L.length
    · rw [List.getElem?_append_left hq] at hz
      obtain ⟨b0, b1, b2, b3, b4, b5⟩ := a8 q z (by show (L ++ [y])[q]? = some z; rw [List.getElem?_append_left hq]; exact hz)
      have g1 : n0 + q ≠ n0 + L.length := by omega
      have g2 : n0 + q ≠ Rd := by omega
      exact ⟨by rw [ups_a g1, ups_a g2]; exact b0, by rw [ups_a g1, ups_a g2]; exact b1, by rw [ups_a g1, ups_a g2]; exact b2, by rw [ups_a g1, ups_a g2]; exact b3, b4, b5⟩
    · rw [List.getElem?_append_right (by omega)] at hz
      have hz1 : q - L.length < 1 := (List.getElem?_eq_some_iff.mp hz).1
      have hq2 : q = L.length := by omega
      subst hq2
      rw [Nat.sub_self] at hz
      have hz2 : (y.1, w, y.2.2) = z := Option.some.inj hz
      subst hz2
      obtain ⟨b0, b1, b2, b3, b4, b5⟩ := a8 L.length y (by show (L ++ [y])[L.length]? = some y; rw [List.getElem?_append_right (Nat.le_refl _), Nat.sub_self]; rfl)
      have g2 : n0 + L.length ≠ Rd := by omega
      exact ⟨by rw [ups_k (by decide), ups_a g2]; exact b0, ups_s, by rw [ups_k (by decide), ups_a g2]; exact b2, by rw [ups_k (by decide), ups_a g2]; exact b3, b4, b5⟩
/-- what a sign does to the reader -/
def TakeQ (G : GG) (n0 Rd : Nat) (s : RS) (x : Int32) (n : Nat) (i : IP) (r : RP) : QP := fun v n' i' r' => n ≤ n' ∧ n' ≤ n + 1 ∧ OutR n0 Rd i r i' r' ∧ RdL G n' Rd r' ∧ (∀ s', rstep s x = some s' → v = some (.int 1) ∧ RdRep G n0 Rd s' n' i' r') ∧ (rstep s x = none → v = some (.int 0))
section READ3
variable {l : Launch} {G : GG} {n : Nat} {i : IP} {r : RP} {Rd n0 : Nat}
theorem outR_rd {n0 Rd : Nat} {i : IP} {r : RP} {k : Nat} {x : Int32} : OutR n0 Rd i r (ups i Rd k x) r := fun _ _ h _ _ => ⟨ups_row h, rfl⟩
theorem c_rdAfter {L : List RN} {d due : Nat} {x : Int32} (hR : RdRep G n0 Rd (L, d, due) n i r) (hdue : due = 3 ∨ due = 4) (hd : d ≤ 60) : Go l G mX3_takeAfter 0 0 0 0 (lentry [.ref Rd, .int x] 2) [] n i r (fun v n' i' r' => n' = n ∧ r' = r ∧ OutR n0 Rd i r i' r ∧ (∀ s', rAfter (L, d, due) x = some s' → v = some (.int 1) ∧ RdRep G n0 Rd s' n i' r) ∧ (rAfter (L, d, due) x = none → v = some (.int 0))) := by
  have hL := hR.2.1
  have f3 : i Rd 3 = nI d := hR.2.2.2.2.1.2.1
  have hlv : lev d due = d + 1 := by unfold lev; rw [if_neg (by omega)]
  refine go_post (c_takeAfter hL) ?_
  intro v n' i' r' ⟨p1, p2, p3⟩
  refine ⟨p1, p2, ?_⟩
  rw [f3] at p3
  have hpos : 0 < nI d ↔ 0 < d := nI_ltI (a := 0) (by omega) (by omega)
  have hz : nI d = 0 ↔ d = 0 := nI_eq (b := 0) (by omega) (by omega)
  rcases p3 with ⟨q1, q2, q3, q4⟩ | ⟨q1, q3, q4⟩
  · have q2 := hpos.mp q2
    have hA : rAfter (L, d, due) x = some (L, d - 1, 4) := by unfold rAfter; rw [if_pos ⟨q1, q2⟩]
    rw [q4]
    refine ⟨outR_rd.tr outR_rd, fun s' hs => ?_, fun hs => by rw [hA] at hs; cases hs⟩
    rw [hA] at hs
    cases hs
    refine ⟨q3, hR.ctl ?_ ?_ (fun a k hk => ?_) ?_⟩
    · rw [ups_k (by decide), ups_s]; exact pk_sub (b := 1) q2
    · rw [ups_s]; rfl
    · by_cases ha : a = Rd
      · subst ha; rw [ups_k (fun q => hk ⟨rfl, Or.inr q⟩), ups_k (fun q => hk ⟨rfl, Or.inl q⟩)]
      · rw [ups_a ha, ups_a ha]
    · rw [hlv]; unfold lev; rw [if_neg (by decide)]; omega
  · have hn1 : ¬ (x = 41 ∧ 0 < d) := fun q => q1 ⟨q.1, hpos.mpr q.2⟩
    have hA : rAfter (L, d, due) x = if (d = 0 ∧ x = 59) ∨ (¬ d = 0 ∧ x = 44) then some (L, d, 0) else none := by unfold rAfter; rw [if_neg hn1]
    rw [q4, hA]
    refine ⟨outR_rd, fun s' hs => ?_, fun hs => ?_⟩
    · split at hs
      · rename_i hc
        cases hs
        refine ⟨?_, hR.ctl ?_ ?_ (fun a k hk => ?_) ?_⟩
        · rw [q3]
          by_cases d0 : d = 0
          · rw [if_pos (hz.mpr d0)]
            rcases hc with hc | hc
            · rw [if_pos hc.2]
            · exact absurd d0 hc.1
          · rw [if_neg (fun q => d0 (hz.mp q))]
            rcases hc with hc | hc
            · exact absurd hc.1 d0
            · rw [if_pos hc.2]
        · rw [ups_k (by decide)]; exact f3
        · rw [ups_s]; rfl
        · by_cases ha : a = Rd
          · subst ha; rw [ups_k (fun q => hk ⟨rfl, Or.inr q⟩)]
          · rw [ups_a ha]
        · rw [hlv]; unfold lev; rw [if_pos rfl]; omega
      · cases hs
    · split at hs
      · cases hs
      · rename_i hc
        rw [q3]
        by_cases d0 : d = 0
        · rw [if_pos (hz.mpr d0), if_neg (fun q => hc (Or.inl ⟨d0, q⟩))]
        · rw [if_neg (fun q => d0 (hz.mp q)), if_neg (fun q => hc (Or.inr ⟨d0, q⟩))]
theorem c_rdDigit {L : List RN} {y : RN} {d : Nat} {x : Int32} (hR : RdRep G n0 Rd (L ++ [y], d, 3) n i r) (hy : y.2.2 = d) (hy20 : y.2.1 ≤ 20) (hd : d < 15) : Go l G mX3_takeDigit 0 0 0 0 (lentry [.ref Rd, .int x] 4) [] n i r (fun v n' i' r' => n' = n ∧ r' = r ∧ OutR n0 Rd i r i' r ∧ (∀ due s', rDigit (L ++ [y], d, due) x = some s' → (y.2.1 = 0 ∨ 0 < y.2.1) → v = some (.int 1) ∧ RdRep G n0 Rd s' n i' r) ∧ (∀ due, rDigit (L ++ [y], d, due) x = none → v = some (.int 0))) := by
  have hlt := hR.lt
  have hL := hR.2.1
  have f3 : i Rd 3 = nI d := hR.2.2.2.2.1.2.1
  have hn : n = n0 + (L ++ [y]).length := hR.1
  have hlat : (fbL (L ++ [y])).2.2.2 d = L.length := by rw [fbL_snoc, hy]; exact up1_s
  have hrow : r (Rd + 2) d = some (n0 + L.length) := by
    have := hR.2.2.2.2.2.2.1 d (by show d < (if (3:Nat) = 0 then d else d + 1); rw [if_neg (by decide)]; omega)
    rw [this]
    show some (n0 + (fbL (L ++ [y])).2.2.2 d) = _
    rw [hlat]
  have hok : Ok G n (n0 + L.length) 0 := ⟨by have := hR.2.2.2.1; omega, by rw [hn, List.length_append]; simp, hR.2.2.1 _ (by omega)⟩
  have hnd := hR.2.2.2.2.2.2.2 L.length y (by show (L ++ [y])[L.length]? = some y; rw [List.getElem?_append_right (Nat.le_refl _), Nat.sub_self]; rfl)
  have hw : i (n0 + L.length) 1 = nI y.2.1 := hnd.2.1
  refine go_post (c_takeDigit hL f3 hd hrow hok) ?_
  intro v n' i' r' ⟨p1, p2, p3⟩
  rw [hw] at p3
  have hlast : lastW (L ++ [y]) = y.2.1 := lastW_snoc L y
  have hcond : (48 ≤ x ∧ x ≤ 57 ∧ nI y.2.1 * 10 + (x - 48) ≤ 20) ↔ (48 ≤ x ∧ x ≤ 57 ∧ y.2.1 * 10 + (x - 48).toNatClampNeg ≤ 20) := by
    constructor
    · rintro ⟨a, b, c⟩
      obtain ⟨k, k1, k2, k3, k4, k5⟩ := dig_of (b := 57) a b (by omega)
      refine ⟨a, b, ?_⟩
      rw [k4, show nI y.2.1 * 10 = nI (y.2.1 * 10) from pk_mul y.2.1 10, nI_add] at c
      rw [k5]
      exact (nI_leI (b := 20) (by omega) (by omega)).mp c
    · rintro ⟨a, b, c⟩
      obtain ⟨k, k1, k2, k3, k4, k5⟩ := dig_of (b := 57) a b (by omega)
      refine ⟨a, b, ?_⟩
      rw [k5] at c
      rw [k4, show nI y.2.1 * 10 = nI (y.2.1 * 10) from pk_mul y.2.1 10, nI_add]
      exact (nI_leI (b := 20) (by omega) (by omega)).mpr c
  refine ⟨p1, p2, ?_⟩
  rcases p3 with ⟨q1, q2, q3, q4, q5⟩ | ⟨q1, q4, q5⟩
  · obtain ⟨-, -, c3⟩ := hcond.mp ⟨q1, q2, q3⟩
    obtain ⟨k, k1, k2, k3, k4, k5⟩ := dig_of (b := 57) q1 q2 (by omega)
    have hval : nI y.2.1 * 10 + (x - 48) = nI (y.2.1 * 10 + (x - 48).toNatClampNeg) := by
      rw [k5, k4, show nI y.2.1 * 10 = nI (y.2.1 * 10) from pk_mul y.2.1 10, nI_add]
    rw [hval] at q5
    have hD : ∀ due, rDigit (L ++ [y], d, due) x = some (L ++ [(y.1, y.2.1 * 10 + (x - 48).toNatClampNeg, y.2.2)], d, 3) := fun due => by
      unfold rDigit
      dsimp only
      rw [hlast, if_pos ⟨q1, q2, c3⟩, setW_snoc]
    refine ⟨?_, fun due s' hs _ => ?_, fun due hs => by rw [hD] at hs; cases hs⟩
    · rw [q5]
      intro a a1 a2 a3 a4
      exact ⟨by rw [ups_row (by omega), ups_row a2], rfl⟩
    · rw [hD] at hs
      cases hs
      refine ⟨q4, ?_⟩
      rw [q5]
      exact hR.digit (by omega)
  · have hn1 : ¬ (48 ≤ x ∧ x ≤ 57 ∧ y.2.1 * 10 + (x - 48).toNatClampNeg ≤ 20) := fun q => q1 (hcond.mpr q)
    have hD : ∀ due, rDigit (L ++ [y], d, due) x = none := fun due => by
      unfold rDigit
      dsimp only
      rw [hlast, if_neg hn1]
    rw [q5]
    exact ⟨OutR.rf, fun due s' hs _ => absurd ((hD due).symm.trans hs) (by simp), fun _ _ => q4⟩
end READ3
