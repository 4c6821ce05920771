/-! what was lost made good -/
theorem Inv.good0 {E : EE} {Gd : Nat → Prop} {T B : Nat} {b : Nat → Nat} {m : MS} (hI : Inv E Gd T B b m) : Inv E Gd T B b (mGood0 m) := Inv.upd hI ⟨rfl, rfl, rfl⟩ rfl hI.2.2.1 rfl hI.2.2.2.2.1 hI.2.2.2.2.2.1
theorem Inv.goodH {E : EE} {Gd : Nat → Prop} {T B : Nat} {b : Nat → Nat} {m : MS} (hI : Inv E Gd T B b m) (hE : EOk E Gd) (hB : B ≤ T) {h : Nat} (hh : h < 6) : Inv E Gd T B b (mGoodH E h m) := by
  unfold mGoodH
  split
  · exact hI
  · rename_i h5
    refine Inv.send (m := sH (sH m h 5 0) h 4 0) (Inv.upd hI ⟨rfl, rfl, rfl⟩ rfl hI.2.2.1 rfl hI.2.2.2.2.1 (fun g hg => ?_)) hE hB hh
    have q := hI.2.2.2.2.2.1 g hg
    show m.2.2.2.2.countP (agOf g) + n01 (ups (ups m.2.2.1 h 5 0) h 4 0 g 5) ≤ n01 (ups (ups m.2.2.1 h 5 0) h 4 0 g 4)
    by_cases e : g = h
    · subst e
      have h1 : n01 (m.2.2.1 g 5) = 1 := if_neg h5
      have h2 := n01_le (m.2.2.1 g 4)
      rw [ups_s, ups_k (show (5 : Nat) ≠ 4 by decide), ups_s]
      show _ + 0 ≤ 0
      omega
    · rw [ups_a e, ups_a e, ups_a e, ups_a e]; exact q
theorem Inv.goodN {E : EE} {Gd : Nat → Prop} {T B : Nat} {b : Nat → Nat} {m : MS} (hI : Inv E Gd T B b m) (hE : EOk E Gd) (hB : B ≤ T) (q : Nat) : q ≤ 6 → Inv E Gd T B b (mGoodN E q m) := by
  induction q with
  | zero => intro _; exact hI
  | succ q ih => intro hq; exact (ih (by omega)).goodH hE hB (by omega)
theorem Inv.room {E : EE} {Gd : Nat → Prop} {T B : Nat} {b : Nat → Nat} {m : MS} (hI : Inv E Gd T B b m) (hE : EOk E Gd) (hB : B ≤ T) {h : Nat} (hh : h < 6) : m.2.2.2.2.length + (m.2.2.2.1 h).length ≤ 141 := by
  have c1 := hI.cap hE hB
  have h2 := hI.2.2.2.2.1
  have h3 : (m.2.2.2.1 h).length ≤ sumQ E m.2.2.2.1 6 := by
    rw [sumQ_s6]
    exact Nat.le_trans (hE.line (hI.2.2.1 h hh)) (s6_one (f := fun h => ((m.2.2.2.1 h).map E.2.2.1).sum) hh)
  unfold mAll at h2
  omega
theorem Inv.good {E : EE} {Gd : Nat → Prop} {T B : Nat} {b : Nat → Nat} {m : MS} (hI : Inv E Gd T B b m) (hE : EOk E Gd) (hB : B ≤ T) : GoodOk E Gd (mGood0 m) ∧ Inv E Gd T B b (mGood E m) := by
  have h0 := hI.good0
  refine ⟨fun q hq => ?_, ?_⟩
  · have h1 := h0.goodN hE hB q (by omega)
    exact ⟨h1.room hE hB hq, h1.2.2.1 q hq⟩
  · rw [mGood_N]
    exact h0.goodN hE hB 6 (Nat.le_refl _)
