/-! what was lost made good -/
theorem Inv.good0 {E : EE} {Gd : Nat → Prop} {T B : Nat} {b : Nat → Nat} {m : MS} (hI : Inv E Gd T B b m) : Inv E Gd T B b (mGood0 m) := Inv.upd hI ⟨rfl, rfl, rfl⟩ rfl hI.2.2.1 rfl hI.2.2.2.2.1 hI.2.2.2.2.2.1
theorem Inv.goodH {E : EE} {Gd : Nat → Prop} {T B : Nat} {b : Nat → Nat} {m : MS} (hI : Inv E Gd T B b m) (hE : EOk E Gd) (hB : B ≤ T) {h : Nat} (hh : h < 6) : Inv E Gd T B b (mGoodH E h m) := by
  unfold mGoodH
  split
  · exact hI
  · rename_i h5
    refine Inv.send (m := sH (sH m h 5 0) h 4 0) (Inv.upd hI ⟨rfl, rfl, rfl⟩ rfl hI.2.2.1 rfl hI.2.2.2.2.1 (fun g hg => ?_)) hE hB hh
    have q := hI.2.2.2.2.2.1 g hg
    show m.2.2.2.2.countP (agOf g) + n01 (ups (ups m.2.2.1 h 5 0) h 4 0 g 5) ≤ n01 (ups (ups m.2.2.1 h 5 0) h 4 0 g 4)
    by_cases e : g = h
    · subst e
      have h1 : n01 (m.2.2.1 g 5) = 1 := if_neg h5
      have h2 := n01_le (m.2.2.1 g 4)
      rw [ups_s, ups_k (show (5 : Nat) ≠ 4 by decide), ups_s]
      show _ + 0 ≤ 0
      omega
    · rw [ups_a e, ups_a e, ups_a e, ups_a e]; exact q
