/-! a house's work keeps it; its homes' bound moves on by a tick -/
theorem Inv.far {E : EE} {Gd : Nat → Prop} {T B : Nat} {b : Nat → Nat} {m : MS} (hI : Inv E Gd T B b m) (h : Nat) : m.2.2.2.2.countP (hmOf h (T + 9)) = 0 := by
  rw [List.countP_eq_zero]
  intro x hx hc
  obtain ⟨a, a1, a2, a3⟩ := (hI.2.2.2.1 x hx).2
  have hc := (of_decide_eq_true hc).2.2
  have hT := hI.1.2.1
  rw [a3] at hc
  have := (nI_ltI (by omega) (by omega)).mp hc
  omega
theorem Inv.next {E : EE} {Gd : Nat → Prop} {T B : Nat} {b : Nat → Nat} {m : MS} (hI : Inv E Gd T B b m) {h : Nat} (hh : h < 6) (hb : b h + 1 = T) : ∀ d, d ≤ 9 → m.2.2.2.2.countP (hmOf h (T + d)) ≤ 9 - d - 1 := by
  intro d hd
  by_cases e : d = 9
  · subst e; rw [hI.far h]; exact Nat.zero_le _
  · have := (hI.2.2.2.2.2.2.1 h hh).2 (d + 1) (by omega)
    rw [show b h + (d + 1) = T + d by omega] at this
    omega
theorem Inv.sameH {E : EE} {Gd : Nat → Prop} {T B : Nat} {b : Nat → Nat} {m : MS} (hI : Inv E Gd T B b m) {h k : Nat} {x : Int32} (hk : k ≠ 4 ∧ k ≠ 5) : Inv E Gd T B b (sH m h k x) := Inv.upd hI ⟨rfl, rfl, rfl⟩ rfl hI.2.2.1 rfl hI.2.2.2.2.1 (fun g hg => by
  show m.2.2.2.2.countP (agOf g) + n01 (ups m.2.2.1 h k x g 5) ≤ n01 (ups m.2.2.1 h k x g 4)
  rw [ups_k (Ne.symm hk.2), ups_k (Ne.symm hk.1)]
  exact hI.2.2.2.2.2.1 g hg)
theorem Inv.up {E : EE} {Gd : Nat → Prop} {T : Nat} {b : Nat → Nat} {m : MS} (hI : Inv E Gd T T b m) {h : Nat} (hh : h < 6) (hb : b h + 1 = T) : Inv E Gd T T (up1 b h T) m := by
  have hn := hI.next hh hb
  obtain ⟨i1, i2, i3, i4, i5, i6, i7, i8⟩ := hI
  refine ⟨i1, i2, i3, i4, i5, i6, fun g hg => ?_, i8⟩
  by_cases e : g = h
  · subst e
    rw [up1_s]
    exact ⟨Nat.le_refl _, fun d hd => by have := hn d hd; omega⟩
  · rw [up1_n e]; exact i7 g hg
theorem Inv.home {E : EE} {Gd : Nat → Prop} {T : Nat} {b : Nat → Nat} {m : MS} (hI : Inv E Gd T T b m) {h : Nat} (hh : h < 6) (hb : b h + 1 = T) (x : Int32) : Inv E Gd T T (up1 b h T) (mPost m 3 h 6 x none) := by
  have hn := hI.next hh hb
  obtain ⟨a, a1, a2, a3⟩ := hI.at (f := h) (t := 6) (by omega) (by omega) (Nat.le_refl _)
  have hT := hI.1.2.1
  refine Inv.post (y := (mg 3 (nI h) (nI 6) x (m.1 0 + m.2.1 (h * 7 + 6)), none)) hI ⟨rfl, rfl, rfl⟩ rfl hI.2.2.1 rfl ⟨h, 6, by omega, by omega, rfl, rfl, Or.inr (Or.inr (Or.inr ⟨rfl, hh, rfl⟩))⟩ ⟨a, a1, a2, a3⟩ (Nat.le_refl _) (fun g hg => ?_) (fun g hg => ?_)
  · have en : agOf g (mg 3 (nI h) (nI 6) x (m.1 0 + m.2.1 (h * 7 + 6)), none) = false := decide_eq_false (fun c => by
      rcases c with c | c
      · exact absurd c.1 (show ¬ (3 : Int32) = 1 by decide)
      · exact absurd c.1 (show ¬ (3 : Int32) = 2 by decide))
    rw [en]
    exact hI.2.2.2.2.2.1 g hg
  · by_cases e : g = h
    · subst e
      rw [up1_s]
      refine ⟨Nat.le_refl _, fun d hd => ?_⟩
      have h1 := hn d hd
      by_cases e9 : d = 9
      · subst e9
        have en : hmOf g (T + 9) (mg 3 (nI g) (nI 6) x (m.1 0 + m.2.1 (g * 7 + 6)), none) = false := decide_eq_false (fun c => by
          have c2 : nI (T + 9) < m.1 0 + m.2.1 (g * 7 + 6) := c.2.2
          rw [a3] at c2
          have := (nI_ltI (by omega) (by omega)).mp c2
          omega)
        rw [en, hI.far g]
        exact Nat.le_refl _
      · split <;> omega
    · rw [up1_n e]
      refine ⟨(hI.2.2.2.2.2.2.1 g hg).1, fun d hd => ?_⟩
      have en : hmOf g (b g + d) (mg 3 (nI h) (nI 6) x (m.1 0 + m.2.1 (h * 7 + 6)), none) = false := decide_eq_false (fun c => e ((nI_eq (a := h) (b := g) (by omega) (by omega)).mp c.2.1).symm)
      rw [en]
      exact (hI.2.2.2.2.2.2.1 g hg).2 d hd
theorem Inv.workB {E : EE} {Gd : Nat → Prop} {T : Nat} {b : Nat → Nat} {m : MS} (hI : Inv E Gd T T b m) {h : Nat} (hh : h < 6) (hb : b h + 1 = T) : Inv E Gd T T (up1 b h T) (mWorkB h m) := by
  have go : ∀ m, Inv E Gd T T b m → Inv E Gd T T (up1 b h T) (if 0 < m.2.2.1 h 2 ∨ 0 < m.2.2.1 h 3 ∨ ¬ m.2.2.1 h 4 = 0 then m else if 0 < (sH (sH m h 0 0) h 9 (m.2.2.1 h 9 + 1)).2.2.1 h 1 then sH (mPost (sH (sH m h 0 0) h 9 (m.2.2.1 h 9 + 1)) 3 h 6 ((sH (sH m h 0 0) h 9 (m.2.2.1 h 9 + 1)).2.2.1 h 1) none) h 1 0 else sH (sH m h 0 0) h 9 (m.2.2.1 h 9 + 1)) := by
    intro m hI
    have i2 : Inv E Gd T T b (sH (sH m h 0 0) h 9 (m.2.2.1 h 9 + 1)) := (hI.sameH (by decide)).sameH (by decide)
    split
    · exact hI.up hh hb
    · split
      · exact (i2.home hh hb _).sameH (by decide)
      · exact i2.up hh hb
  unfold mWorkB
  split
  · exact hI.up hh hb
  · unfold mWork
    dsimp only
    split
    · exact go _ (hI.sameH (by decide))
    · exact go _ hI
