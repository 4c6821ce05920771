theorem Inv.bcongr {E : EE} {Gd : Nat → Prop} {T B : Nat} {b b' : Nat → Nat} {m : MS} (hI : Inv E Gd T B b m) (h : ∀ q, q < 6 → b' q = b q) : Inv E Gd T B b' m := by
  obtain ⟨i1, i2, i3, i4, i5, i6, i7, i8⟩ := hI
  exact ⟨i1, i2, i3, i4, i5, i6, fun g hg => by rw [h g hg]; exact i7 g hg, i8⟩
theorem Inv.lt141 {E : EE} {Gd : Nat → Prop} {T B : Nat} {b : Nat → Nat} {m : MS} (hI : Inv E Gd T B b m) (hE : EOk E Gd) (hB : B ≤ T) : m.2.2.2.2.length < 141 := by
  have h1 := hI.cap hE hB
  have h2 := hI.2.2.2.2.1
  unfold mAll at h2
  omega
theorem Inv.workN {E : EE} {Gd : Nat → Prop} {T : Nat} {m : MS} (hI : Inv E Gd (T + 1) (T + 1) (fun _ => T) m) (q : Nat) : q ≤ 6 → Inv E Gd (T + 1) (T + 1) (fun h => if h < q then T + 1 else T) (mWorkN q m) := by
  induction q with
  | zero => intro _; exact hI
  | succ q ih =>
    intro hq
    have h1 := (ih (by omega)).workB (h := q) (by omega) (by show (if q < q then T + 1 else T) + 1 = T + 1; rw [if_neg (by omega)])
    refine h1.bcongr (fun g hg => ?_)
    show (if g < q + 1 then T + 1 else T) = up1 (fun h => if h < q then T + 1 else T) q (T + 1) g
    by_cases e : g = q
    · rw [e, up1_s, if_pos (by omega)]
    · rw [up1_n e]
      by_cases e2 : g < q
      · rw [if_pos (by omega), if_pos e2]
      · rw [if_neg (by omega), if_neg e2]
/-- a tick has room and keeps the invariant -/
theorem Inv.tick {E : EE} {Gd : Nat → Prop} {T : Nat} {m : MS} (hI : Inv E Gd T T (fun _ => T) m) (hE : EOk E Gd) (hT : T < 1001000) : TickOk E Gd m ∧ Inv E Gd (T + 1) (T + 1) (fun _ => T + 1) (mTick E m) := by
  have h1 : Inv E Gd (T + 1) T (fun _ => T) (sZ m 0 (m.1 0 + 1)) := by
    obtain ⟨⟨z0, z1, z2, z3, z4, z5⟩, i2, i3, i4, i5, i6, i7, i8⟩ := hI
    exact ⟨⟨by show m.1 0 + 1 = nI (T + 1); rw [z0]; exact nI_1 T, by omega, z2, z3, z4, z5⟩, i2, i3, fun x hx => by
      obtain ⟨q1, a, a1, a2, a3⟩ := i4 x hx
      exact ⟨q1, a, a1, by omega, a3⟩, i5, i6, i7, i8⟩
  obtain ⟨h2, h3⟩ := h1.arrs hE (by omega)
  refine ⟨⟨h2, fun q hq => (h3.workN q (by omega)).lt141 hE (Nat.le_refl _)⟩, ?_⟩
  show Inv E Gd (T + 1) (T + 1) (fun _ => T + 1) (mWorks (mArrive E (sZ m 0 (m.1 0 + 1))))
  rw [mWorks_N]
  exact (h3.workN 6 (Nat.le_refl _)).bcongr (fun g hg => by show T + 1 = if g < 6 then T + 1 else T; rw [if_pos hg])
/-- so do ticks -/
theorem Inv.ticks {E : EE} {Gd : Nat → Prop} (hE : EOk E Gd) (c : Nat) : ∀ {T : Nat} {m : MS}, Inv E Gd T T (fun _ => T) m → T + c ≤ 1001000 → (∀ q, q < c → TickOk E Gd (mTicks E q m)) ∧ Inv E Gd (T + c) (T + c) (fun _ => T + c) (mTicks E c m) := by
  induction c with
  | zero => intro T m hI _; exact ⟨fun q hq => absurd hq (Nat.not_lt_zero q), hI⟩
  | succ c ih =>
    intro T m hI hT
    obtain ⟨h1, h2⟩ := hI.tick hE (by omega)
    obtain ⟨h3, h4⟩ := ih h2 (by omega)
    refine ⟨fun q hq => ?_, ?_⟩
    · cases q with
      | zero => exact h1
      | succ q => exact h3 q (by omega)
    · rw [show T + (c + 1) = T + 1 + c by omega]
      exact h4
