/-! the settings keep it; the first state -/
theorem Inv.setW {E : EE} {Gd : Nat → Prop} {T B : Nat} {b : Nat → Nat} {m : MS} (hI : Inv E Gd T B b m) {k w : Nat} (h1 : 1 ≤ w) (h2 : w ≤ 9) : Inv E Gd T B b (sW m k (nI w)) := by
  obtain ⟨i1, i2, i3⟩ := hI
  refine ⟨i1, fun q hq => ?_, i3⟩
  show ∃ w', 1 ≤ w' ∧ w' ≤ 9 ∧ up1 m.2.1 k (nI w) q = nI w'
  by_cases e : q = k
  · rw [e, up1_s]; exact ⟨w, h1, h2, rfl⟩
  · rw [up1_n e]; exact i2 q hq
theorem Inv.setP {E : EE} {Gd : Nat → Prop} {T B : Nat} {b : Nat → Nat} {m : MS} (hI : Inv E Gd T B b m) {x : Int32} (h1 : 2 ≤ x) (h2 : x ≤ 16) : Inv E Gd T B b (sZ m 1 x) := by
  obtain ⟨⟨z0, z1, z2, z3, z4, z5⟩, i2⟩ := hI
  exact ⟨⟨z0, z1, h1, h2, z4, z5⟩, i2⟩
theorem Inv.setL {E : EE} {Gd : Nat → Prop} {T B : Nat} {b : Nat → Nat} {m : MS} (hI : Inv E Gd T B b m) {x : Int32} (h1 : 1 ≤ x) (h2 : x ≤ 99) : Inv E Gd T B b (sZ m 2 x) := by
  obtain ⟨⟨z0, z1, z2, z3, z4, z5⟩, i2⟩ := hI
  exact ⟨⟨z0, z1, z2, z3, h1, h2⟩, i2⟩
