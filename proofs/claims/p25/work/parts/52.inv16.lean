/-! more errands, the same for those that there were -/
theorem MgOk.mono {Gd Gd' : Nat → Prop} {x : Mg} (h : MgOk Gd x) (hg : ∀ a, Gd a → Gd' a) : MgOk Gd' x := by
  obtain ⟨f, t, h1, h2, h3, h4, hk⟩ := h
  refine ⟨f, t, h1, h2, h3, h4, ?_⟩
  rcases hk with ⟨k0, k1, a, k2, k3⟩ | hk | hk | hk
  · exact Or.inl ⟨k0, k1, a, k2, hg a k3⟩
  · exact Or.inr (Or.inl hk)
  · exact Or.inr (Or.inr (Or.inl hk))
  · exact Or.inr (Or.inr (Or.inr hk))
theorem Inv.sameAll {E E' : EE} {Gd : Nat → Prop} {T B : Nat} {b : Nat → Nat} {m : MS} (hI : Inv E Gd T B b m) (he : ∀ a, Gd a → E'.2.2.1 a = E.2.2.1 a) : mAll E' m = mAll E m := by
  have hq : ∀ h, h < 6 → (m.2.2.2.1 h).map E'.2.2.1 = (m.2.2.2.1 h).map E.2.2.1 := fun h hh => List.map_congr_left (fun a ha => he a (hI.2.2.1 h hh a ha))
  have hm : m.2.2.2.2.map (fun x => sz E' x.2) = m.2.2.2.2.map (fun x => sz E x.2) := List.map_congr_left (fun x hx => by
    obtain ⟨f, t, -, -, -, -, hk⟩ := (hI.2.2.2.1 x hx).1
    rcases hk with ⟨-, -, a, k2, k3⟩ | ⟨-, -, k2⟩ | ⟨-, -, k2⟩ | ⟨-, -, k2⟩
    · rw [k2]; exact he a k3
    · rw [k2]; rfl
    · rw [k2]; rfl
    · rw [k2]; rfl)
  unfold mAll sumM
  rw [hm, sumQ_s6, sumQ_s6]
  unfold s6
  dsimp only
  rw [hq 0 (by omega), hq 1 (by omega), hq 2 (by omega), hq 3 (by omega), hq 4 (by omega), hq 5 (by omega)]
theorem Inv.mono {E E' : EE} {Gd Gd' : Nat → Prop} {T B : Nat} {b : Nat → Nat} {m : MS} (hI : Inv E Gd T B b m) (hg : ∀ a, Gd a → Gd' a) (he : ∀ a, Gd a → E'.2.2.1 a = E.2.2.1 a) : Inv E' Gd' T B b m := by
  have ha := hI.sameAll he
  obtain ⟨i1, i2, i3, i4, i5, i6, i7, i8⟩ := hI
  exact ⟨i1, i2, fun h hh e hm => hg e (i3 h hh e hm), fun x hx => ⟨(i4 x hx).1.mono hg, (i4 x hx).2⟩, by rw [ha]; exact i5, i6, i7, i8⟩
