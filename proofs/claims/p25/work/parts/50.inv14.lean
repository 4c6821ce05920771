/-! a message dropped -/
theorem cnt_erase (p : Mg → Bool) {l : List Mg} : ∀ {k : Nat} {x : Mg}, l[k]? = some x → (l.eraseIdx k).countP p + (if p x = true then 1 else 0) = l.countP p := by
  induction l with
  | nil => intro k x h; cases h
  | cons y l ih =>
    intro k x h
    cases k with
    | zero =>
      have e : y = x := Option.some.inj h
      subst e
      show l.countP p + _ = _
      rw [List.countP_cons]
    | succ k =>
      have := ih (k := k) (x := x) h
      show (y :: l.eraseIdx k).countP p + _ = _
      rw [List.countP_cons, List.countP_cons]
      omega
theorem sum_erase (E : EE) {l : List Mg} : ∀ {k : Nat} {x : Mg}, l[k]? = some x → sumM E (l.eraseIdx k) + sz E x.2 = sumM E l := by
  induction l with
  | nil => intro k x h; cases h
  | cons y l ih =>
    intro k x h
    have ec : ∀ (y : Mg) l, sumM E (y :: l) = sz E y.2 + sumM E l := fun y l => by unfold sumM; rw [List.map_cons, List.sum_cons]
    cases k with
    | zero =>
      have e : y = x := Option.some.inj h
      subst e
      show sumM E l + _ = _
      rw [ec]
      omega
    | succ k =>
      have := ih (k := k) (x := x) h
      show sumM E (y :: l.eraseIdx k) + _ = _
      rw [ec, ec]
      omega
/-- one message less; the ask or grant that it was may count as lost -/
theorem Inv.less {E : EE} {Gd : Nat → Prop} {T B : Nat} {b : Nat → Nat} {m m' : MS} {k : Nat} {x : Mg} (hI : Inv E Gd T B b m) (hx : m.2.2.2.2[k]? = some x) (h0 : m'.1 0 = m.1 0 ∧ m'.1 1 = m.1 1 ∧ m'.1 2 = m.1 2) (hw : m'.2.1 = m.2.1) (hq : m'.2.2.2.1 = m.2.2.2.1) (hms : m'.2.2.2.2 = m.2.2.2.2.eraseIdx k) (hag : ∀ h, h < 6 → m'.2.2.1 h 4 = m.2.2.1 h 4 ∧ n01 (m'.2.2.1 h 5) ≤ n01 (m.2.2.1 h 5) + (if agOf h x = true then 1 else 0)) : Inv E Gd T B b m' := by
  obtain ⟨⟨z0, z1, z2, z3, z4, z5⟩, i2, i3, i4, i5, i6, i7, i8⟩ := hI
  have hsub : (m.2.2.2.2.eraseIdx k).Sublist m.2.2.2.2 := List.eraseIdx_sublist _ _
  refine ⟨⟨by rw [h0.1]; exact z0, z1, by rw [h0.2.1]; exact z2, by rw [h0.2.1]; exact z3, by rw [h0.2.2]; exact z4, by rw [h0.2.2]; exact z5⟩, by rw [hw]; exact i2, by rw [hq]; exact i3, fun y hy => i4 y (by rw [hms] at hy; exact hsub.mem hy), ?_, fun h hh => ?_, fun h hh => ⟨(i7 h hh).1, fun d hd => by rw [hms]; exact Nat.le_trans hsub.countP_le ((i7 h hh).2 d hd)⟩, by rw [hms]; exact i8.sublist hsub⟩
  · have h1 := sum_erase E hx
    unfold mAll at i5 ⊢
    rw [hq, hms]
    omega
  · have h1 := cnt_erase (agOf h) hx
    have h2 := i6 h hh
    obtain ⟨h3, h4⟩ := hag h hh
    rw [hms, h3]
    omega
theorem Inv.drop {E : EE} {Gd : Nat → Prop} {T B : Nat} {b : Nat → Nat} {m : MS} {k : Nat} {x : Mg} (hI : Inv E Gd T B b m) (hx : m.2.2.2.2[k]? = some x) : Inv E Gd T B b (mDrop k x m) := by
  have hM := (hI.2.2.2.1 x (List.mem_of_getElem? hx)).1
  obtain ⟨f, t, hf, ht7, e1, e2, hk⟩ := hM
  have c1 : (x.1 1).toNatClampNeg = f := by rw [e1]; exact nI_clamp (by omega)
  have c2 : (x.1 2).toNatClampNeg = t := by rw [e2]; exact nI_clamp (by omega)
  have one : ∀ q, agOf q x = true → ∀ h, h < 6 → ups m.2.2.1 q 5 1 h 4 = m.2.2.1 h 4 ∧ n01 (ups m.2.2.1 q 5 1 h 5) ≤ n01 (m.2.2.1 h 5) + (if agOf h x = true then 1 else 0) := by
    intro q hq h hh
    refine ⟨ups_k (by decide), ?_⟩
    by_cases e : h = q
    · subst e
      rw [ups_s, if_pos hq]
      have := n01_le 1
      omega
    · rw [ups_a e]; omega
  have non : ∀ h, h < 6 → m.2.2.1 h 4 = m.2.2.1 h 4 ∧ n01 (m.2.2.1 h 5) ≤ n01 (m.2.2.1 h 5) + (if agOf h x = true then 1 else 0) := fun h hh => ⟨rfl, by omega⟩
  unfold mDrop
  rw [c1, c2]
  dsimp only
  rcases hk with ⟨k0, -⟩ | ⟨k1, -, -⟩ | ⟨k2, -, -⟩ | ⟨k3, -, -⟩
  · rw [k0, if_neg (by decide), if_neg (by decide)]
    exact hI.less hx ⟨rfl, rfl, rfl⟩ rfl rfl rfl non
  · rw [k1, if_pos rfl, if_neg (by decide)]
    exact hI.less hx ⟨rfl, rfl, rfl⟩ rfl rfl rfl (one f (decide_eq_true (Or.inl ⟨k1, e1⟩)))
  · rw [k2, if_pos rfl, if_neg (by decide)]
    exact hI.less hx ⟨rfl, rfl, rfl⟩ rfl rfl rfl (one t (decide_eq_true (Or.inr ⟨k2, e2⟩)))
  · rw [k3, if_neg (by decide), if_neg (by decide)]
    exact hI.less hx ⟨rfl, rfl, rfl⟩ rfl rfl rfl non
