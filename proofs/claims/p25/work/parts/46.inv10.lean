/-! A TICK -/
theorem push_eq (l : List Mg) (m : MS) : pushL l m = sM m (l ++ m.2.2.2.2) := by
  induction l with
  | nil => rfl
  | cons x l ih =>
    show hdM x (pushL l m) = _
    rw [ih]; rfl
theorem drop_past {t : Int32} {l : List Mg} (h : srt l) : ∀ y ∈ l.dropWhile (fun x => decide (x.1 4 ≤ t)), ¬ y.1 4 ≤ t := by
  induction l with
  | nil => intro y hy; cases hy
  | cons x l ih =>
    obtain ⟨h1, h2⟩ := List.pairwise_cons.mp h
    by_cases hx : x.1 4 ≤ t
    · rw [List.dropWhile_cons, if_pos (decide_eq_true hx)]
      exact ih h2
    · rw [List.dropWhile_cons, if_neg (fun q => hx (of_decide_eq_true q))]
      intro y hy hyt
      rcases List.mem_cons.mp hy with e | e
      · rw [e] at hyt; exact hx hyt
      · exact hx (Int32.le_trans (h1 y e) hyt)
theorem take_le {p : Mg → Bool} {l : List Mg} : ∀ y ∈ l.takeWhile p, p y = true := by
  induction l with
  | nil => intro y hy; cases hy
  | cons x l ih =>
    intro y hy
    rw [List.takeWhile_cons] at hy
    split at hy
    · rename_i h
      rcases List.mem_cons.mp hy with e | e
      · rw [e]; exact h
      · exact ih y e
    · cases hy
theorem Inv.arrs {E : EE} {Gd : Nat → Prop} {T B : Nat} {b : Nat → Nat} {m : MS} (hI : Inv E Gd T B b m) (hE : EOk E Gd) (hB : B ≤ T) : StepsOk E Gd (cntA (m.1 0) m.2.2.2.2) m ∧ Inv E Gd T T b (mArrive E m) := by
  have hT := hI.1.2.1
  have hz := hI.1.1
  have hm : pushL (m.2.2.2.2.takeWhile (fun x => decide (x.1 4 ≤ m.1 0))) (sM m (m.2.2.2.2.dropWhile (fun x => decide (x.1 4 ≤ m.1 0)))) = m := by
    rw [push_eq]
    show sM m (m.2.2.2.2.takeWhile (fun x => decide (x.1 4 ≤ m.1 0)) ++ m.2.2.2.2.dropWhile (fun x => decide (x.1 4 ≤ m.1 0))) = m
    rw [List.takeWhile_append_dropWhile]
    rfl
  have hd := drop_past (t := m.1 0) hI.2.2.2.2.2.2.2
  have hsub : (m.2.2.2.2.dropWhile (fun x => decide (x.1 4 ≤ m.1 0))).Sublist m.2.2.2.2 := List.dropWhile_sublist _
  have h2 : Inv E Gd T T b (sM m (m.2.2.2.2.dropWhile (fun x => decide (x.1 4 ≤ m.1 0)))) := by
    have hp := push_all E (m.2.2.2.2.takeWhile (fun x => decide (x.1 4 ≤ m.1 0))) (sM m (m.2.2.2.2.dropWhile (fun x => decide (x.1 4 ≤ m.1 0))))
    rw [hm] at hp
    obtain ⟨i1, i2, i3, i4, i5, i6, i7, i8⟩ := hI
    refine ⟨i1, i2, i3, fun x hx => ?_, by omega, fun h hh => ?_, fun h hh => ⟨by have := (i7 h hh).1; omega, fun d hd => Nat.le_trans (hsub.countP_le) ((i7 h hh).2 d hd)⟩, i8.sublist hsub⟩
    · obtain ⟨q1, a, a1, a2, a3⟩ := i4 x (hsub.mem hx)
      refine ⟨q1, a, ?_, a2, a3⟩
      have := hd x hx
      rw [a3, hz] at this
      rcases Nat.lt_or_ge T a with q | q
      · exact q
      · exact absurd ((nI_leI (by omega) (by omega)).mpr q) this
    · have q := i6 h hh
      have w : (m.2.2.2.2.dropWhile (fun x => decide (x.1 4 ≤ m.1 0))).countP (agOf h) ≤ m.2.2.2.2.countP (agOf h) := hsub.countP_le
      show (m.2.2.2.2.dropWhile (fun x => decide (x.1 4 ≤ m.1 0))).countP (agOf h) + n01 (m.2.2.1 h 5) ≤ n01 (m.2.2.1 h 4)
      omega
  have h3 := Inv.steps hE hB (m.2.2.2.2.takeWhile (fun x => decide (x.1 4 ≤ m.1 0))) (sM m (m.2.2.2.2.dropWhile (fun x => decide (x.1 4 ≤ m.1 0)))) (by rw [hm]; exact hI) (fun y hy => by
    have := take_le y hy
    rw [← hz]
    exact of_decide_eq_true this) h2
  rw [hm] at h3
  exact h3
