/-! errands sent out by the bank -/
theorem Inv.mintE {E : EE} {Gd : Nat → Prop} {T B : Nat} {b : Nat → Nat} {m : MS} (hI : Inv E Gd T B b m) (hE : EOk E Gd) (hB : B ≤ T) {a : Nat} (ha : Gd a) (hall : mAll E m + E.2.2.1 a ≤ 80) : Inv E Gd T B b (mPost (mMint (sZ m 10 (m.1 10 + 1))) 0 6 (E.1 a) (coin m) (some a)) ∧ mAll E (mPost (mMint (sZ m 10 (m.1 10 + 1))) 0 6 (E.1 a) (coin m) (some a)) = mAll E m + E.2.2.1 a := by
  have hEa := (hE a ha).1
  have hat := hI.at (f := 6) (t := E.1 a) (by omega) (by omega) hB
  have eM : (mPost (mMint (sZ m 10 (m.1 10 + 1))) 0 6 (E.1 a) (coin m) (some a)).2.2.2.2 = ins (mg 0 (nI 6) (nI (E.1 a)) (coin m) (m.1 0 + m.2.1 (6 * 7 + E.1 a)), some a) m.2.2.2.2 := rfl
  have eA : mAll E (mPost (mMint (sZ m 10 (m.1 10 + 1))) 0 6 (E.1 a) (coin m) (some a)) = mAll E m + E.2.2.1 a := by
    unfold mAll
    rw [eM, sumM_ins]
    show sumQ E m.2.2.2.1 6 + (E.2.2.1 a + sumM E m.2.2.2.2) = _
    omega
  refine ⟨?_, eA⟩
  obtain ⟨i1, i2, i3, i4, i5, i6, i7, i8⟩ := hI
  refine ⟨i1, i2, i3, ?_, by rw [eA]; exact hall, fun h hh => ?_, fun h hh => ⟨(i7 h hh).1, fun d hd => ?_⟩, ?_⟩
  · intro x hx
    rw [eM] at hx
    rcases List.mem_cons.mp ((ins_perm _ m.2.2.2.2).mem_iff.mp hx) with e | e
    · rw [e]; exact ⟨⟨6, E.1 a, by omega, by omega, rfl, rfl, Or.inl ⟨rfl, hEa, a, rfl, ha⟩⟩, hat⟩
    · exact i4 x e
  · have en : agOf h (mg 0 (nI 6) (nI (E.1 a)) (coin m) (m.1 0 + m.2.1 (6 * 7 + E.1 a)), some a) = false := decide_eq_false (fun c => by
      rcases c with c | c
      · exact absurd c.1 (show ¬ (0 : Int32) = 1 by decide)
      · exact absurd c.1 (show ¬ (0 : Int32) = 2 by decide))
    rw [eM, cnt_ins, en]
    exact i6 h hh
  · have en : hmOf h (b h + d) (mg 0 (nI 6) (nI (E.1 a)) (coin m) (m.1 0 + m.2.1 (6 * 7 + E.1 a)), some a) = false := decide_eq_false (fun c => absurd c.1 (show ¬ (0 : Int32) = 3 by decide))
    rw [eM, cnt_ins, en]
    exact (i7 h hh).2 d hd
  · rw [eM]; exact ins_srt i8
theorem Inv.launch {E : EE} {Gd : Nat → Prop} {T B : Nat} {b : Nat → Nat} (hE : EOk E Gd) (hB : B ≤ T) (q : List Nat) : ∀ {m : MS}, Inv E Gd T B b m → (∀ a ∈ q, Gd a) → mAll E m + (q.map E.2.2.1).sum ≤ 80 → Inv E Gd T B b (mLaunch E q m) := by
  induction q with
  | nil => intro m hI _ _; exact hI
  | cons a q ih =>
    intro m hI hg hall
    rw [List.map_cons, List.sum_cons] at hall
    obtain ⟨h1, h2⟩ := hI.mintE hE hB (hg a List.mem_cons_self) (by omega)
    exact ih h1 (fun c hc => hg c (List.mem_cons_of_mem _ hc)) (by
      have : mAll E (mPost (mMint (sZ m 10 (m.1 10 + 1))) 0 6 (E.1 a) (coin m) (some a)) = mAll E m + E.2.2.1 a := h2
      omega)
