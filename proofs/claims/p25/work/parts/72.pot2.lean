/-! the other acts -/
section POT2
variable {E : EE} {Gd : Nat → Prop} {m : MS}
theorem pot_fin {h : Nat} (hP : PG m) (hh : h < 6) (hK : pot E m ≤ 2 ^ 30) : PG (if 0 < m.2.2.1 h 2 ∨ 0 < m.2.2.1 h 3 ∨ ¬ m.2.2.1 h 4 = 0 then m else if 0 < (sH (sH m h 0 0) h 9 (m.2.2.1 h 9 + 1)).2.2.1 h 1 then sH (mPost (sH (sH m h 0 0) h 9 (m.2.2.1 h 9 + 1)) 3 h 6 ((sH (sH m h 0 0) h 9 (m.2.2.1 h 9 + 1)).2.2.1 h 1) none) h 1 0 else sH (sH m h 0 0) h 9 (m.2.2.1 h 9 + 1)) ∧ pot E (if 0 < m.2.2.1 h 2 ∨ 0 < m.2.2.1 h 3 ∨ ¬ m.2.2.1 h 4 = 0 then m else if 0 < (sH (sH m h 0 0) h 9 (m.2.2.1 h 9 + 1)).2.2.1 h 1 then sH (mPost (sH (sH m h 0 0) h 9 (m.2.2.1 h 9 + 1)) 3 h 6 ((sH (sH m h 0 0) h 9 (m.2.2.1 h 9 + 1)).2.2.1 h 1) none) h 1 0 else sH (sH m h 0 0) h 9 (m.2.2.1 h 9 + 1)) ≤ pot E m := by
  by_cases c1 : 0 < m.2.2.1 h 2 ∨ 0 < m.2.2.1 h 3 ∨ ¬ m.2.2.1 h 4 = 0
  · rw [if_pos c1]; exact ⟨hP, Nat.le_refl _⟩
  · rw [if_neg c1]
    have hP2 : PG (sH (sH m h 0 0) h 9 (m.2.2.1 h 9 + 1)) := (hP.sH (by decide) (fun q => absurd q (by decide))).sH (by decide) (fun q => absurd q (by decide))
    have hp2 : pot E (sH (sH m h 0 0) h 9 (m.2.2.1 h 9 + 1)) = pot E m := (pot_sHo hh (by decide)).trans (pot_sHo hh (by decide))
    generalize sH (sH m h 0 0) h 9 (m.2.2.1 h 9 + 1) = m2 at hP2 hp2
    by_cases c2 : 0 < m2.2.2.1 h 1
    · rw [if_pos c2]
      have hP3 : PG (mPost m2 3 h 6 (m2.2.2.1 h 1) none) := hP2.post (hP2.1 h hh).1 (fun _ q => absurd rfl q)
      have hp3 : pot E (mPost m2 3 h 6 (m2.2.2.1 h 1) none) = pot E m2 := by
        rw [pot_post]
        show pot E m2 + (if (3 : Int32) = 3 then 0 else _) = _
        rw [if_pos rfl]
        rfl
      refine ⟨hP3.sH (by decide) (fun _ => Int32.le_refl _), ?_⟩
      have q0 := pot_sH (E := E) (m := mPost m2 3 h 6 (m2.2.2.1 h 1) none) (h := h) (k := 1) (x := 0) hh
      have h1 : hw (sH (mPost m2 3 h 6 (m2.2.2.1 h 1) none) h 1 0) h = 198 + gN (m2.2.2.1 h 2) + 65536 * n01 (m2.2.2.1 h 5) := by
        show max (gN (ups m2.2.2.1 h 1 0 h 1)) 198 + gN (ups m2.2.2.1 h 1 0 h 2) + 65536 * n01 (ups m2.2.2.1 h 1 0 h 5) = _
        rw [ups_s, ups_k (by decide), ups_k (by decide)]
        rfl
      have h2 : hw (mPost m2 3 h 6 (m2.2.2.1 h 1) none) h = max (gN (m2.2.2.1 h 1)) 198 + gN (m2.2.2.1 h 2) + 65536 * n01 (m2.2.2.1 h 5) := rfl
      rw [h1, h2] at q0
      omega
    · rw [if_neg c2]
      exact ⟨hP2, by omega⟩
theorem pot_workB {h : Nat} (hP : PG m) (hh : h < 6) (hK : pot E m ≤ 2 ^ 30) : PG (mWorkB h m) ∧ pot E (mWorkB h m) ≤ pot E m := by
  unfold mWorkB
  split
  · exact ⟨hP, Nat.le_refl _⟩
  · unfold mWork
    dsimp only
    by_cases c : 0 < m.2.2.1 h 2
    · rw [if_pos c]
      obtain ⟨g1, g2⟩ := gN_of (hP.1 h hh).2.1
      have g3 : 0 < gN (m.2.2.1 h 2) := by
        rw [g1] at c
        exact (nI_ltI (a := 0) (by omega) g2).mp c
      have g4 : m.2.2.1 h 2 - 1 = nI (gN (m.2.2.1 h 2) - 1) := by
        conv => lhs; rw [g1]
        exact pk_sub (b := 1) (by omega)
      have hP1 : PG (sH m h 2 (m.2.2.1 h 2 - 1)) := hP.sH (by decide) (fun _ => by rw [g4]; exact nI_pos' (by omega))
      have hp1 : pot E (sH m h 2 (m.2.2.1 h 2 - 1)) ≤ pot E m := by
        have q0 := pot_sH (E := E) (m := m) (h := h) (k := 2) (x := m.2.2.1 h 2 - 1) hh
        have h1 : hw (sH m h 2 (m.2.2.1 h 2 - 1)) h = max (gN (m.2.2.1 h 1)) 198 + (gN (m.2.2.1 h 2) - 1) + 65536 * n01 (m.2.2.1 h 5) := by
          show max (gN (ups m.2.2.1 h 2 (m.2.2.1 h 2 - 1) h 1)) 198 + gN (ups m.2.2.1 h 2 (m.2.2.1 h 2 - 1) h 2) + 65536 * n01 (ups m.2.2.1 h 2 (m.2.2.1 h 2 - 1) h 5) = _
          rw [ups_s, ups_k (by decide), ups_k (by decide), g4, gN_n (by omega)]
        have h2 : hw m h = max (gN (m.2.2.1 h 1)) 198 + gN (m.2.2.1 h 2) + 65536 * n01 (m.2.2.1 h 5) := rfl
        rw [h1, h2] at q0
        omega
      obtain ⟨r1, r2⟩ := pot_fin (E := E) hP1 hh (by omega)
      exact ⟨r1, Nat.le_trans r2 hp1⟩
    · rw [if_neg c]
      exact pot_fin hP hh hK
theorem pot_workN (hP : PG m) (hK : pot E m ≤ 2 ^ 30) (q : Nat) : q ≤ 6 → PG (mWorkN q m) ∧ pot E (mWorkN q m) ≤ pot E m := by
  induction q with
  | zero => intro _; exact ⟨hP, Nat.le_refl _⟩
  | succ q ih =>
    intro hq
    obtain ⟨i1, i2⟩ := ih (by omega)
    obtain ⟨j1, j2⟩ := pot_workB (E := E) (h := q) i1 (by omega) (by omega)
    exact ⟨j1, Nat.le_trans j2 i2⟩
theorem Inv.stepsP {T B : Nat} {b : Nat → Nat} (hE : EOk E Gd) (hW : EW E Gd) (hB : B ≤ T) (l : List Mg) : ∀ (m : MS), Inv E Gd T B b (pushL l m) → (∀ y ∈ l, y.1 4 ≤ nI T) → Inv E Gd T T b m → PG (pushL l m) → pot E (pushL l m) ≤ 2 ^ 30 → PG (mSteps E l.length (pushL l m)) ∧ pot E (mSteps E l.length (pushL l m)) ≤ pot E (pushL l m) := by
  induction l with
  | nil => intro m _ _ _ h3 _; exact ⟨h3, Nat.le_refl _⟩
  | cons x l ih =>
    intro m h1 hl h2 h3 h4
    have h1 : Inv E Gd T B b (hdM x (pushL l m)) := h1
    have hx := (h1.2.2.2.1 x List.mem_cons_self).1
    obtain ⟨s1, s2, s3, s4, s5⟩ := push_same l m
    have ht := h1.tl
    have hst : mStep E (hdM x (pushL l m)) = pushL l (mArr E x m) := by
      rw [hd_step hE hx ht.2.2.1 (ht.past (hl x List.mem_cons_self))]
      exact arr_push hE hx h2.2.2.1 l (fun y hy => h2.past (hl y (List.mem_cons_of_mem _ hy)))
    have harr : mArr E x (pushL l m) = pushL l (mArr E x m) := arr_push hE hx h2.2.2.1 l (fun y hy => h2.past (hl y (List.mem_cons_of_mem _ hy)))
    have hal : sz E x.2 + mAll E (pushL l m) ≤ 80 := by rw [← all_hd]; exact h1.2.2.2.2.1
    have hp := push_all E l m
    have i1 : Inv E Gd T B b (pushL l (mArr E x m)) := by rw [← harr]; exact h1.arr hE hB
    have i2 : Inv E Gd T T b (mArr E x m) := h2.arr2 hE (Nat.le_refl _) hx (by omega) (fun h hh => by
      have q := h1.hg6 h hh
      rw [s3, s5, List.countP_append] at q
      omega)
    obtain ⟨-, -, z1, z2, z3, z4⟩ := ht.1
    obtain ⟨a1, a2⟩ := pot_arr hE hW (x := x) (m := pushL l m) h3 h4 hx ht.2.2.1 z1 z2 z3 z4
    rw [harr] at a1 a2
    have h4' : pot E (hdM x (pushL l m)) ≤ 2 ^ 30 := h4
    obtain ⟨k1, k2⟩ := ih (mArr E x m) i1 (fun y hy => hl y (List.mem_cons_of_mem _ hy)) i2 a1 (by omega)
    have e : mSteps E (x :: l).length (pushL (x :: l) m) = mSteps E l.length (mStep E (hdM x (pushL l m))) := rfl
    rw [e, hst]
    exact ⟨k1, Nat.le_trans k2 a2⟩
/-- a tick, in parts: what arrives, what is left -/
theorem Inv.cut {T B : Nat} {b : Nat → Nat} (hI : Inv E Gd T B b m) (hB : B ≤ T) : ∃ l m0, m = pushL l m0 ∧ l.length = cntA (m.1 0) m.2.2.2.2 ∧ (∀ y ∈ l, y.1 4 ≤ nI T) ∧ Inv E Gd T T b m0 := by
  have hT := hI.1.2.1
  have hz := hI.1.1
  have hm : pushL (m.2.2.2.2.takeWhile (fun x => decide (x.1 4 ≤ m.1 0))) (sM m (m.2.2.2.2.dropWhile (fun x => decide (x.1 4 ≤ m.1 0)))) = m := by
    rw [push_eq]
    show sM m (m.2.2.2.2.takeWhile (fun x => decide (x.1 4 ≤ m.1 0)) ++ m.2.2.2.2.dropWhile (fun x => decide (x.1 4 ≤ m.1 0))) = m
    rw [List.takeWhile_append_dropWhile]
    rfl
  have hd := drop_past (t := m.1 0) hI.2.2.2.2.2.2.2
  have hsub : (m.2.2.2.2.dropWhile (fun x => decide (x.1 4 ≤ m.1 0))).Sublist m.2.2.2.2 := List.dropWhile_sublist _
  refine ⟨_, _, hm.symm, rfl, fun y hy => ?_, ?_⟩
  · have := take_le y hy
    rw [← hz]
    exact of_decide_eq_true this
  · have hp := push_all E (m.2.2.2.2.takeWhile (fun x => decide (x.1 4 ≤ m.1 0))) (sM m (m.2.2.2.2.dropWhile (fun x => decide (x.1 4 ≤ m.1 0))))
    rw [hm] at hp
    obtain ⟨i1, i2, i3, i4, i5, i6, i7, i8⟩ := hI
    refine ⟨i1, i2, i3, fun x hx => ?_, by omega, fun h hh => ?_, fun h hh => ⟨by have := (i7 h hh).1; omega, fun d hd => Nat.le_trans (hsub.countP_le) ((i7 h hh).2 d hd)⟩, i8.sublist hsub⟩
    · obtain ⟨q1, a, a1, a2, a3⟩ := i4 x (hsub.mem hx)
      refine ⟨q1, a, ?_, a2, a3⟩
      have := hd x hx
      rw [a3, hz] at this
      rcases Nat.lt_or_ge T a with q | q
      · exact q
      · exact absurd ((nI_leI (by omega) (by omega)).mpr q) this
    · have q := i6 h hh
      have w : (m.2.2.2.2.dropWhile (fun x => decide (x.1 4 ≤ m.1 0))).countP (agOf h) ≤ m.2.2.2.2.countP (agOf h) := hsub.countP_le
      show (m.2.2.2.2.dropWhile (fun x => decide (x.1 4 ≤ m.1 0))).countP (agOf h) + n01 (m.2.2.1 h 5) ≤ n01 (m.2.2.1 h 4)
      omega
theorem Inv.next1 {T : Nat} (hI : Inv E Gd T T (fun _ => T) m) (hT : T < 1001000) : Inv E Gd (T + 1) T (fun _ => T) (sZ m 0 (m.1 0 + 1)) := by
  obtain ⟨⟨z0, z1, z2, z3, z4, z5⟩, i2, i3, i4, i5, i6, i7, i8⟩ := hI
  exact ⟨⟨by show m.1 0 + 1 = nI (T + 1); rw [z0]; exact nI_1 T, by omega, z2, z3, z4, z5⟩, i2, i3, fun x hx => by
    obtain ⟨q1, a, a1, a2, a3⟩ := i4 x hx
    exact ⟨q1, a, a1, by omega, a3⟩, i5, i6, i7, i8⟩
theorem Inv.tickP {T K : Nat} (hI : Inv E Gd T T (fun _ => T) m) (hE : EOk E Gd) (hW : EW E Gd) (hT : T < 1001000) (hP : PI E K m) (hK : K ≤ 2 ^ 30) : (∀ q, q ≤ 6 → PG (mWorkN q (mArrive E (sZ m 0 (m.1 0 + 1))))) ∧ PI E K (mTick E m) := by
  have h1 := hI.next1 hT
  have hP1 : PG (sZ m 0 (m.1 0 + 1)) := hP.1
  have hp1 : pot E (sZ m 0 (m.1 0 + 1)) ≤ K := hP.2
  obtain ⟨l, m0, e1, e2, e3, e4⟩ := h1.cut (by omega)
  have ha : mArrive E (sZ m 0 (m.1 0 + 1)) = mSteps E l.length (sZ m 0 (m.1 0 + 1)) := by rw [e2]; rfl
  rw [e1] at h1 hP1 hp1
  obtain ⟨r1, r2⟩ := Inv.stepsP hE hW (by omega) l m0 h1 e3 e4 hP1 (by omega)
  rw [← e1, ← ha] at r1 r2
  rw [← e1] at hp1
  have hN : ∀ q, q ≤ 6 → PG (mWorkN q (mArrive E (sZ m 0 (m.1 0 + 1)))) ∧ _ := fun q hq => pot_workN (E := E) r1 (by omega) q hq
  refine ⟨fun q hq => (hN q hq).1, ?_⟩
  show PI E K (mWorks (mArrive E (sZ m 0 (m.1 0 + 1))))
  rw [mWorks_N]
  exact ⟨(hN 6 (Nat.le_refl _)).1, by have := (hN 6 (Nat.le_refl _)).2; omega⟩
theorem Inv.ticksP (hE : EOk E Gd) (hW : EW E Gd) {K : Nat} (hK : K ≤ 2 ^ 30) (c : Nat) : ∀ {T : Nat} {m : MS}, Inv E Gd T T (fun _ => T) m → T + c ≤ 1001000 → PI E K m → PI E K (mTicks E c m) := by
  induction c with
  | zero => intro T m _ _ h; exact h
  | succ c ih =>
    intro T m hI hT hP
    exact ih (hI.tick hE (by omega)).2 (by omega) (hI.tickP hE hW (by omega) hP hK).2
end POT2
