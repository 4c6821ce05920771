/-! THE INVARIANT: what keeps the capacities. Messages are put in after all that arrive as soon -/
theorem insPos_spec (A : Nat → Int32) (y : Int32) (n : Nat) : insPos A y n ≤ n ∧ (∀ c, insPos A y n ≤ c → c < n → ¬ A c ≤ y) ∧ (insPos A y n = 0 ∨ A (insPos A y n - 1) ≤ y) := by
  induction n with
  | zero => exact ⟨Nat.le_refl _, fun c _ h => by omega, Or.inl rfl⟩
  | succ n ih =>
    show (if A n ≤ y then n + 1 else insPos A y n) ≤ n + 1 ∧ (∀ c, (if A n ≤ y then n + 1 else insPos A y n) ≤ c → c < n + 1 → ¬ A c ≤ y) ∧ ((if A n ≤ y then n + 1 else insPos A y n) = 0 ∨ A ((if A n ≤ y then n + 1 else insPos A y n) - 1) ≤ y)
    by_cases h : A n ≤ y
    · rw [if_pos h]
      exact ⟨Nat.le_refl _, fun c h1 h2 => by omega, Or.inr h⟩
    · rw [if_neg h]
      obtain ⟨h1, h2, h3⟩ := ih
      refine ⟨by omega, fun c c1 c2 => ?_, h3⟩
      by_cases e : c = n
      · rw [e]; exact h
      · exact h2 c c1 (by omega)
theorem ins_perm (x : Mg) (ms : List Mg) : List.Perm (ins x ms) (x :: ms) := by
  unfold ins
  refine List.Perm.trans List.perm_middle ?_
  rw [List.take_append_drop]
theorem insPos_congr {A B : Nat → Int32} {y : Int32} (n : Nat) (h : ∀ c, c < n → A c = B c) : insPos A y n = insPos B y n := by
  induction n with
  | zero => rfl
  | succ n ih =>
    show (if A n ≤ y then n + 1 else insPos A y n) = (if B n ≤ y then n + 1 else insPos B y n)
    rw [h n (by omega), ih (fun c hc => h c (by omega))]
theorem insPos_cons {z : Mg} {y : Int32} {l : List Mg} (hz : z.1 4 ≤ y) (n : Nat) : insPos (lA (z :: l)) y (n + 1) = insPos (lA l) y n + 1 := by
  induction n with
  | zero =>
    show (if lA (z :: l) 0 ≤ y then 1 else 0) = 1
    exact if_pos hz
  | succ n ih =>
    have e : lA (z :: l) (n + 1) = lA l n := rfl
    show (if lA (z :: l) (n + 1) ≤ y then n + 2 else insPos (lA (z :: l)) y (n + 1)) = (if lA l n ≤ y then n + 1 else insPos (lA l) y n) + 1
    rw [e, ih]
    split <;> rfl
/-- one that arrives no sooner than the first does not pass it -/
theorem ins_cons {x z : Mg} {l : List Mg} (hz : z.1 4 ≤ x.1 4) : ins x (z :: l) = z :: ins x l := by
  unfold ins
  rw [List.length_cons, insPos_cons hz]
  rfl
abbrev srt (l : List Mg) : Prop := l.Pairwise (fun x y => x.1 4 ≤ y.1 4)
theorem ins_srt {x : Mg} {l : List Mg} (h : srt l) : srt (ins x l) := by
  induction l with
  | nil => exact List.pairwise_singleton _ _
  | cons z t ih =>
    obtain ⟨h1, h2⟩ := List.pairwise_cons.mp h
    by_cases hz : z.1 4 ≤ x.1 4
    · rw [ins_cons hz]
      refine List.pairwise_cons.mpr ⟨fun y hy => ?_, ih h2⟩
      rcases List.mem_cons.mp ((ins_perm x t).mem_iff.mp hy) with e | e
      · rw [e]; exact hz
      · exact h1 y e
    · have hx : x.1 4 ≤ z.1 4 := Int32.le_of_lt (Int32.not_le.mp hz)
      have hp : insPos (lA (z :: t)) (x.1 4) (z :: t).length = 0 := by
        obtain ⟨p1, p2, p3⟩ := insPos_spec (lA (z :: t)) (x.1 4) (z :: t).length
        rcases p3 with e | e
        · exact e
        · exfalso
          generalize hk : insPos (lA (z :: t)) (x.1 4) (z :: t).length - 1 = k at e
          cases k with
          | zero => exact hz e
          | succ k =>
            have hlt : k < t.length := by rw [List.length_cons] at p1; rw [List.length_cons] at hk; omega
            have e2 : lA (z :: t) (k + 1) = t[k].1 4 := by
              show (match (z :: t)[k + 1]? with | some x => x.1 4 | none => 0) = _
              rw [List.getElem?_cons_succ, List.getElem?_eq_getElem hlt]
            rw [e2] at e
            exact hz (Int32.le_trans (h1 _ (List.getElem_mem hlt)) e)
      unfold ins
      rw [hp]
      show srt (x :: z :: t)
      refine List.pairwise_cons.mpr ⟨fun y hy => ?_, h⟩
      rcases List.mem_cons.mp hy with e | e
      · rw [e]; exact hx
      · exact Int32.le_trans hx (h1 y e)
/-- whose ask or grant it is; whose way home, arriving past b -/
def agOf (h : Nat) (x : Mg) : Bool := decide ((x.1 0 = 1 ∧ x.1 1 = nI h) ∨ (x.1 0 = 2 ∧ x.1 2 = nI h))
def hmOf (h b : Nat) (x : Mg) : Bool := decide (x.1 0 = 3 ∧ x.1 1 = nI h ∧ nI b < x.1 4)
def n01 (x : Int32) : Nat := if x = 0 then 0 else 1
/-- T the time; b h: the homes of h that come past b h + d are at most 9 - d; all that is on its way arrives past B -/
def Inv (E : EE) (Gd : Nat → Prop) (T B : Nat) (b : Nat → Nat) (m : MS) : Prop :=
  (m.1 0 = nI T ∧ T ≤ 1001000 ∧ 2 ≤ m.1 1 ∧ m.1 1 ≤ 16 ∧ 1 ≤ m.1 2 ∧ m.1 2 ≤ 99) ∧ (∀ k, k < 49 → ∃ w, 1 ≤ w ∧ w ≤ 9 ∧ m.2.1 k = nI w) ∧ (∀ h, h < 6 → ∀ e ∈ m.2.2.2.1 h, Gd e) ∧
  (∀ x ∈ m.2.2.2.2, MgOk Gd x ∧ ∃ a, B < a ∧ a ≤ T + 9 ∧ x.1 4 = nI a) ∧ mAll E m ≤ 80 ∧ (∀ h, h < 6 → m.2.2.2.2.countP (agOf h) + n01 (m.2.2.1 h 5) ≤ n01 (m.2.2.1 h 4)) ∧ (∀ h, h < 6 → b h ≤ B ∧ ∀ d, d ≤ 9 → m.2.2.2.2.countP (hmOf h (b h + d)) ≤ 9 - d) ∧ srt m.2.2.2.2
