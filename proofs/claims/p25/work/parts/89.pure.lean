/-! out of whole: pure laws of texts and of errands that a text adds -/
theorem snoc_ind {α : Type} {P : List α → Prop} (h0 : P []) (h1 : ∀ l x, P l → P (l ++ [x])) (l : List α) : P l := by
  have : ∀ n, ∀ l : List α, l.length = n → P l := by
    intro n
    induction n with
    | zero => intro l hl; rw [List.length_eq_zero_iff.mp hl]; exact h0
    | succ n ih =>
      intro l hl
      have hne : l ≠ [] := fun q => by rw [q] at hl; cases hl
      rw [← List.dropLast_concat_getLast hne]
      exact h1 _ _ (ih _ (by rw [List.length_dropLast]; omega))
  exact this _ l rfl
def mD (D : List Nat) : Nat := match D.getLast? with
  | none => 0
  | some d => d + 1
def VD (D : List Nat) : Prop := ∀ k d, D[k]? = some d → d ≤ mD (D.take k)
theorem mD_snoc (D : List Nat) (d : Nat) : mD (D ++ [d]) = d + 1 := by unfold mD; rw [List.getLast?_append]; rfl
theorem VD_nil : VD [] := fun k d h => by cases h
theorem VD_snoc {D : List Nat} {d : Nat} : VD (D ++ [d]) ↔ VD D ∧ d ≤ mD D := by
  constructor
  · intro h
    refine ⟨fun k e hk => ?_, ?_⟩
    · have hl : k < D.length := (List.getElem?_eq_some_iff.mp hk).1
      have := h k e (by rw [List.getElem?_append_left hl]; exact hk)
      rw [List.take_append_of_le_length (by omega)] at this
      exact this
    · have := h D.length d (by rw [List.getElem?_append_right (Nat.le_refl _), Nat.sub_self]; rfl)
      rw [List.take_append_of_le_length (Nat.le_refl _), List.take_length] at this
      exact this
  · rintro ⟨h1, h2⟩ k e hk
    by_cases hl : k < D.length
    · rw [List.getElem?_append_left hl] at hk
      rw [List.take_append_of_le_length (by omega)]
      exact h1 k e hk
    · have hk2 : k = D.length := by
        have := (List.getElem?_eq_some_iff.mp hk).1
        rw [List.length_append] at this
        have : [d].length = 1 := rfl
        omega
      subst hk2
      rw [List.getElem?_append_right (Nat.le_refl _), Nat.sub_self] at hk
      have hk : d = e := Option.some.inj hk
      subst hk
      rw [List.take_append_of_le_length (Nat.le_refl _), List.take_length]
      exact h2
theorem deps_snoc (L : List RN) (y : RN) : deps (L ++ [y]) = deps L ++ [y.2.2] := by unfold deps; rw [List.map_append]; rfl
theorem mL_mD (L : List RN) : mL L = mD (deps L) := by
  induction L using snoc_ind with
  | h0 => rfl
  | h1 L y _ => rw [mL_snoc, deps_snoc, mD_snoc]
theorem deps_setW (L : List RN) (w : Nat) : deps (setW L w) = deps L := by
  induction L using snoc_ind with
  | h0 => rfl
  | h1 L y _ => rw [setW_snoc, deps_snoc, deps_snoc]
theorem rstep_V {s s' : RS} {x : Int32} {p : Nat} (hI : RInv s p) (hV : VD (deps s.1)) (hs : rstep s x = some s') : VD (deps s'.1) := by
  obtain ⟨L, d, due⟩ := s
  have aft : ∀ s'', rAfter (L, d, due) x = some s'' → s''.1 = L := fun s'' h => by
    unfold rAfter at h
    split at h
    · cases h; rfl
    · split at h
      · cases h; rfl
      · cases h
  have dig : ∀ s'', rDigit (L, d, due) x = some s'' → deps s''.1 = deps L := fun s'' h => by
    unfold rDigit at h
    split at h
    · cases h; exact deps_setW _ _
    · cases h
  have hV : VD (deps L) := hV
  unfold rstep at hs
  dsimp only at hs
  by_cases c0 : due = 0
  · rw [if_pos c0] at hs
    split at hs
    · cases hs
      show VD (deps (L ++ [_]))
      rw [deps_snoc]
      refine VD_snoc.mpr ⟨hV, ?_⟩
      rw [← mL_mD]
      have h3 := hI.2.2
      rcases h3 with q | q | q | q | q
      · exact q.2.1
      · have := q.1; dsimp only at this; omega
      · have := q.1; dsimp only at this; omega
      · have := q.1; dsimp only at this; omega
      · have := q.1; dsimp only at this; omega
    · cases hs
  · rw [if_neg c0] at hs
    by_cases c1 : due = 1
    · rw [if_pos c1] at hs
      split at hs
      · cases hs; exact hV
      · cases hs
    · rw [if_neg c1] at hs
      by_cases c2 : due = 2
      · rw [if_pos c2] at hs
        rw [dig _ hs]; exact hV
      · rw [if_neg c2] at hs
        by_cases c3 : due = 3
        · rw [if_pos c3] at hs
          split at hs
          · cases hs; exact hV
          · split at hs
            · split at hs
              · cases hs
              · rw [dig _ hs]; exact hV
            · rw [aft _ hs]; exact hV
        · rw [if_neg c3] at hs
          rw [aft _ hs]; exact hV
theorem rgo_V {tx : Nat → Int32} {s' : RS} (c : Nat) : ∀ (p : Nat) (s : RS), RInv s p → VD (deps s.1) → rgo tx s p c = .inr s' → VD (deps s'.1) := by
  induction c with
  | zero =>
    intro p s _ hV h
    cases h
    exact hV
  | succ c ih =>
    intro p s hI hV h
    have h : (match rstep s (tx p) with | none => Sum.inl p | some s1 => rgo tx s1 (p + 1) c) = .inr s' := h
    cases hs : rstep s (tx p) with
    | none => rw [hs] at h; cases h
    | some s1 =>
      rw [hs] at h
      exact ih (p + 1) s1 (rstep_inv hI hs) (rstep_V hI hV hs) h
theorem ri_0 : RInv ([], 0, 0) 0 := ⟨fi_0, fun y hy => (by cases hy), Or.inl ⟨rfl, Nat.zero_le _, Nat.le_refl _⟩⟩
/-- what a sound text gives -/
theorem read_ok {A : AP} (h : aErr A = none) : ∃ s, aRead A = .inr s ∧ s.1 = aL A ∧ VD (deps (aL A)) ∧ s.2.1 = 0 := by
  unfold aErr at h
  cases hr : aRead A with
  | inl p => rw [hr] at h; cases h
  | inr s =>
    refine ⟨s, rfl, ?_, ?_, ?_⟩
    · unfold aL; rw [hr]; rfl
    · have := rgo_V A.2.2.2.2.2 0 ([], 0, 0) ri_0 VD_nil hr
      unfold aL
      rw [hr]
      exact this
    · rw [hr] at h
      have h : (if rdOk s = true then none else some A.2.2.2.2.2) = none := h
      by_cases c : rdOk s = true
      · exact (of_decide_eq_true c).1
      · rw [if_neg c] at h; cases h
theorem ext_old {n0 : Nat} {L : List RN} {E : EE} {a : Nat} (h : a < n0) : (eExt n0 L E).1 a = E.1 a ∧ (eExt n0 L E).2.1 a = E.2.1 a ∧ (eExt n0 L E).2.2.1 a = E.2.2.1 a ∧ (eExt n0 L E).2.2.2 a = E.2.2.2 a := ⟨if_neg (by omega), if_neg (by omega), if_neg (by omega), if_neg (by omega)⟩
theorem ext_new {n0 : Nat} {L : List RN} {E : EE} {k : Nat} : (eExt n0 L E).1 (n0 + k) = (nodeAt L k).1 ∧ (eExt n0 L E).2.1 (n0 + k) = nI (nodeAt L k).2.1 ∧ (eExt n0 L E).2.2.2 (n0 + k) = ((fbL L).2.1 k).map (fun k => n0 + k) := by
  have e : n0 + k - n0 = k := by omega
  refine ⟨?_, ?_, ?_⟩
  · show (if n0 ≤ n0 + k then (nodeAt L (n0 + k - n0)).1 else E.1 (n0 + k)) = _
    rw [if_pos (by omega), e]
  · show (if n0 ≤ n0 + k then nI (nodeAt L (n0 + k - n0)).2.1 else E.2.1 (n0 + k)) = _
    rw [if_pos (by omega), e]
  · show (if n0 ≤ n0 + k then ((fbL L).2.1 (n0 + k - n0)).map (fun k => n0 + k) else E.2.2.2 (n0 + k)) = _
    rw [if_pos (by omega), e]
theorem nodeAt_some {L : List RN} {k : Nat} {y : RN} (h : L[k]? = some y) : nodeAt L k = y := by unfold nodeAt; rw [h]
