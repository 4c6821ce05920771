/-! depths, one after the other; the parts of one that was read -/
def mD (D : List Nat) : Nat := match D.getLast? with
  | none => 0
  | some d => d + 1
def VD (D : List Nat) : Prop := ∀ k d, D[k]? = some d → d ≤ mD (D.take k)
theorem mD_snoc (D : List Nat) (d : Nat) : mD (D ++ [d]) = d + 1 := by unfold mD; rw [List.getLast?_append]; rfl
theorem VD_nil : VD [] := fun k d h => by cases h
theorem VD_snoc {D : List Nat} {d : Nat} : VD (D ++ [d]) ↔ VD D ∧ d ≤ mD D := by
  constructor
  · intro h
    refine ⟨fun k e hk => ?_, ?_⟩
    · have hl : k < D.length := (List.getElem?_eq_some_iff.mp hk).1
      have := h k e (by rw [List.getElem?_append_left hl]; exact hk)
      rw [List.take_append_of_le_length (by omega)] at this
      exact this
    · have := h D.length d (by rw [List.getElem?_append_right (Nat.le_refl _), Nat.sub_self]; rfl)
      rw [List.take_append_of_le_length (Nat.le_refl _), List.take_length] at this
      exact this
  · rintro ⟨h1, h2⟩ k e hk
    by_cases hl : k < D.length
    · rw [List.getElem?_append_left hl] at hk
      rw [List.take_append_of_le_length (by omega)]
      exact h1 k e hk
    · have hk2 : k = D.length := by
        have := (List.getElem?_eq_some_iff.mp hk).1
        rw [List.length_append] at this
        have : [d].length = 1 := rfl
        omega
      subst hk2
      rw [List.getElem?_append_right (Nat.le_refl _), Nat.sub_self] at hk
      have hk : d = e := Option.some.inj hk
      subst hk
      rw [List.take_append_of_le_length (Nat.le_refl _), List.take_length]
      exact h2
/-- the latest of each depth that is open -/
theorem lat_of (D : List Nat) (h : VD D) : ∀ e, e < mD D → (fbOf D).2.2.2 e < D.length ∧ D[(fbOf D).2.2.2 e]? = some e ∧ ∀ k d, (fbOf D).2.2.2 e < k → D[k]? = some d → e < d := by
  induction D using snoc_ind with
  | h0 => intro e he; cases he
  | h1 D d ih =>
    obtain ⟨hV, hd⟩ := VD_snoc.mp h
    intro e he
    rw [mD_snoc] at he
    have hl : (D ++ [d]).length = D.length + 1 := by rw [List.length_append]; rfl
    have el : (fbOf (D ++ [d])).2.2.2 e = if e = d then D.length else (fbOf D).2.2.2 e := by
      rw [fb_snoc]
      rfl
    rw [el, hl]
    by_cases hed : e = d
    · rw [if_pos hed]
      refine ⟨by omega, by rw [List.getElem?_append_right (Nat.le_refl _), Nat.sub_self, hed]; rfl, fun k d' hk hkd => ?_⟩
      have := (List.getElem?_eq_some_iff.mp hkd).1
      omega
    · rw [if_neg hed]
      obtain ⟨a, b, c⟩ := ih hV e (by omega)
      refine ⟨by omega, by rw [List.getElem?_append_left a]; exact b, fun k d' hk hkd => ?_⟩
      by_cases hkl : k < D.length
      · rw [List.getElem?_append_left hkl] at hkd
        exact c k d' hk hkd
      · have hk2 : k = D.length := by
          have := (List.getElem?_eq_some_iff.mp hkd).1
          omega
        subst hk2
        rw [List.getElem?_append_right (Nat.le_refl _), Nat.sub_self] at hkd
        have hkd : d = d' := Option.some.inj hkd
        omega
def prK (dd : Nat → Nat) (q : Nat) : Nat → Nat → Nat
  | 0, _ => 0
  | f + 1, k => if dd q < dd k then (if dd k = dd q + 1 then 1 else 0) + prK dd q f (k + 1) else 0
theorem prK_yes (dd : Nat → Nat) (q f : Nat) : ∀ k, (∀ j, k ≤ j → j < k + f → dd q < dd j) → dd (k + f) = dd q + 1 → prK dd q (f + 1) k = prK dd q f k + 1 := by
  induction f with
  | zero =>
    intro k _ h
    have h : dd k = dd q + 1 := h
    show (if dd q < dd k then (if dd k = dd q + 1 then 1 else 0) + 0 else 0) = 0 + 1
    rw [if_pos (by omega), if_pos h]
  | succ f ih =>
    intro k h1 h2
    have e1 : prK dd q (f + 1 + 1) k = if dd q < dd k then (if dd k = dd q + 1 then 1 else 0) + prK dd q (f + 1) (k + 1) else 0 := rfl
    have e2 : prK dd q (f + 1) k = if dd q < dd k then (if dd k = dd q + 1 then 1 else 0) + prK dd q f (k + 1) else 0 := rfl
    have hk := h1 k (Nat.le_refl _) (by omega)
    rw [e1, e2, if_pos hk, if_pos hk, ih (k + 1) (fun j h3 h4 => h1 j (by omega) (by omega)) (by rw [show k + 1 + f = k + (f + 1) by omega]; exact h2)]
    omega
theorem prK_no (dd : Nat → Nat) (q f : Nat) : ∀ k, ¬ ((∀ j, k ≤ j → j < k + f → dd q < dd j) ∧ dd (k + f) = dd q + 1) → prK dd q (f + 1) k = prK dd q f k := by
  induction f with
  | zero =>
    intro k h
    have h : ¬ dd k = dd q + 1 := fun c => h ⟨fun j h1 h2 => by omega, c⟩
    show (if dd q < dd k then (if dd k = dd q + 1 then 1 else 0) + 0 else 0) = 0
    rw [if_neg h]
    split <;> rfl
  | succ f ih =>
    intro k h
    have e1 : prK dd q (f + 1 + 1) k = if dd q < dd k then (if dd k = dd q + 1 then 1 else 0) + prK dd q (f + 1) (k + 1) else 0 := rfl
    have e2 : prK dd q (f + 1) k = if dd q < dd k then (if dd k = dd q + 1 then 1 else 0) + prK dd q f (k + 1) else 0 := rfl
    rw [e1, e2]
    by_cases hk : dd q < dd k
    · rw [if_pos hk, if_pos hk, ih (k + 1) (fun c => h ⟨fun j h3 h4 => by
        by_cases hjk : j = k
        · rw [hjk]; exact hk
        · exact c.1 j (by omega) (by omega), by rw [show k + (f + 1) = k + 1 + f by omega]; exact c.2⟩)]
    · rw [if_neg hk, if_neg hk]
theorem prK_congr {dd ee : Nat → Nat} {q : Nat} (hq : dd q = ee q) (f : Nat) : ∀ k, (∀ j, k ≤ j → j < k + f → dd j = ee j) → prK dd q f k = prK ee q f k := by
  induction f with
  | zero => intro k _; rfl
  | succ f ih =>
    intro k h
    show (if dd q < dd k then (if dd k = dd q + 1 then 1 else 0) + prK dd q f (k + 1) else 0) = (if ee q < ee k then (if ee k = ee q + 1 then 1 else 0) + prK ee q f (k + 1) else 0)
    rw [hq, h k (Nat.le_refl _) (by omega), ih (k + 1) (fun j h1 h2 => h j (by omega) (by omega))]
def dF (D : List Nat) (k : Nat) : Nat := match D[k]? with
  | some d => d
  | none => 0
theorem dF_some {D : List Nat} {k d : Nat} (h : D[k]? = some d) : dF D k = d := by unfold dF; rw [h]
theorem dF_l {D : List Nat} {k d : Nat} (h : k < D.length) : dF (D ++ [d]) k = dF D k := by
  unfold dF
  rw [List.getElem?_append_left h]
theorem dF_r {D : List Nat} {d : Nat} : dF (D ++ [d]) D.length = d := by
  unfold dF
  rw [List.getElem?_append_right (Nat.le_refl _), Nat.sub_self]
  rfl
theorem parts_of (D : List Nat) (h : VD D) : ∀ q, q < D.length → ((fbOf D).2.1 q).length = prK (dF D) q (D.length - (q + 1)) (q + 1) := by
  induction D using snoc_ind with
  | h0 => intro q hq; cases hq
  | h1 D d ih =>
    obtain ⟨hV, hd⟩ := VD_snoc.mp h
    intro q hq
    have hl : (D ++ [d]).length = D.length + 1 := by rw [List.length_append]; rfl
    rw [hl] at hq ⊢
    have ep : (fbOf (D ++ [d])).2.1 q = if q = D.length then [] else if d ≠ 0 ∧ q = (fbOf D).2.2.2 (d - 1) then (fbOf D).2.1 q ++ [D.length] else (fbOf D).2.1 q := by
      rw [fb_snoc]
      rfl
    rw [ep]
    by_cases hqc : q = D.length
    · rw [if_pos hqc, show D.length + 1 - (q + 1) = 0 by omega]
      rfl
    · rw [if_neg hqc, show D.length + 1 - (q + 1) = (D.length - (q + 1)) + 1 by omega]
      have hqD : dF (D ++ [d]) q = dF D q := dF_l (by omega)
      have hpk : prK (dF (D ++ [d])) q (D.length - (q + 1)) (q + 1) = prK (dF D) q (D.length - (q + 1)) (q + 1) := prK_congr hqD _ _ (fun j h1 h2 => dF_l (by omega))
      have hend : q + 1 + (D.length - (q + 1)) = D.length := by omega
      have hqs : D[q]? = some D[q] := List.getElem?_eq_getElem (by omega)
      have hqd : dF D q = D[q] := dF_some hqs
      by_cases hc : d ≠ 0 ∧ q = (fbOf D).2.2.2 (d - 1)
      · rw [if_pos hc, List.length_append]
        obtain ⟨a, b, c⟩ := lat_of D hV (d - 1) (by omega)
        rw [← hc.2, hqs] at b
        have b : D[q] = d - 1 := Option.some.inj b
        have hd0 := hc.1
        rw [prK_yes _ _ _ _ (fun j h1 h2 => ?_) (by rw [hend, dF_r, hqD, hqd, b]; omega), hpk, ← ih hV q (by omega)]
        · rfl
        · rw [hend] at h2
          rw [dF_l h2, hqD]
          have := c j D[j] (by omega) (List.getElem?_eq_getElem h2)
          rw [dF_some (List.getElem?_eq_getElem h2), hqd, b]
          exact this
      · rw [if_neg hc, prK_no _ _ _ _ ?_, hpk, ← ih hV q (by omega)]
        rintro ⟨c1, c2⟩
        rw [hend, dF_r, hqD] at c2
        have hd0 : d ≠ 0 := by omega
        obtain ⟨a, b, c⟩ := lat_of D hV (d - 1) (by omega)
        refine hc ⟨hd0, ?_⟩
        rcases Nat.lt_trichotomy q ((fbOf D).2.2.2 (d - 1)) with e | e | e
        · have := c1 ((fbOf D).2.2.2 (d - 1)) (by omega) (by rw [hend]; exact a)
          rw [dF_l a, dF_some b, hqD] at this
          omega
        · exact e
        · have := c q D[q] e hqs
          omega
/-! along a reading -/
theorem deps_snoc (L : List RN) (y : RN) : deps (L ++ [y]) = deps L ++ [y.2.2] := by unfold deps; rw [List.map_append]; rfl
theorem mL_mD (L : List RN) : mL L = mD (deps L) := by
  induction L using snoc_ind with
  | h0 => rfl
  | h1 L y _ => rw [mL_snoc, deps_snoc, mD_snoc]
theorem deps_setW (L : List RN) (w : Nat) : deps (setW L w) = deps L := by
  induction L using snoc_ind with
  | h0 => rfl
  | h1 L y _ => rw [setW_snoc, deps_snoc, deps_snoc]
theorem rstep_V {s s' : RS} {x : Int32} {p : Nat} (hI : RInv s p) (hV : VD (deps s.1)) (hs : rstep s x = some s') : VD (deps s'.1) := by
  obtain ⟨L, d, due⟩ := s
  have aft : ∀ s'', rAfter (L, d, due) x = some s'' → s''.1 = L := fun s'' h => by
    unfold rAfter at h
    split at h
    · cases h; rfl
    · split at h
      · cases h; rfl
      · cases h
  have dig : ∀ s'', rDigit (L, d, due) x = some s'' → deps s''.1 = deps L := fun s'' h => by
    unfold rDigit at h
    split at h
    · cases h; exact deps_setW _ _
    · cases h
  have hV : VD (deps L) := hV
  unfold rstep at hs
  dsimp only at hs
  by_cases c0 : due = 0
  · rw [if_pos c0] at hs
    split at hs
    · cases hs
      show VD (deps (L ++ [_]))
      rw [deps_snoc]
      refine VD_snoc.mpr ⟨hV, ?_⟩
      rw [← mL_mD]
      have h3 := hI.2.2
      rcases h3 with q | q | q | q | q
      · exact q.2.1
      · have := q.1; dsimp only at this; omega
      · have := q.1; dsimp only at this; omega
      · have := q.1; dsimp only at this; omega
      · have := q.1; dsimp only at this; omega
    · cases hs
  · rw [if_neg c0] at hs
    by_cases c1 : due = 1
    · rw [if_pos c1] at hs
      split at hs
      · cases hs; exact hV
      · cases hs
    · rw [if_neg c1] at hs
      by_cases c2 : due = 2
      · rw [if_pos c2] at hs
        rw [dig _ hs]; exact hV
      · rw [if_neg c2] at hs
        by_cases c3 : due = 3
        · rw [if_pos c3] at hs
          split at hs
          · cases hs; exact hV
          · split at hs
            · split at hs
              · cases hs
              · rw [dig _ hs]; exact hV
            · rw [aft _ hs]; exact hV
        · rw [if_neg c3] at hs
          rw [aft _ hs]; exact hV
theorem rgo_V {tx : Nat → Int32} {s' : RS} (c : Nat) : ∀ (p : Nat) (s : RS), RInv s p → VD (deps s.1) → rgo tx s p c = .inr s' → VD (deps s'.1) := by
  induction c with
  | zero =>
    intro p s _ hV h
    cases h
    exact hV
  | succ c ih =>
    intro p s hI hV h
    have h : (match rstep s (tx p) with | none => Sum.inl p | some s1 => rgo tx s1 (p + 1) c) = .inr s' := h
    cases hs : rstep s (tx p) with
    | none => rw [hs] at h; cases h
    | some s1 =>
      rw [hs] at h
      exact ih (p + 1) s1 (rstep_inv hI hs) (rstep_V hI hV hs) h
theorem ri_0 : RInv ([], 0, 0) 0 := ⟨fi_0, fun y hy => (by cases hy), Or.inl ⟨rfl, Nat.zero_le _, Nat.le_refl _⟩⟩
/-- what a sound text gives -/
theorem read_ok {A : AP} (h : aErr A = none) : ∃ s, aRead A = .inr s ∧ s.1 = aL A ∧ VD (deps (aL A)) ∧ s.2.1 = 0 := by
  unfold aErr at h
  cases hr : aRead A with
  | inl p => rw [hr] at h; cases h
  | inr s =>
    refine ⟨s, rfl, ?_, ?_, ?_⟩
    · unfold aL; rw [hr]; rfl
    · have := rgo_V A.2.2.2.2.2 0 ([], 0, 0) ri_0 VD_nil hr
      unfold aL
      rw [hr]
      exact this
    · rw [hr] at h
      have h : (if rdOk s = true then none else some A.2.2.2.2.2) = none := h
      by_cases c : rdOk s = true
      · exact (of_decide_eq_true c).1
      · rw [if_neg c] at h; cases h
