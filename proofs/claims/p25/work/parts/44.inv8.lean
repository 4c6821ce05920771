/-- messages in front -/
def pushL : List Mg → MS → MS
  | [], m => m
  | x :: l, m => hdM x (pushL l m)
theorem push_same (l : List Mg) (m : MS) : (pushL l m).1 = m.1 ∧ (pushL l m).2.1 = m.2.1 ∧ (pushL l m).2.2.1 = m.2.2.1 ∧ (pushL l m).2.2.2.1 = m.2.2.2.1 ∧ (pushL l m).2.2.2.2 = l ++ m.2.2.2.2 := by
  induction l with
  | nil => exact ⟨rfl, rfl, rfl, rfl, rfl⟩
  | cons x l ih =>
    obtain ⟨h1, h2, h3, h4, h5⟩ := ih
    refine ⟨h1, h2, h3, h4, ?_⟩
    show x :: (pushL l m).2.2.2.2 = _
    rw [h5]; rfl
theorem arr_push {E : EE} {Gd : Nat → Prop} {x : Mg} {m : MS} (hE : EOk E Gd) (hx : MgOk Gd x) (hq : ∀ h, h < 6 → ∀ e ∈ m.2.2.2.1 h, Gd e) (l : List Mg) (hl : ∀ y ∈ l, ∀ k, k < 49 → y.1 4 ≤ m.1 0 + m.2.1 k) : mArr E x (pushL l m) = pushL l (mArr E x m) := by
  induction l with
  | nil => rfl
  | cons y l ih =>
    obtain ⟨h1, h2, h3, h4, h5⟩ := push_same l m
    show mArr E x (hdM y (pushL l m)) = hdM y (pushL l (mArr E x m))
    rw [hd_arr hE hx (by rw [h4]; exact hq) (by rw [h1, h2]; exact hl y List.mem_cons_self), ih (fun z hz => hl z (List.mem_cons_of_mem _ hz))]
theorem push_all (E : EE) (l : List Mg) (m : MS) : mAll E m ≤ mAll E (pushL l m) := by
  induction l with
  | nil => exact Nat.le_refl _
  | cons y l ih =>
    show mAll E m ≤ mAll E (hdM y (pushL l m))
    rw [all_hd]
    omega
theorem Inv.past {E : EE} {Gd : Nat → Prop} {T B : Nat} {b : Nat → Nat} {m : MS} (hI : Inv E Gd T B b m) {y : Mg} (hy : y.1 4 ≤ nI T) : ∀ k, k < 49 → y.1 4 ≤ m.1 0 + m.2.1 k := fun k hk => by
  obtain ⟨w, w1, w2, w3⟩ := hI.2.1 k hk
  have hT := hI.1.2.1
  rw [hI.1.1, w3, nI_add]
  exact Int32.le_trans hy ((nI_leI (by omega) (by omega)).mpr (by omega))
/-- the arrivals of a tick -/
theorem Inv.steps {E : EE} {Gd : Nat → Prop} {T B : Nat} {b : Nat → Nat} (hE : EOk E Gd) (hB : B ≤ T) (l : List Mg) : ∀ (m : MS), Inv E Gd T B b (pushL l m) → (∀ y ∈ l, y.1 4 ≤ nI T) → Inv E Gd T T b m → StepsOk E Gd l.length (pushL l m) ∧ Inv E Gd T T b (mSteps E l.length (pushL l m)) := by
  induction l with
  | nil => intro m _ _ h2; exact ⟨trivial, h2⟩
  | cons x l ih =>
    intro m h1 hl h2
    have h1 : Inv E Gd T B b (hdM x (pushL l m)) := h1
    have hx := (h1.2.2.2.1 x List.mem_cons_self).1
    obtain ⟨s1, s2, s3, s4, s5⟩ := push_same l m
    have ht := h1.tl
    have hst : mStep E (hdM x (pushL l m)) = pushL l (mArr E x m) := by
      rw [hd_step hE hx ht.2.2.1 (ht.past (hl x List.mem_cons_self))]
      exact arr_push hE hx h2.2.2.1 l (fun y hy => h2.past (hl y (List.mem_cons_of_mem _ hy)))
    have harr : mArr E x (pushL l m) = pushL l (mArr E x m) := arr_push hE hx h2.2.2.1 l (fun y hy => h2.past (hl y (List.mem_cons_of_mem _ hy)))
    have hal : sz E x.2 + mAll E (pushL l m) ≤ 80 := by rw [← all_hd]; exact h1.2.2.2.2.1
    have hp := push_all E l m
    have i1 : Inv E Gd T B b (pushL l (mArr E x m)) := by rw [← harr]; exact h1.arr hE hB
    have i2 : Inv E Gd T T b (mArr E x m) := h2.arr2 hE (Nat.le_refl _) hx (by omega) (fun h hh => by
      have q := h1.hg6 h hh
      rw [s3, s5, List.countP_append] at q
      omega)
    obtain ⟨k1, k2⟩ := ih (mArr E x m) i1 (fun y hy => hl y (List.mem_cons_of_mem _ hy)) i2
    refine ⟨⟨⟨x, (pushL l m).2.2.2.2, rfl, h1.arrOk hE hB⟩, ?_⟩, ?_⟩
    · show StepsOk E Gd l.length (mStep E (hdM x (pushL l m)))
      rw [hst]; exact k1
    · show Inv E Gd T T b (mSteps E l.length (mStep E (hdM x (pushL l m))))
      rw [hst]; exact k2
