/-! what the searches find: errands at a place, in their order -/
theorem cnt_filter (p : Nat → Bool) (c : Nat) : cntF p c = ((List.range c).filter p).length := by
  induction c with
  | zero => rfl
  | succ c ih =>
    show cntF p c + (if p c = true then 1 else 0) = _
    rw [List.range_succ, List.filter_append, List.length_append, ih]
    by_cases h : p c = true
    · rw [if_pos h, List.filter_cons_of_pos h]; rfl
    · rw [if_neg h, List.filter_cons_of_neg h]; rfl
theorem cnt_list {p : Nat → Bool} {c : Nat} {L : List Nat} (hn : L.Nodup) (hL : ∀ e, e ∈ L ↔ e < c ∧ p e = true) : cntF p c = L.length := by
  rw [cnt_filter]
  refine List.Perm.length_eq ((List.perm_ext_iff_of_nodup (List.nodup_range.sublist List.filter_sublist) hn).mpr (fun a => ?_))
  rw [List.mem_filter, List.mem_range, hL a]
def AtL (s : Nat → Int32) (w x : Nat) (L : List Nat) : Prop := (∀ e, e ∈ L ↔ e < 80 ∧ eF s e 4 = nI w ∧ eF s e 2 = nI x) ∧ L.Pairwise (fun a b => eF s a 3 < eF s b 3)
theorem AtL.nodup {s : Nat → Int32} {w x : Nat} {L : List Nat} (h : AtL s w x L) : L.Nodup := h.2.imp (fun {a b} hab e => by subst e; exact Int32.lt_irrefl hab)
theorem fst_spec {s : Nat → Int32} {x y : Int32} (c : Nat) : (fstF s x y c = none → ∀ e, e < c → ¬ (eF s e 4 = x ∧ eF s e 2 = y)) ∧ (∀ k, fstF s x y c = some k → (eF s k 4 = x ∧ eF s k 2 = y) ∧ ∀ e, e < c → (eF s e 4 = x ∧ eF s e 2 = y) → ¬ eF s e 3 < eF s k 3) := by
  induction c with
  | zero => exact ⟨fun _ e h => absurd h (Nat.not_lt_zero e), fun k h => by cases h⟩
  | succ c ih =>
    obtain ⟨i1, i2⟩ := ih
    have e0 : fstF s x y (c + 1) = if eF s c 4 = x ∧ eF s c 2 = y then pickF s c (fstF s x y c) else fstF s x y c := rfl
    rw [e0]
    by_cases hp : eF s c 4 = x ∧ eF s c 2 = y
    · rw [if_pos hp]
      cases hf : fstF s x y c with
      | none =>
        refine ⟨fun h => (by cases h), fun k hk => ?_⟩
        have hk : c = k := Option.some.inj hk
        subst hk
        refine ⟨hp, fun e he hpe => ?_⟩
        by_cases hc : e = c
        · rw [hc]; exact Int32.lt_irrefl
        · exact absurd hpe (i1 hf e (by omega))
      | some q =>
        obtain ⟨q1, q2⟩ := i2 q hf
        have e1 : pickF s c (some q) = if eF s c 3 < eF s q 3 then some c else some q := rfl
        rw [e1]
        by_cases hl : eF s c 3 < eF s q 3
        · rw [if_pos hl]
          refine ⟨fun h => (by cases h), fun k hk => ?_⟩
          have hk : c = k := Option.some.inj hk
          subst hk
          refine ⟨hp, fun e he hpe => ?_⟩
          by_cases hc : e = c
          · rw [hc]; exact Int32.lt_irrefl
          · exact fun h => q2 e (by omega) hpe (Int32.lt_trans h hl)
        · rw [if_neg hl]
          refine ⟨fun h => (by cases h), fun k hk => ?_⟩
          have hk : q = k := Option.some.inj hk
          subst hk
          refine ⟨q1, fun e he hpe => ?_⟩
          by_cases hc : e = c
          · rw [hc]; exact hl
          · exact q2 e (by omega) hpe
    · rw [if_neg hp]
      refine ⟨fun h e he hpe => ?_, fun k hk => ⟨(i2 k hk).1, fun e he hpe => ?_⟩⟩
      · by_cases hc : e = c
        · rw [hc] at hpe; exact hp hpe
        · exact i1 h e (by omega) hpe
      · by_cases hc : e = c
        · rw [hc] at hpe; exact absurd hpe hp
        · exact (i2 k hk).2 e (by omega) hpe
theorem AtL.first {s : Nat → Int32} {w x : Nat} {L : List Nat} (h : AtL s w x L) : fstF s (nI w) (nI x) 80 = L.head? := by
  obtain ⟨h1, h2⟩ := fst_spec (s := s) (x := nI w) (y := nI x) 80
  cases hf : fstF s (nI w) (nI x) 80 with
  | none =>
    cases L with
    | nil => rfl
    | cons a t =>
      have ha := (h.1 a).mp List.mem_cons_self
      exact absurd ha.2 (h1 hf a ha.1)
  | some k =>
    have hk := fst_lt 80 k hf
    obtain ⟨k1, k2⟩ := h2 k hf
    have hkL : k ∈ L := (h.1 k).mpr ⟨hk, k1⟩
    cases L with
    | nil => cases hkL
    | cons a t =>
      have ha := (h.1 a).mp List.mem_cons_self
      rcases List.mem_cons.mp hkL with e | e
      · rw [e]; rfl
      · exact absurd ((List.pairwise_cons.mp h.2).1 k e) (k2 a ha.1 ha.2)
theorem AtL.count {s : Nat → Int32} {w x : Nat} {L : List Nat} (h : AtL s w x L) : cntF (atP s (nI w) (nI x)) 80 = L.length := cnt_list h.nodup (fun e => by
  rw [h.1 e]
  unfold atP
  rw [decide_eq_true_iff])
theorem fnd_spec (p : Nat → Bool) (f : Nat) : ∀ m, (fndF p f m = none → ∀ e, m ≤ e → e < m + f → ¬ p e = true) ∧ (∀ k, fndF p f m = some k → p k = true ∧ m ≤ k ∧ k < m + f) := by
  induction f with
  | zero => exact fun m => ⟨fun _ e h1 h2 => by omega, fun k h => by cases h⟩
  | succ f ih =>
    intro m
    obtain ⟨i1, i2⟩ := ih (m + 1)
    have e0 : fndF p (f + 1) m = if p m = true then some m else fndF p f (m + 1) := rfl
    rw [e0]
    by_cases hp : p m = true
    · rw [if_pos hp]
      exact ⟨fun h => (by cases h), fun k hk => by have := Option.some.inj hk; subst this; exact ⟨hp, Nat.le_refl _, by omega⟩⟩
    · rw [if_neg hp]
      refine ⟨fun h e h1 h2 => ?_, fun k hk => ?_⟩
      · by_cases hc : e = m
        · rw [hc]; exact hp
        · exact i1 h e (by omega) (by omega)
      · have := i2 k hk
        exact ⟨this.1, by omega, by omega⟩
theorem fnd_one {p : Nat → Bool} {c k : Nat} (hk : k < c) (hp : p k = true) (hu : ∀ e, e < c → p e = true → e = k) : fndF p c 0 = some k := by
  obtain ⟨h1, h2⟩ := fnd_spec p c 0
  cases hf : fndF p c 0 with
  | none => exact absurd hp (h1 hf k (Nat.zero_le _) (by omega))
  | some q =>
    obtain ⟨q1, q2, q3⟩ := h2 q hf
    rw [hu q (by omega) q1]
theorem fnd_none {p : Nat → Bool} {c : Nat} (hu : ∀ e, e < c → ¬ p e = true) : fndF p c 0 = none := by
  obtain ⟨h1, h2⟩ := fnd_spec p c 0
  cases hf : fndF p c 0 with
  | none => rfl
  | some q =>
    obtain ⟨q1, q2, q3⟩ := h2 q hf
    exact absurd q1 (hu q (by omega))
/-- how many come before one of the row -/
theorem AtL.before {s : Nat → Int32} {w : Nat} {L : List Nat} (h : AtL s w 0 L) (h0 : ∀ e, e < 80 → eF s e 4 = nI w → eF s e 2 = 0) {q e : Nat} (hq : L[q]? = some e) : cntF (wtP s (nI w) e) 80 = q := by
  obtain ⟨hlt, hge⟩ := List.getElem?_eq_some_iff.mp hq
  have hp := List.pairwise_iff_getElem.mp h.2
  have hl : (L.take q).length = q := by rw [List.length_take]; omega
  refine (cnt_list (L := L.take q) (h.nodup.sublist (List.take_sublist _ _)) (fun k => ?_)).trans hl
  unfold wtP
  rw [decide_eq_true_iff]
  constructor
  · intro hk
    obtain ⟨j, hj, ej⟩ := List.mem_take_iff_getElem.mp hk
    have hkL : k ∈ L := List.mem_of_mem_take hk
    have := (h.1 k).mp hkL
    refine ⟨this.1, this.2.1, ?_⟩
    rw [← ej, ← hge]
    exact hp j q (by omega) hlt (by omega)
  · rintro ⟨k1, k2, k3⟩
    have hkL : k ∈ L := (h.1 k).mpr ⟨k1, k2, h0 k k1 k2⟩
    obtain ⟨j, hj, ej⟩ := List.mem_iff_getElem.mp hkL
    refine List.mem_take_iff_getElem.mpr ⟨j, ?_, ej⟩
    have : j < q := by
      rcases Nat.lt_trichotomy j q with c | c | c
      · exact c
      · subst c
        rw [← ej, hge] at k3
        exact absurd k3 Int32.lt_irrefl
      · have := hp q j hlt hj c
        rw [hge, ej] at this
        exact absurd (Int32.lt_trans k3 this) Int32.lt_irrefl
    omega
theorem AtL.waitAt {s : Nat → Int32} {w : Nat} {L : List Nat} (h : AtL s w 0 L) (h0 : ∀ e, e < 80 → eF s e 4 = nI w → eF s e 2 = 0) {q : Nat} (hq : q < 2 ^ 31) : wtd s (nI w) (nI q) = L[q]? := by
  have hlen : L.length ≤ 80 := by
    rw [← h.count]; exact cnt_le _ _
  have key : ∀ e, e < 80 → wtE s (nI w) (nI q) e = true → L[q]? = some e := by
    intro e he hp
    obtain ⟨p1, p2⟩ := of_decide_eq_true hp
    have heL : e ∈ L := (h.1 e).mpr ⟨he, p1, h0 e he p1⟩
    obtain ⟨j, hj, ej⟩ := List.mem_iff_getElem.mp heL
    have hj' : L[j]? = some e := List.getElem?_eq_some_iff.mpr ⟨hj, ej⟩
    rw [h.before h0 hj', nI_eq (by omega) hq] at p2
    rw [← p2]; exact hj'
  unfold wtd
  cases hL : L[q]? with
  | none =>
    exact fnd_none (fun e he hp => by rw [key e he hp] at hL; cases hL)
  | some k =>
    have hk := (h.1 k).mp (List.mem_of_getElem? hL)
    refine fnd_one hk.1 (decide_eq_true ⟨hk.2.1, by rw [h.before h0 hL]⟩) (fun e he hp => ?_)
    have := key e he hp
    rw [hL] at this
    exact (Option.some.inj this).symm
