/-- what is so of the errands' numbers -/
def EOk (E : EE) (Gd : Nat → Prop) : Prop := ∀ a, Gd a → E.1 a < 6 ∧ (∀ b ∈ E.2.2.2 a, Gd b) ∧ (E.2.2.2 a).length ≤ 15 ∧ E.2.2.1 a = 1 + ((E.2.2.2 a).map E.2.2.1).sum ∧ E.2.2.1 a ≤ 15
theorem RepE.ok {G : GG} {n : Nat} {E : EE} {Gd : Nat → Prop} {i : IP} {r : RP} (h : RepE G n E Gd i r) : EOk E Gd := fun a ha => by
  obtain ⟨b1, b2, b3, b4, b5, b6, b7, b8, b9, b10, b11⟩ := h a ha
  exact ⟨b2, fun b hb => (b8 b hb).1, b9, b10, b11⟩
theorem EOk.kids {E : EE} {Gd : Nat → Prop} (h : EOk E Gd) {a : Nat} (ha : Gd a) : (E.2.2.2 a).length + 1 ≤ E.2.2.1 a := by
  obtain ⟨b1, b2, b3, b4, b5⟩ := h a ha
  have := len_le_sum (l := E.2.2.2 a) (g := E.2.2.1) (fun k hk => by have := (h k (b2 k hk)).2.2.2.1; omega)
  omega
theorem EOk.line {E : EE} {Gd : Nat → Prop} (h : EOk E Gd) {q : List Nat} (hq : ∀ e ∈ q, Gd e) : q.length ≤ (q.map E.2.2.1).sum := len_le_sum (fun k hk => by have := (h k (hq k hk)).2.2.2.1; omega)
def s6 (f : Nat → Nat) : Nat := f 0 + f 1 + f 2 + f 3 + f 4 + f 5
theorem s6_le {f g : Nat → Nat} (h : ∀ q, q < 6 → f q ≤ g q) : s6 f ≤ s6 g := by
  have a0 := h 0 (by omega)
  have a1 := h 1 (by omega)
  have a2 := h 2 (by omega)
  have a3 := h 3 (by omega)
  have a4 := h 4 (by omega)
  have a5 := h 5 (by omega)
  unfold s6
  omega
theorem s6_one {f : Nat → Nat} {q : Nat} (hq : q < 6) : f q ≤ s6 f := by
  unfold s6
  rcases (show q = 0 ∨ q = 1 ∨ q = 2 ∨ q = 3 ∨ q = 4 ∨ q = 5 by omega) with e | e | e | e | e | e <;> subst e <;> omega
theorem sumQ_s6 (E : EE) (Q : Nat → List Nat) : sumQ E Q 6 = s6 (fun h => ((Q h).map E.2.2.1).sum) := by
  simp [sumQ, s6]
/-- every message is an errand, an ask or a grant of a house, or a way home -/
theorem mg_one {E : EE} {Gd : Nat → Prop} (hE : EOk E Gd) {x : Mg} {B : Nat} {b : Nat → Nat} (hx : MgOk Gd x) (hB : nI B < x.1 4) (hb : ∀ h, h < 6 → b h ≤ B) (hB2 : B < 2 ^ 31) : 1 ≤ sz E x.2 + s6 (fun h => if agOf h x = true then 1 else 0) + s6 (fun h => if hmOf h (b h) x = true then 1 else 0) := by
  obtain ⟨f, t, hf, ht, e1, e2, hk⟩ := hx
  rcases hk with ⟨k0, -, a, ha, hg⟩ | ⟨k1, hf6, -⟩ | ⟨k2, ht6, -⟩ | ⟨k3, hf6, -⟩
  · have : sz E x.2 = E.2.2.1 a := by rw [ha]; rfl
    have := (hE a hg).2.2.2.1
    omega
  · have h1 : agOf f x = true := decide_eq_true (Or.inl ⟨k1, e1⟩)
    have h2 := s6_one (f := fun h => if agOf h x = true then 1 else 0) hf6
    rw [if_pos h1] at h2
    omega
  · have h1 : agOf t x = true := decide_eq_true (Or.inr ⟨k2, e2⟩)
    have h2 := s6_one (f := fun h => if agOf h x = true then 1 else 0) ht6
    rw [if_pos h1] at h2
    omega
  · have h1 : hmOf f (b f) x = true := decide_eq_true ⟨k3, e1, by
      have h4 : nI (b f) ≤ nI B := (nI_leI (by have := hb f hf6; omega) hB2).mpr (hb f hf6)
      exact Int32.lt_of_le_of_lt h4 hB⟩
    have h2 := s6_one (f := fun h => if hmOf h (b h) x = true then 1 else 0) hf6
    rw [if_pos h1] at h2
    omega
theorem len_cnt {E : EE} {Gd : Nat → Prop} (hE : EOk E Gd) {B : Nat} {b : Nat → Nat} (hb : ∀ h, h < 6 → b h ≤ B) (hB2 : B < 2 ^ 31) {ms : List Mg} (hm : ∀ x ∈ ms, MgOk Gd x ∧ nI B < x.1 4) : ms.length ≤ sumM E ms + s6 (fun h => ms.countP (agOf h)) + s6 (fun h => ms.countP (hmOf h (b h))) := by
  induction ms with
  | nil => exact Nat.zero_le _
  | cons x t ih =>
    have h1 := ih (fun y hy => hm y (List.mem_cons_of_mem _ hy))
    have h2 := mg_one hE (hm x List.mem_cons_self).1 (hm x List.mem_cons_self).2 hb hB2
    have e1 : sumM E (x :: t) = sz E x.2 + sumM E t := by unfold sumM; rw [List.map_cons, List.sum_cons]
    have e2 : ∀ p : Mg → Bool, (x :: t).countP p = t.countP p + if p x = true then 1 else 0 := fun p => List.countP_cons
    rw [List.length_cons, e1]
    simp only [e2]
    unfold s6 at h1 h2 ⊢
    dsimp only at h1 h2 ⊢
    omega
theorem n01_le (x : Int32) : n01 x ≤ 1 := by unfold n01; split <;> omega
theorem Inv.cap {E : EE} {Gd : Nat → Prop} {T B : Nat} {b : Nat → Nat} {m : MS} (hI : Inv E Gd T B b m) (hE : EOk E Gd) (hB : B ≤ T) : m.2.2.2.2.length ≤ sumM E m.2.2.2.2 + 60 := by
  obtain ⟨⟨-, hT, -⟩, -, -, hm, -, hag, hhm, -⟩ := hI
  have h1 := len_cnt hE (b := b) (B := B) (fun h hh => (hhm h hh).1) (by omega) (ms := m.2.2.2.2) (fun x hx => ⟨(hm x hx).1, by
    obtain ⟨a, a1, a2, a3⟩ := (hm x hx).2
    rw [a3]
    exact (nI_ltI (by omega) (by omega)).mpr a1⟩)
  have h2 : s6 (fun h => m.2.2.2.2.countP (agOf h)) ≤ s6 (fun _ => 1) := s6_le (fun q hq => by
    have := hag q hq
    have := n01_le (m.2.2.1 q 4)
    show m.2.2.2.2.countP (agOf q) ≤ 1
    omega)
  have h3 : s6 (fun h => m.2.2.2.2.countP (hmOf h (b h))) ≤ s6 (fun _ => 9) := s6_le (fun q hq => (hhm q hq).2 0 (by omega))
  have e2 : s6 (fun _ => 1) = 6 := rfl
  have e3 : s6 (fun _ => 9) = 54 := rfl
  omega
