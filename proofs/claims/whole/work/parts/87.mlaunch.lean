/-! errands added, one after the other -/
section MADD
variable {s : Nat → Int32} {o : Nat} {qs ps : Nat → List Nat} {bs : List Nat} {e : Nat} {g w x : Int32}
theorem rAdd_e : eF (rAdd s e g w x) e 0 = g ∧ eF (rAdd s e g w x) e 1 = w ∧ eF (rAdd s e g w x) e 2 = x ∧ eF (rAdd s e g w x) e 3 = s 10 + 1 ∧ eF (rAdd s e g w x) e 4 = if x = 0 then 7 else 8 := by
  unfold rAdd
  refine ⟨?_, ?_, ?_, ?_, uE_s⟩
  · rw [uE_o (by omega) (by omega) (by omega), uE_o (by omega) (by omega) (by omega), uE_o (by omega) (by omega) (by omega), uE_o (by omega) (by omega) (by omega), uE_s]
  · rw [uE_o (by omega) (by omega) (by omega), uE_o (by omega) (by omega) (by omega), uE_o (by omega) (by omega) (by omega), uE_s]
  · rw [uE_o (by omega) (by omega) (by omega), uE_o (by omega) (by omega) (by omega), uE_s]
  · rw [uE_o (by omega) (by omega) (by omega), uE_s]
theorem rAdd_x {y f : Nat} (hy : y ≠ e) (hf : f < 5) : eF (rAdd s e g w x) y f = eF s y f := by
  unfold rAdd
  rw [uE_o (by omega) hf (by omega), uE_o (by omega) hf (by omega), uE_o (by omega) hf (by omega), uE_o (by omega) hf (by omega), uE_o (by omega) hf (by omega)]
  exact up1_n (by omega)
theorem rAdd_z {k : Nat} (hk : k < 108) : rAdd s e g w x k = if k = 10 then s 10 + 1 else s k := by
  unfold rAdd
  rw [uE_z hk, uE_z hk, uE_z hk, uE_z hk, uE_z hk]
  rfl
theorem rAdd_g {k : Nat} (he : e < 80) (hk : 508 ≤ k) : rAdd s e g w x k = s k := by
  unfold rAdd uE
  rw [up1_n (by omega), up1_n (by omega), up1_n (by omega), up1_n (by omega), up1_n (by omega), up1_n (by omega)]
theorem AtL.oth {s' : Nat → Int32} {a b : Nat} {L : List Nat} (h : AtL s a b L) (ha : 1 ≤ a) (ha9 : a < 9) (hd : ¬ 0 < eF s e 4) (hs : ∀ y f, y ≠ e → f < 5 → eF s' y f = eF s y f) (hn : ¬ (eF s' e 4 = nI a ∧ eF s' e 2 = nI b)) : e ∉ L ∧ AtL s' a b L := by
  have heL : e ∉ L := fun q => by
    have := ((h.1 e).mp q).2.1
    rw [this, nI_n0 (by omega)] at hd
    omega
  have hne : ∀ y, y ∈ L → y ≠ e := fun y hy q => heL (by rw [← q]; exact hy)
  refine ⟨heL, fun y => ?_, h.2.imp_of_mem (fun {u v} hu hv huv => by rw [hs u 3 (hne u hu) (by omega), hs v 3 (hne v hv) (by omega)]; exact huv)⟩
  by_cases hy : y = e
  · subst hy
    exact ⟨fun q => absurd q heL, fun q => absurd q.2 hn⟩
  · rw [h.1 y, hs y 4 hy (by omega), hs y 2 hy (by omega)]
theorem Str.addR (hS : Str s o qs ps bs) (he : e < 80) (hd : ¬ 0 < eF s e 4) (ho : o + 1 < 2 ^ 31) : Str (rAdd s e g w 0) (o + 1) qs ps (bs ++ [e]) := by
  obtain ⟨a, b, c, d, k, f, h⟩ := hS
  have hs : ∀ y f, y ≠ e → f < 5 → eF (rAdd s e g w 0) y f = eF s y f := fun y f hy hf => rAdd_x hy hf
  obtain ⟨-, -, e2, e3, e4⟩ := rAdd_e (s := s) (e := e) (g := g) (w := w) (x := 0)
  rw [if_pos rfl] at e4
  rw [a, nI_1] at e3
  refine ⟨by rw [rAdd_z (by omega), if_pos rfl, a, nI_1], fun y hy => ?_, fun y hy => ?_, fun q hq => ((d q hq).oth (by omega) (by omega) hd hs (fun c => ?_)).2, fun q hq => ((k q hq).oth (by omega) (by omega) hd hs (fun c => ?_)).2, ?_, fun y => ?_⟩
  · by_cases c : y = e
    · rw [c, e2]; exact ⟨0, Nat.zero_le _, rfl⟩
    · rw [hs y 2 c (by omega)]; exact b y hy
  · by_cases hc : y = e
    · subst hc
      exact ⟨7, by omega, e4, fun _ => ⟨o + 1, Nat.le_refl _, e3⟩, fun _ _ => e2, fun q => by omega⟩
    · obtain ⟨w, w1, w2, w3, w4, w5⟩ := c y hy
      refine ⟨w, w1, by rw [hs y 4 hc (by omega)]; exact w2, fun hw => ?_, by rw [hs y 2 hc (by omega)]; exact w4, fun h8 => ?_⟩
      · obtain ⟨q, q1, q2⟩ := w3 hw
        exact ⟨q, by omega, by rw [hs y 3 hc (by omega)]; exact q2⟩
      · obtain ⟨u, u1, u2, u3⟩ := w5 h8
        refine ⟨u, u1, by rw [hs y 2 hc (by omega)]; exact u2, ?_⟩
        rw [hs u 4 (fun q => hd (by rw [← q]; exact u3)) (by omega)]
        exact u3
  · rw [e4] at c
    have := (nI_eq (a := 7) (by omega) (by omega)).mp c.1
    omega
  · rw [e4] at c
    exact absurd c.1 (by decide)
  · refine List.nodup_append.mpr ⟨f, List.nodup_cons.mpr ⟨by simp, List.nodup_nil⟩, fun y hy z hz c => ?_⟩
    rw [List.mem_singleton.mp hz] at c
    subst c
    have := ((h y).mp hy).2
    rw [this] at hd
    exact hd (by decide)
  · rw [List.mem_append, List.mem_singleton]
    by_cases hc : y = e
    · subst hc
      rw [e4]
      exact ⟨fun _ => ⟨he, rfl⟩, fun _ => Or.inr rfl⟩
    · rw [hs y 4 hc (by omega), ← h y]
      exact ⟨fun q => q.resolve_right hc, fun q => Or.inl q⟩
theorem Str.addP {pe : Nat} (hS : Str s o qs ps bs) (he : e < 80) (hd : ¬ 0 < eF s e 4) (ho : o + 1 < 2 ^ 31) (hpe : pe < e) (hpa : 0 < eF s pe 4) : Str (rAdd s e g w (nI (pe + 1))) (o + 1) qs (up1 ps pe (ps pe ++ [e])) bs := by
  obtain ⟨a, b, c, d, k, f, h⟩ := hS
  have hs : ∀ y f, y ≠ e → f < 5 → eF (rAdd s e g w (nI (pe + 1))) y f = eF s y f := fun y f hy hf => rAdd_x hy hf
  obtain ⟨-, -, e2, e3, e4⟩ := rAdd_e (s := s) (e := e) (g := g) (w := w) (x := nI (pe + 1))
  rw [if_neg (nI_ne0 (by omega) (by omega))] at e4
  rw [a, nI_1] at e3
  refine ⟨by rw [rAdd_z (by omega), if_pos rfl, a, nI_1], fun y hy => ?_, fun y hy => ?_, fun q hq => ((d q hq).oth (by omega) (by omega) hd hs (fun c => ?_)).2, fun q hq => ?_, f, fun y => ?_⟩
  · by_cases c : y = e
    · rw [c, e2]; exact ⟨pe + 1, by omega, rfl⟩
    · rw [hs y 2 c (by omega)]; exact b y hy
  · by_cases hc : y = e
    · subst hc
      refine ⟨8, by omega, e4, fun _ => ⟨o + 1, Nat.le_refl _, e3⟩, fun _ q => by omega, fun _ => ⟨pe, hpe, e2, ?_⟩⟩
      rw [hs pe 4 (by omega) (by omega)]
      exact hpa
    · obtain ⟨w, w1, w2, w3, w4, w5⟩ := c y hy
      refine ⟨w, w1, by rw [hs y 4 hc (by omega)]; exact w2, fun hw => ?_, by rw [hs y 2 hc (by omega)]; exact w4, fun h8 => ?_⟩
      · obtain ⟨q, q1, q2⟩ := w3 hw
        exact ⟨q, by omega, by rw [hs y 3 hc (by omega)]; exact q2⟩
      · obtain ⟨u, u1, u2, u3⟩ := w5 h8
        refine ⟨u, u1, by rw [hs y 2 hc (by omega)]; exact u2, ?_⟩
        rw [hs u 4 (fun q => hd (by rw [← q]; exact u3)) (by omega)]
        exact u3
  · rw [e4] at c
    have := (nI_eq (a := 8) (by omega) (by omega)).mp c.1
    omega
  · by_cases hqp : q = pe
    · subst hqp
      rw [up1_s]
      have hk := k q hq
      have heL : e ∉ ps q := fun c => by
        have := ((hk.1 e).mp c).2.1
        rw [this] at hd
        exact hd (by decide)
      have hne : ∀ y, y ∈ ps q → y ≠ e := fun y hy c => heL (by rw [← c]; exact hy)
      refine ⟨fun y => ?_, ?_⟩
      · rw [List.mem_append, List.mem_singleton]
        by_cases hy : y = e
        · subst hy
          rw [e4, e2]
          exact ⟨fun _ => ⟨he, rfl, rfl⟩, fun _ => Or.inr rfl⟩
        · rw [hs y 4 hy (by omega), hs y 2 hy (by omega), ← hk.1 y]
          exact ⟨fun c => c.resolve_right hy, fun c => Or.inl c⟩
      · rw [List.pairwise_append]
        refine ⟨hk.2.imp_of_mem (fun {u v} hu hv huv => by rw [hs u 3 (hne u hu) (by omega), hs v 3 (hne v hv) (by omega)]; exact huv), List.pairwise_singleton _ _, fun y hy z hz => ?_⟩
        rw [List.mem_singleton.mp hz, e3, hs y 3 (hne y hy) (by omega)]
        obtain ⟨y1, y2, y3⟩ := (hk.1 y).mp hy
        obtain ⟨w, w1, w2, w3, -⟩ := c y y1
        obtain ⟨z, z1, z2⟩ := w3 (fun c0 => by
          rw [w2, c0] at y2
          exact absurd y2 (by decide))
        rw [z2, nI_ltI (by omega) (by omega)]
        omega
    · rw [up1_n hqp]
      refine ((k q hq).oth (by omega) (by omega) hd hs (fun c => ?_)).2
      rw [e2] at c
      have := (nI_eq (by omega) (by omega)).mp c.2
      omega
  · by_cases hc : y = e
    · subst hc
      rw [e4]
      constructor
      · intro q
        have := ((h y).mp q).2
        rw [this] at hd
        exact absurd (by decide) hd
      · rintro ⟨-, q⟩
        exact absurd q (by decide)
    · rw [hs y 4 hc (by omega), ← h y]
/-- the first that is free -/
theorem free_of {p : Nat → Bool} (c : Nat) : cntF p c < c → ∃ e, e < c ∧ ¬ p e = true ∧ ∀ x, x < e → p x = true := by
  induction c with
  | zero => intro h; omega
  | succ c ih =>
    intro h
    have h : cntF p c + (if p c = true then 1 else 0) < c + 1 := h
    by_cases hc : cntF p c < c
    · obtain ⟨e, e1, e2, e3⟩ := ih hc
      exact ⟨e, by omega, e2, e3⟩
    · have hp : ¬ p c = true := fun q => by rw [if_pos q] at h; omega
      refine ⟨c, by omega, hp, fun x hx => ?_⟩
      have full : ∀ c, cntF p c = c → ∀ x, x < c → p x = true := by
        intro c
        induction c with
        | zero => intro _ x hx; omega
        | succ c ih2 =>
          intro h2 x hx
          have h2 : cntF p c + (if p c = true then 1 else 0) = c + 1 := h2
          have := cnt_le p c
          by_cases hpc : p c = true
          · rw [if_pos hpc] at h2
            by_cases hxc : x = c
            · rw [hxc]; exact hpc
            · exact ih2 (by omega) x (by omega)
          · rw [if_neg hpc] at h2; omega
      have := cnt_le p c
      exact full c (by omega) x hx
theorem cnt_add {p q : Nat → Bool} {e : Nat} (h1 : ¬ p e = true) (h2 : q e = true) (c : Nat) : e < c → (∀ x, x < c → x ≠ e → q x = p x) → cntF q c = cntF p c + 1 := by
  induction c with
  | zero => intro he _; omega
  | succ c ih =>
    intro he h
    show cntF q c + (if q c = true then 1 else 0) = cntF p c + (if p c = true then 1 else 0) + 1
    by_cases hec : e = c
    · subst hec
      rw [if_pos h2, if_neg h1, cnt_congr (p := q) (q := p) e (fun k hk => h k (by omega) (by omega))]
    · rw [ih (by omega) (fun x hx hn => h x (by omega) hn), h c (by omega) (fun q => hec q.symm)]
      omega
end MADD
