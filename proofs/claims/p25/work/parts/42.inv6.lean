theorem Inv.upd {E : EE} {Gd : Nat → Prop} {T B : Nat} {b : Nat → Nat} {m m' : MS} (hI : Inv E Gd T B b m) (h0 : m'.1 0 = m.1 0 ∧ m'.1 1 = m.1 1 ∧ m'.1 2 = m.1 2) (hw : m'.2.1 = m.2.1) (hq : ∀ h, h < 6 → ∀ e ∈ m'.2.2.2.1 h, Gd e) (hms : m'.2.2.2.2 = m.2.2.2.2) (hall : mAll E m' ≤ 80) (hag : ∀ h, h < 6 → m.2.2.2.2.countP (agOf h) + n01 (m'.2.2.1 h 5) ≤ n01 (m'.2.2.1 h 4)) : Inv E Gd T B b m' := by
  obtain ⟨⟨z0, z1, z2, z3, z4, z5⟩, i2, i3, i4, i5, i6, i7, i8⟩ := hI
  exact ⟨⟨by rw [h0.1]; exact z0, z1, by rw [h0.2.1]; exact z2, by rw [h0.2.1]; exact z3, by rw [h0.2.2]; exact z4, by rw [h0.2.2]; exact z5⟩, by rw [hw]; exact i2, hq, by rw [hms]; exact i4, hall, by rw [hms]; exact hag, by rw [hms]; exact i7, by rw [hms]; exact i8⟩
theorem all_hd {E : EE} {x : Mg} {m : MS} : mAll E (hdM x m) = sz E x.2 + mAll E m := by
  have e : mAll E (hdM x m) = sumQ E m.2.2.2.1 6 + (sz E x.2 + sumM E m.2.2.2.2) := by
    show sumQ E m.2.2.2.1 6 + sumM E (x :: m.2.2.2.2) = _
    unfold sumM
    rw [List.map_cons, List.sum_cons]
  rw [e]
  unfold mAll
  omega
/-- an arrival keeps it all -/
theorem Inv.arr2 {E : EE} {Gd : Nat → Prop} {T B : Nat} {b : Nat → Nat} {x : Mg} {m : MS} (ht : Inv E Gd T B b m) (hE : EOk E Gd) (hB : B ≤ T) (hx : MgOk Gd x) (hal : sz E x.2 + mAll E m ≤ 80) (hg6 : ∀ h, h < 6 → m.2.2.2.2.countP (agOf h) + (if agOf h x = true then 1 else 0) + n01 (m.2.2.1 h 5) ≤ n01 (m.2.2.1 h 4)) : Inv E Gd T B b (mArr E x m) := by
  have hg0 : ∀ h, h < 6 → m.2.2.2.2.countP (agOf h) + n01 (m.2.2.1 h 5) ≤ n01 (m.2.2.1 h 4) := fun h hh => ht.2.2.2.2.2.1 h hh
  obtain ⟨f, t, hf, ht7, e1, e2, hk⟩ := hx
  have c1 : (x.1 1).toNatClampNeg = f := by rw [e1]; exact nI_clamp (by omega)
  have c2 : (x.1 2).toNatClampNeg = t := by rw [e2]; exact nI_clamp (by omega)
  unfold mArr
  rw [c1, c2]
  rcases hk with ⟨k0, ht6, a, ha, hg⟩ | ⟨k1, hf6, -⟩ | ⟨k2, ht6, -⟩ | ⟨k3, hf6, -⟩
  · rw [k0, if_neg (by decide), if_neg (by decide), if_neg (by decide), ha]
    have hsz : sz E x.2 = E.2.2.1 a := by rw [ha]; rfl
    have h3 := (hE a hg).2.2.2.1
    refine Inv.send (m := mTake E t a (sH m t 1 (m.2.2.1 t 1 + x.1 3))) (Inv.upd ht ⟨rfl, rfl, rfl⟩ rfl (fun h hh e he => ?_) rfl ?_ (fun h hh => ?_)) hE hB ht6
    · have he : e ∈ up1 m.2.2.2.1 t (m.2.2.2.1 t ++ E.2.2.2 a) h := he
      by_cases eh : h = t
      · rw [eh, up1_s] at he
        rcases List.mem_append.mp he with q | q
        · exact ht.2.2.1 t ht6 e q
        · exact (hE a hg).2.1 e q
      · rw [up1_n eh] at he
        exact ht.2.2.1 h hh e he
    · have h5 := sumQ_up E m.2.2.2.1 ht6 (m.2.2.2.1 t ++ E.2.2.2 a)
      rw [List.map_append, List.sum_append] at h5
      show sumQ E (up1 m.2.2.2.1 t (m.2.2.2.1 t ++ E.2.2.2 a)) 6 + sumM E m.2.2.2.2 ≤ 80
      unfold mAll at hal
      omega
    · have e5 : ∀ k, k ≠ 0 → k ≠ 6 → k ≠ 2 → k ≠ 3 → k ≠ 1 → (mTake E t a (sH m t 1 (m.2.2.1 t 1 + x.1 3))).2.2.1 h k = m.2.2.1 h k := fun k k0 k6 k2 k3 k1 => by
        show ups (ups (ups (ups (ups m.2.2.1 t 1 _) t 0 _) t 6 _) t 2 _) t 3 _ h k = _
        rw [ups_k k3, ups_k k2, ups_k k6, ups_k k0, ups_k k1]
      rw [e5 5 (by decide) (by decide) (by decide) (by decide) (by decide), e5 4 (by decide) (by decide) (by decide) (by decide) (by decide)]
      exact hg0 h hh
  · rw [k1, if_neg (by decide), if_pos rfl]
    have hat := ht.at (f := 6) (t := f) (by omega) (by omega) hB
    have h1 : agOf f x = true := decide_eq_true (Or.inl ⟨k1, e1⟩)
    refine Inv.post (y := (mg 2 (nI 6) (nI f) (coin m) (m.1 0 + m.2.1 (6 * 7 + f)), none)) ht ⟨rfl, rfl, rfl⟩ rfl ht.2.2.1 rfl ⟨6, f, by omega, hf, rfl, rfl, Or.inr (Or.inr (Or.inl ⟨rfl, hf6, rfl⟩))⟩ hat (Nat.le_refl _) (fun g hg => ?_) (fun g hg => ⟨(ht.2.2.2.2.2.2.1 g hg).1, fun d hd => ?_⟩)
    · have h2 := hg6 g hg
      by_cases eg : g = f
      · subst eg
        rw [h1, if_pos rfl] at h2
        show m.2.2.2.2.countP (agOf g) + _ + n01 (m.2.2.1 g 5) ≤ n01 (m.2.2.1 g 4)
        split <;> omega
      · have en : agOf g (mg 2 (nI 6) (nI f) (coin m) (m.1 0 + m.2.1 (6 * 7 + f)), none) = false := decide_eq_false (fun c => by
          rcases c with c | c
          · exact absurd c.1 (show ¬ (2 : Int32) = 1 by decide)
          · exact eg ((nI_eq (a := f) (b := g) (by omega) (by omega)).mp c.2).symm)
        rw [en]
        exact hg0 g hg
    · have en : hmOf g (b g + d) (mg 2 (nI 6) (nI f) (coin m) (m.1 0 + m.2.1 (6 * 7 + f)), none) = false := decide_eq_false (fun c => absurd c.1 (show ¬ (2 : Int32) = 3 by decide))
      rw [en]
      exact (ht.2.2.2.2.2.2.1 g hg).2 d hd
  · rw [k2, if_neg (by decide), if_neg (by decide), if_pos rfl]
    have h1 : agOf t x = true := decide_eq_true (Or.inr ⟨k2, e2⟩)
    refine Inv.send (m := sH (sH m t 1 (m.2.2.1 t 1 + x.1 3)) t 4 0) (Inv.upd ht ⟨rfl, rfl, rfl⟩ rfl ht.2.2.1 rfl (by show mAll E m ≤ 80; omega) (fun h hh => ?_)) hE hB ht6
    show m.2.2.2.2.countP (agOf h) + n01 (ups (ups m.2.2.1 t 1 _) t 4 0 h 5) ≤ n01 (ups (ups m.2.2.1 t 1 _) t 4 0 h 4)
    rw [ups_k (show (5 : Nat) ≠ 4 by decide), ups_k (show (5 : Nat) ≠ 1 by decide)]
    have h2 := hg6 h hh
    by_cases eh : h = t
    · subst eh
      rw [h1, if_pos rfl] at h2
      have := n01_le (m.2.2.1 h 4)
      rw [ups_s]
      show _ ≤ 0
      omega
    · rw [ups_a eh, ups_k (show (4 : Nat) ≠ 1 by decide)]
      exact hg0 h hh
  · rw [k3, if_pos rfl]
    exact Inv.upd ht ⟨rfl, rfl, rfl⟩ rfl ht.2.2.1 rfl (by show mAll E m ≤ 80; omega) hg0
theorem Inv.hg6 {E : EE} {Gd : Nat → Prop} {T B : Nat} {b : Nat → Nat} {x : Mg} {m : MS} (hI : Inv E Gd T B b (hdM x m)) : ∀ h, h < 6 → m.2.2.2.2.countP (agOf h) + (if agOf h x = true then 1 else 0) + n01 (m.2.2.1 h 5) ≤ n01 (m.2.2.1 h 4) := fun h hh => by
  have h1 : (x :: m.2.2.2.2).countP (agOf h) + n01 (m.2.2.1 h 5) ≤ n01 (m.2.2.1 h 4) := hI.2.2.2.2.2.1 h hh
  rw [List.countP_cons] at h1
  exact h1
theorem Inv.arr {E : EE} {Gd : Nat → Prop} {T B : Nat} {b : Nat → Nat} {x : Mg} {m : MS} (hI : Inv E Gd T B b (hdM x m)) (hE : EOk E Gd) (hB : B ≤ T) : Inv E Gd T B b (mArr E x m) := hI.tl.arr2 hE hB (hI.2.2.2.1 x List.mem_cons_self).1 (by rw [← all_hd]; exact hI.2.2.2.2.1) hI.hg6
