theorem hd_out (x : Mg) (m : MS) : mOut 0 (hdM x m) = m := rfl
theorem Inv.tl {E : EE} {Gd : Nat → Prop} {T B : Nat} {b : Nat → Nat} {x : Mg} {m : MS} (hI : Inv E Gd T B b (hdM x m)) : Inv E Gd T B b m := by
  obtain ⟨i1, i2, i3, i4, i5, i6, i7, i8⟩ := hI
  have ec : ∀ p : Mg → Bool, m.2.2.2.2.countP p ≤ (hdM x m).2.2.2.2.countP p := fun p => by
    show m.2.2.2.2.countP p ≤ (x :: m.2.2.2.2).countP p
    rw [List.countP_cons]
    omega
  refine ⟨i1, i2, i3, fun y hy => i4 y (List.mem_cons_of_mem _ hy), ?_, fun h hh => ?_, fun h hh => ⟨(i7 h hh).1, fun d hd => Nat.le_trans (ec _) ((i7 h hh).2 d hd)⟩, (List.pairwise_cons.mp i8).2⟩
  · have e : mAll E (hdM x m) = sumQ E m.2.2.2.1 6 + (sz E x.2 + sumM E m.2.2.2.2) := by
      show sumQ E m.2.2.2.1 6 + sumM E (x :: m.2.2.2.2) = _
      unfold sumM
      rw [List.map_cons, List.sum_cons]
    rw [e] at i5
    unfold mAll
    omega
  · have h1 := i6 h hh
    have h2 := ec (agOf h)
    show m.2.2.2.2.countP (agOf h) + n01 (m.2.2.1 h 5) ≤ n01 (m.2.2.1 h 4)
    have h1 : (hdM x m).2.2.2.2.countP (agOf h) + n01 (m.2.2.1 h 5) ≤ n01 (m.2.2.1 h 4) := h1
    omega
/-- an arrival does not touch the messages before those that it puts in -/
theorem hd_arr {E : EE} {Gd : Nat → Prop} {x y : Mg} {m : MS} (hE : EOk E Gd) (hy : MgOk Gd y) (hq : ∀ h, h < 6 → ∀ e ∈ m.2.2.2.1 h, Gd e) (hx : ∀ k, k < 49 → x.1 4 ≤ m.1 0 + m.2.1 k) : mArr E y (hdM x m) = hdM x (mArr E y m) := by
  obtain ⟨f, t, hf, ht, e1, e2, hk⟩ := hy
  have c1 : (y.1 1).toNatClampNeg = f := by rw [e1]; exact nI_clamp (by omega)
  have c2 : (y.1 2).toNatClampNeg = t := by rw [e2]; exact nI_clamp (by omega)
  unfold mArr
  rw [c1, c2]
  rcases hk with ⟨k0, ht6, a, ha, hg⟩ | ⟨k1, hf6, -⟩ | ⟨k2, ht6, -⟩ | ⟨k3, hf6, -⟩
  · rw [k0, if_neg (by decide), if_neg (by decide), if_neg (by decide), if_neg (by decide), if_neg (by decide), if_neg (by decide), ha]
    refine hd_send (m := mTake E t a (sH m t 1 (m.2.2.1 t 1 + y.1 3))) hE ht6 (fun e he => ?_) hx
    have he : e ∈ up1 m.2.2.2.1 t (m.2.2.2.1 t ++ E.2.2.2 a) t := he
    rw [up1_s] at he
    rcases List.mem_append.mp he with q | q
    · exact hq t ht6 e q
    · exact (hE a hg).2.1 e q
  · rw [k1, if_neg (by decide), if_pos rfl, if_neg (by decide), if_pos rfl]
    exact hd_post (m := mMint m) (hx (6 * 7 + f) (by omega))
  · rw [k2, if_neg (by decide), if_neg (by decide), if_pos rfl, if_neg (by decide), if_neg (by decide), if_pos rfl]
    exact hd_send (m := sH (sH m t 1 (m.2.2.1 t 1 + y.1 3)) t 4 0) hE ht6 (hq t ht6) hx
  · rw [k3, if_pos rfl, if_pos rfl]
    rfl
theorem hd_step {E : EE} {Gd : Nat → Prop} {x : Mg} {m : MS} (hE : EOk E Gd) (hy : MgOk Gd x) (hq : ∀ h, h < 6 → ∀ e ∈ m.2.2.2.1 h, Gd e) (hx : ∀ k, k < 49 → x.1 4 ≤ m.1 0 + m.2.1 k) : mStep E (hdM x m) = mArr E x m := by
  show mOut 0 (mArr E x (hdM x m)) = _
  rw [hd_arr hE hy hq hx, hd_out]
