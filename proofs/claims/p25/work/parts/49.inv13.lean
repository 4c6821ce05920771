theorem fW_of (k : Nat) : ∃ w, 1 ≤ w ∧ w ≤ 9 ∧ fW (k / 7) (k % 7) = nI w := by
  unfold fW
  split
  · exact ⟨1, by omega, by omega, rfl⟩
  · split
    · exact ⟨3, by omega, by omega, rfl⟩
    · exact ⟨2, by omega, by omega, rfl⟩
theorem Inv.fresh {E : EE} {Gd : Nat → Prop} {m : MS} (h0 : m.1 0 = 0 ∧ 2 ≤ m.1 1 ∧ m.1 1 ≤ 16 ∧ 1 ≤ m.1 2 ∧ m.1 2 ≤ 99) (hw : ∀ k, k < 49 → ∃ w, 1 ≤ w ∧ w ≤ 9 ∧ m.2.1 k = nI w) (hH : m.2.2.1 = fun _ _ => 0) (hQ : m.2.2.2.1 = fun _ => []) (hM : m.2.2.2.2 = []) : Inv E Gd 0 0 (fun _ => 0) m := by
  refine ⟨⟨h0.1, by omega, h0.2⟩, hw, fun h hh e he => ?_, fun x hx => ?_, ?_, fun h hh => ?_, fun h hh => ⟨Nat.le_refl _, fun d hd => ?_⟩, ?_⟩
  · rw [hQ] at he; cases he
  · rw [hM] at hx; cases hx
  · unfold mAll
    rw [sumQ_s6, hQ, hM]
    exact Nat.zero_le _
  · rw [hM, hH]; exact Nat.zero_le _
  · rw [hM]; exact Nat.zero_le _
  · rw [hM]; exact List.Pairwise.nil
theorem Inv.m0 {E : EE} {Gd : Nat → Prop} : Inv E Gd 0 0 (fun _ => 0) m0 := Inv.fresh ⟨rfl, by decide, by decide, by decide, by decide⟩ (fun k _ => fW_of k) rfl rfl rfl
theorem Inv.mNew {E : EE} {Gd : Nat → Prop} {T B : Nat} {b : Nat → Nat} {m : MS} (hI : Inv E Gd T B b m) {x : Int32} (h1 : 2 ≤ x) (h2 : x ≤ 16) : Inv E Gd 0 0 (fun _ => 0) (mNew m x) := Inv.fresh ⟨rfl, h1, h2, hI.1.2.2.2.2.1, hI.1.2.2.2.2.2⟩ hI.2.1 rfl rfl rfl
