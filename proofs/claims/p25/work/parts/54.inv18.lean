/-! ALL THE STATES of a CoinErrands keep it, each at its own time -/
def SInv (E : EE) (Gd : Nat → Prop) (m : MS) : Prop := ∃ T, T ≤ 1000000 ∧ Inv E Gd T T (fun _ => T) m
def AInv (E : EE) (Gd : Nat → Prop) (A : AP) : Prop := SInv E Gd A.1 ∧ (∀ m ∈ A.2.1, SInv E Gd m) ∧ SInv E Gd A.2.2.1
section AINV
variable {E : EE} {Gd : Nat → Prop} {A : AP}
theorem AInv.rec (h : AInv E Gd A) : AInv E Gd (aRec A) := by
  obtain ⟨h1, h2, h3⟩ := h
  unfold aRec
  split
  · refine ⟨h1, fun m hm => ?_, h3⟩
    rcases List.mem_append.mp hm with e | e
    · exact h2 m e
    · rw [List.mem_singleton.mp e]; exact h1
  · refine ⟨h1, fun m hm => ?_, h3⟩
    rcases List.mem_append.mp hm with e | e
    · exact h2 m (List.mem_of_mem_tail e)
    · rw [List.mem_singleton.mp e]; exact h1
theorem AInv.aR (h : AInv E Gd A) {m : MS} (hm : SInv E Gd m) : AInv E Gd (aR A m) := ⟨hm, h.rec.2.1, h.rec.2.2⟩
theorem isW_of {x : Int32} (h : isW x = true) : ∃ w, 1 ≤ w ∧ w ≤ 9 ∧ x = nI w := by
  unfold isW at h
  rw [Bool.and_eq_true] at h
  have h1 := of_decide_eq_true h.1
  have h2 := of_decide_eq_true h.2
  obtain ⟨c, hc, hx⟩ := nI_of (x := x) (fun q => absurd (Int32.lt_of_lt_of_le q (Int32.le_trans (by decide : (0 : Int32) ≤ 1) h1)) Int32.lt_irrefl)
  subst hx
  exact ⟨c, (nI_leI (a := 1) (by omega) hc).mp h1, (nI_leI (b := 9) hc (by omega)).mp h2, rfl⟩
theorem AInv.way (h : AInv E Gd A) {a b : Nat} {x : Int32} (hx : isW x = true) : AInv E Gd (aWay A a b x).2 := by
  unfold aWay
  split
  · exact h
  · obtain ⟨T, hT, hI⟩ := h.1
    obtain ⟨w, w1, w2, w3⟩ := isW_of hx
    subst w3
    exact h.aR ⟨T, hT, (hI.setW w1 w2).setW w1 w2⟩
theorem AInv.time (h : AInv E Gd A) (x y t : Int32) : AInv E Gd (aTime A x y t).2 := by
  unfold aTime
  split
  · split
    · rename_i q; exact h.way q.1
    · exact h
  · exact h
theorem AInv.bank (h : AInv E Gd A) (x t : Int32) : AInv E Gd (aBank A x t).2 := by
  unfold aBank
  split
  · split
    · rename_i q; exact h.way q
    · exact h
  · exact h
theorem AInv.set (h : AInv E Gd A) (k x : Int32) : AInv E Gd (aSet A k x).2 := by
  obtain ⟨T, hT, hI⟩ := h.1
  unfold aSet
  split
  · unfold aPow
    split
    · rename_i q
      split
      · exact h
      · exact h.aR ⟨T, hT, hI.setP q.1 q.2⟩
    · exact h
  · split
    · unfold aLea
      split
      · rename_i q
        split
        · exact h
        · exact h.aR ⟨T, hT, hI.setL q.1 q.2⟩
      · exact h
    · exact h
theorem AInv.good (h : AInv E Gd A) (hE : EOk E Gd) : AInv E Gd (aGood E A).2 := by
  obtain ⟨T, hT, hI⟩ := h.1
  unfold aGood
  split
  · exact h
  · exact h.aR ⟨T, hT, (hI.good hE (Nat.le_refl _)).2⟩
theorem AInv.lose (h : AInv E Gd A) (x : Int32) : AInv E Gd (aLose A x).2 := by
  obtain ⟨T, hT, hI⟩ := h.1
  unfold aLose
  split
  · exact h
  · cases hq : A.1.2.2.2.2[x.toNatClampNeg]? with
    | none => exact h
    | some y => exact h.aR ⟨T, hT, hI.drop hq⟩
theorem AInv.type (h : AInv E Gd A) (x : Int32) : AInv E Gd (aType A x).2 := by
  unfold aType
  split
  · exact h
  · exact h
theorem AInv.clear (h : AInv E Gd A) : AInv E Gd (aClear A).2 := h
theorem AInv.keep (h : AInv E Gd A) : AInv E Gd (aKeep A).2 := ⟨h.1, h.2.1, h.1⟩
theorem AInv.rest (h : AInv E Gd A) : AInv E Gd (aRest A).2 := by
  unfold aRest
  split
  · exact h.aR h.2.2
  · exact h
theorem AInv.undo (h : AInv E Gd A) : AInv E Gd (aUndo A).2 := by
  unfold aUndo
  cases hq : A.2.1.getLast? with
  | none => exact h
  | some m => exact ⟨h.2.1 m (List.mem_of_getLast? hq), fun y hy => h.2.1 y (List.dropLast_subset _ hy), h.2.2⟩
end AINV
