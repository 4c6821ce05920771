/-! Message.tell -/
def tellM (E : EE) (x : Mg) (k now : Int32) : Int32 := if k.toInt = 0 then x.1 0 else if k.toInt = 1 then x.1 1 else if k.toInt = 2 then x.1 2 else if k.toInt = 3 then x.1 3 else if k.toInt = 4 then x.1 4 - now else if k.toInt = 5 then eWork E x.2 else if k.toInt = 6 then eAll E x.2 else -2
section MTELL
variable {l : Launch} {G : GG} {n : Nat} {i : IP} {r : RP}
theorem c_Message_tell {a : Nat} {E : EE} {Gd : Nat → Prop} {x : Mg} {k now : Int32} (ha : Ok G n a 2) (hE : RepE G n E Gd i r) (hx1 : ∀ f, f < 5 → i a f = x.1 f) (hx2 : r a 5 = x.2) (hg : ∀ b, x.2 = some b → Gd b) : Go l G mX2_tell 1 0 0 0 (lentry [.ref a, .int k, .int now] 3) [] n i r (RetI (tellM E x k now) n i r) := by
  have g0 := hx1 0 (by omega)
  have g1 := hx1 1 (by omega)
  have g2 := hx1 2 (by omega)
  have g3 := hx1 3 (by omega)
  have g4 := hx1 4 (by omega)
  refine go_iload_n (z := 1) dX2_tell_0 rfl rfl ?_
  refine go_tabS (z := 95) dX2_tell_1 rfl (fun h => ?_) (fun q h1 h2 h3 => ?_)
  · refine go_bipush (z := 97) (v := (-2)) dX2_tell_95 rfl (by decide) ?_
    exact go_iret dX2_tell_97 rfl ⟨by unfold tellM; rw [if_neg (by omega), if_neg (by omega), if_neg (by omega), if_neg (by omega), if_neg (by omega), if_neg (by omega), if_neg (by omega)], rfl, rfl, rfl⟩
  rcases (show q = 0 ∨ q = 1 ∨ q = 2 ∨ q = 3 ∨ q = 4 ∨ q = 5 ∨ q = 6 by omega) with e | e | e | e | e | e | e <;> subst e
  · refine go_tabIn (z := 44) 0 dX2_tell_1 h1 (by decide) (by decide) rfl rfl ?_
    refine go_aload_n (z := 45) dX2_tell_44 rfl rfl ?_
    refine go_getI (z := 48) dX2_tell_45 rfl fX2_9 (by assumption) rfl ?_
    exact go_iret dX2_tell_48 rfl ⟨by unfold tellM; rw [if_pos h1, g0], rfl, rfl, rfl⟩
  · refine go_tabIn (z := 49) 1 dX2_tell_1 h1 (by decide) (by decide) rfl rfl ?_
    refine go_aload_n (z := 50) dX2_tell_49 rfl rfl ?_
    refine go_getI (z := 53) dX2_tell_50 rfl fX2_15 (by assumption) rfl ?_
    exact go_iret dX2_tell_53 rfl ⟨by unfold tellM; rw [if_neg (by omega), if_pos h1, g1], rfl, rfl, rfl⟩
  · refine go_tabIn (z := 54) 2 dX2_tell_1 h1 (by decide) (by decide) rfl rfl ?_
    refine go_aload_n (z := 55) dX2_tell_54 rfl rfl ?_
    refine go_getI (z := 58) dX2_tell_55 rfl fX2_18 (by assumption) rfl ?_
    exact go_iret dX2_tell_58 rfl ⟨by unfold tellM; rw [if_neg (by omega), if_neg (by omega), if_pos h1, g2], rfl, rfl, rfl⟩
  · refine go_tabIn (z := 59) 3 dX2_tell_1 h1 (by decide) (by decide) rfl rfl ?_
    refine go_aload_n (z := 60) dX2_tell_59 rfl rfl ?_
    refine go_getI (z := 63) dX2_tell_60 rfl fX2_21 (by assumption) rfl ?_
    exact go_iret dX2_tell_63 rfl ⟨by unfold tellM; rw [if_neg (by omega), if_neg (by omega), if_neg (by omega), if_pos h1, g3], rfl, rfl, rfl⟩
  · refine go_tabIn (z := 64) 4 dX2_tell_1 h1 (by decide) (by decide) rfl rfl ?_
    refine go_aload_n (z := 65) dX2_tell_64 rfl rfl ?_
    refine go_getI (z := 68) dX2_tell_65 rfl fX2_24 (by assumption) rfl ?_
    refine go_iload_n (z := 69) dX2_tell_68 rfl rfl ?_
    refine go_isub (z := 70) dX2_tell_69 rfl ?_
    exact go_iret dX2_tell_70 rfl ⟨by unfold tellM; rw [if_neg (by omega), if_neg (by omega), if_neg (by omega), if_neg (by omega), if_pos h1, g4], rfl, rfl, rfl⟩
  · have hT : tellM E x k now = eWork E x.2 := by unfold tellM; rw [if_neg (by omega), if_neg (by omega), if_neg (by omega), if_neg (by omega), if_neg (by omega), if_pos h1]
    refine go_tabIn (z := 71) 5 dX2_tell_1 h1 (by decide) (by decide) rfl rfl ?_
    refine go_aload_n (z := 72) dX2_tell_71 rfl rfl ?_
    refine go_getO (z := 75) dX2_tell_72 rfl fX2_27 (by assumption) rfl ?_
    refine go_ifnonnull (z := 82) (z2 := 78) dX2_tell_75 rfl (by decide) (fun b hb => ?_) (fun h0 => ?_)
    · have hG := hE b (hg b (hx2.symm.trans hb))
      have hok := hG.1
      refine go_aload_n (z := 83) dX2_tell_82 rfl rfl ?_
      refine go_getR (z := 86) dX2_tell_83 rfl fX2_27 (by assumption) rfl hb ?_
      refine go_getI (z := 89) dX2_tell_86 rfl fX2_36 (by assumption) rfl ?_
      refine go_iret dX2_tell_89 rfl ⟨?_, rfl, rfl, rfl⟩
      rw [hT, ← hx2, hb, hG.2.2.2.1]; rfl
    · refine go_iconst (z := 79) (v := 0) dX2_tell_78 rfl (by decide) ?_
      refine go_goto (z := 89) dX2_tell_79 (by decide) ?_
      refine go_iret dX2_tell_89 rfl ⟨?_, rfl, rfl, rfl⟩
      rw [hT, ← hx2, h0]; rfl
  · have hT : tellM E x k now = eAll E x.2 := by unfold tellM; rw [if_neg (by omega), if_neg (by omega), if_neg (by omega), if_neg (by omega), if_neg (by omega), if_neg (by omega), if_pos h1]
    refine go_tabIn (z := 90) 6 dX2_tell_1 h1 (by decide) (by decide) rfl rfl ?_
    refine go_aload_n (z := 91) dX2_tell_90 rfl rfl ?_
    refine go_callV (z := 94) (t := 2) [] dX2_tell_91 rfl mlX2_errands vX2_39 ⟨by decide, rfl⟩ (by assumption) rfl rfl (by decide) cat_nil (by simp) (by decide) (by first | decide | omega) (by first | decide | omega) (c_Message_errands ha hE hx2 hg) ?_
    refine ret_elim ?_
    exact go_iret dX2_tell_94 rfl ⟨by rw [hT], rfl, rfl, rfl⟩
end MTELL
/-! COINERRANDS: the state now, the history (oldest first), what is kept, whether something is, the text and its length -/
abbrev AP : Type := MS × List MS × MS × Bool × (Nat → Int32) × Nat
def CeL (G : GG) (n C : Nat) : Prop := Ok G n C 5 ∧ StL G n (C + 1) ∧ StL G n (C + 158) ∧ StL G n (C + 315) ∧ OkA G n (C + 472) 12 4 ∧ OkA G n (C + 473) 8 60 ∧ Ok G n (C + 474) 3 ∧ OkA G n (C + 475) 9 15 ∧ OkA G n (C + 476) 9 15 ∧ ∀ j, j < 4 → StL G n (C + 477 + 157 * j)
def CeF (C : Nat) (r : RP) : Prop := r C 0 = some (C + 1) ∧ r C 1 = some (C + 158) ∧ r C 2 = some (C + 315) ∧ r C 3 = some (C + 472) ∧ r C 6 = some (C + 473) ∧ r C 8 = some (C + 474) ∧ r (C + 474) 0 = some (C + 475) ∧ r (C + 474) 2 = some (C + 476)
def CeI (C : Nat) (A : AP) (i : IP) : Prop := i C 4 = nI A.2.1.length ∧ i C 5 = b2i A.2.2.2.1 ∧ i C 7 = nI A.2.2.2.2.2 ∧ (∀ k, k < 60 → i (C + 473) k = A.2.2.2.2.1 k) ∧ A.2.1.length ≤ 4 ∧ A.2.2.2.2.2 ≤ 60
def CeH (C : Nat) (H : List MS) (i : IP) (r : RP) : Prop := ∃ p : Nat → Nat, (∀ j, j < 4 → p j < 4 ∧ r (C + 472) j = some (C + 477 + 157 * p j) ∧ ∃ m, Rep (C + 477 + 157 * p j) m i r) ∧ (∀ j k, j < 4 → k < 4 → p j = p k → j = k) ∧ ∀ (j : Nat) (m : MS), H[j]? = some m → Rep (C + 477 + 157 * p j) m i r
def RepC (C : Nat) (A : AP) (i : IP) (r : RP) : Prop := CeF C r ∧ CeI C A i ∧ Rep (C + 1) A.1 i r ∧ Rep (C + 158) A.2.2.1 i r ∧ (∃ m, Rep (C + 315) m i r) ∧ CeH C A.2.1 i r
def OutC (C : Nat) (i : IP) (r : RP) (i' : IP) (r' : RP) : Prop := ∀ a, a < C ∨ C + 1105 ≤ a → i' a = i a ∧ r' a = r a
theorem OutC.rf {C : Nat} {i : IP} {r : RP} : OutC C i r i r := fun _ _ => ⟨rfl, rfl⟩
theorem OutC.tr {C : Nat} {i i1 i2 : IP} {r r1 r2 : RP} (h1 : OutC C i r i1 r1) (h2 : OutC C i1 r1 i2 r2) : OutC C i r i2 r2 := fun a ha => ⟨(h2 a ha).1.trans (h1 a ha).1, (h2 a ha).2.trans (h1 a ha).2⟩
theorem Out.c {C S : Nat} {i i1 : IP} {r r1 : RP} (h : Out S i r i1 r1) (h1 : C ≤ S) (h2 : S + 157 ≤ C + 1105) : OutC C i r i1 r1 := fun a ha => h a (by omega)
theorem OutC.pi {C : Nat} {i : IP} {r : RP} {a k : Nat} {x : Int32} (h1 : C ≤ a) (h2 : a < C + 1105) : OutC C i r (ups i a k x) r := fun q hq => ⟨ups_row (by omega), rfl⟩
theorem OutC.pr {C : Nat} {i : IP} {r : RP} {a k : Nat} {x : Option Nat} (h1 : C ≤ a) (h2 : a < C + 1105) : OutC C i r i (ups r a k x) := fun q hq => ⟨rfl, ups_row (by omega)⟩
theorem Rep.o {S S' : Nat} {m : MS} {i i' : IP} {r r' : RP} (h : Rep S m i r) (ho : Out S' i r i' r') (hd : S + 157 ≤ S' ∨ S' + 157 ≤ S) : Rep S m i' r' := h.frame (fun a h1 h2 => ho a (by omega))
section REPC
variable {C : Nat} {A : AP} {i i' : IP} {r r' : RP} {m : MS}
theorem CeF.o {S : Nat} (h : CeF C r) (ho : Out S i r i' r') (h1 : S + 157 ≤ C + 472 ∨ C + 477 ≤ S) (h0 : C < S) : CeF C r' := by
  have e1 : r' C = r C := (ho C (by omega)).2
  have e2 : r' (C + 474) = r (C + 474) := (ho _ (by omega)).2
  unfold CeF
  rw [e1, e2]
  exact h
theorem CeI.o {S : Nat} (h : CeI C A i) (ho : Out S i r i' r') (h1 : S + 157 ≤ C + 472 ∨ C + 477 ≤ S) (h0 : C < S) : CeI C A i' := by
  have e1 : i' C = i C := (ho C (by omega)).1
  have e2 : i' (C + 473) = i (C + 473) := (ho _ (by omega)).1
  unfold CeI
  rw [e1, e2]
  exact h
theorem CeH.o {S : Nat} {H : List MS} (h : CeH C H i r) (hl : H.length ≤ 4) (ho : Out S i r i' r') (h1 : S + 157 ≤ C + 472) : CeH C H i' r' := by
  obtain ⟨p, a1, a2, a3⟩ := h
  refine ⟨p, fun j hj => ⟨(a1 j hj).1, ?_, ?_⟩, a2, fun j m hm => ?_⟩
  · rw [(ho (C + 472) (by omega)).2]; exact (a1 j hj).2.1
  · obtain ⟨m, hm⟩ := (a1 j hj).2.2
    exact ⟨m, hm.o ho (by omega)⟩
  · exact (a3 j m hm).o ho (by omega)
theorem RepC.now (h : RepC C A i r) (hR : Rep (C + 1) m i' r') (ho : Out (C + 1) i r i' r') : RepC C (m, A.2) i' r' := by
  obtain ⟨a1, a2, a3, a4, ⟨q, a5⟩, a6⟩ := h
  exact ⟨a1.o ho (by omega) (by omega), CeI.o (A := A) a2 ho (by omega) (by omega), hR, a4.o ho (by omega), ⟨q, a5.o ho (by omega)⟩, a6.o a2.2.2.2.2.1 ho (by omega)⟩
theorem RepC.snap (h : RepC C A i r) (hR : Rep (C + 158) m i' r') (ho : Out (C + 158) i r i' r') : RepC C (A.1, A.2.1, m, A.2.2.2) i' r' := by
  obtain ⟨a1, a2, a3, a4, ⟨q, a5⟩, a6⟩ := h
  exact ⟨a1.o ho (by omega) (by omega), CeI.o (A := A) a2 ho (by omega) (by omega), a3.o ho (by omega), hR, ⟨q, a5.o ho (by omega)⟩, a6.o a2.2.2.2.2.1 ho (by omega)⟩
theorem RepC.trial (h : RepC C A i r) (hR : Rep (C + 315) m i' r') (ho : Out (C + 315) i r i' r') : RepC C A i' r' := by
  obtain ⟨a1, a2, a3, a4, ⟨q, a5⟩, a6⟩ := h
  exact ⟨a1.o ho (by omega) (by omega), CeI.o (A := A) a2 ho (by omega) (by omega), a3.o ho (by omega), a4.o ho (by omega), ⟨m, hR⟩, a6.o a2.2.2.2.2.1 ho (by omega)⟩
/-- the ints of the object itself and of its text -/
theorem RepC.ints {A' : AP} (h : RepC C A i r) (ho : ∀ a, a ≠ C → a ≠ C + 473 → i' a = i a) (h1 : A'.1 = A.1) (h2 : A'.2.2.1 = A.2.2.1) (hI : CeI C A' i') (hH : ∀ (j : Nat) (m : MS), A'.2.1[j]? = some m → A.2.1[j]? = some m) : RepC C A' i' r := by
  obtain ⟨a1, a2, a3, a4, ⟨q, a5⟩, p, b1, b2, b3⟩ := h
  have fr : ∀ S m, C < S → (S + 157 ≤ C + 473 ∨ C + 473 < S) → Rep S m i r → Rep S m i' r := fun S m c1 c2 hR => hR.frame (fun a d1 d2 => ⟨ho a (by omega) (by omega), rfl⟩)
  refine ⟨a1, hI, ?_, ?_, ⟨q, fr _ _ (by omega) (by omega) a5⟩, p, fun j hj => ⟨(b1 j hj).1, (b1 j hj).2.1, ?_⟩, b2, fun j m hm => fr _ _ (by omega) (by omega) (b3 j m (hH j m hm))⟩
  · rw [h1]; exact fr _ _ (by omega) (by omega) a3
  · rw [h2]; exact fr _ _ (by omega) (by omega) a4
  · obtain ⟨m, hm⟩ := (b1 j hj).2.2
    exact ⟨m, fr _ _ (by omega) (by omega) hm⟩
end REPC
/-! what a call of the program does: an answer, a new state of all -/
def CQ (x : Int32) (n C : Nat) (A : AP) (i : IP) (r : RP) : QP := fun v n' i' r' => v = some (.int x) ∧ n' = n ∧ RepC C A i' r' ∧ OutC C i r i' r'
def aRec (A : AP) : AP := if A.2.1.length < 4 then (A.1, A.2.1 ++ [A.1], A.2.2) else (A.1, A.2.1.tail ++ [A.1], A.2.2)
