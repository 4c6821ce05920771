def aType (A : AP) (x : Int32) : Int32 × AP := if A.2.2.2.2.2 < 60 then (nI (A.2.2.2.2.2 + 1), (A.1, A.2.1, A.2.2.1, A.2.2.2.1, up1 A.2.2.2.2.1 A.2.2.2.2.2 x, A.2.2.2.2.2 + 1)) else (-3, A)
section CE6
variable {l : Launch} {G : GG} {n : Nat} {i : IP} {r : RP} {C : Nat} {A : AP} {E : EE} {Gd : Nat → Prop}
theorem c_ceType {x : Int32} (hL : CeL G n C) (hC : RepC C A i r) (hx : narrow .char (.int x) = .int x) : Go l G mX5_type 0 0 0 0 (lentry [.ref C, .int x] 2) [] n i r (CP (aType A x) n C i r) := by
  have hc0 := hL.1
  obtain ⟨f0, f1, f2, f3, f6, f8, f80, f82⟩ := hC.1
  obtain ⟨g4, g5, g7, gt, gh, gl⟩ := hC.2.1
  have L6 := hL.2.2.2.2.2.1
  refine go_aload_n (z := 1) dX5_type_0 rfl rfl ?_
  refine go_getI (z := 4) dX5_type_1 rfl fX5_55 (by assumption) rfl ?_
  rw [g7]
  refine go_if_lt (z := 19) (z2 := 7) dX5_type_4 rfl (by decide) (fun h => absurd h (nI_pos (by omega))) (fun _ => ?_)
  refine go_aload_n (z := 8) dX5_type_7 rfl rfl ?_
  refine go_getI (z := 11) dX5_type_8 rfl fX5_55 (by assumption) rfl ?_
  refine go_aload_n (z := 12) dX5_type_11 rfl rfl ?_
  refine go_getR (z := 15) dX5_type_12 rfl fX5_26 (by assumption) rfl (by assumption) ?_
  refine go_alen (z := 16) L6 (by decide) dX5_type_15 rfl ?_
  rw [g7]
  refine go_icmp_lt (z := 22) (z2 := 19) dX5_type_16 rfl (by decide) (fun h => ?_) (fun h => ?_)
  · have hl : A.2.2.2.2.2 < 60 := (nI_ltI (b := 60) (by omega) (by omega)).mp h
    have e : aType A x = (nI (A.2.2.2.2.2 + 1), (A.1, A.2.1, A.2.2.1, A.2.2.2.1, up1 A.2.2.2.2.1 A.2.2.2.2.2 x, A.2.2.2.2.2 + 1)) := by unfold aType; rw [if_pos hl]
    rw [e]
    have hne : C ≠ C + 473 := by omega
    have g7' : ups i (C + 473) A.2.2.2.2.2 x C 7 = nI A.2.2.2.2.2 := by rw [ups_a hne]; exact g7
    refine go_aload_n (z := 23) dX5_type_22 rfl rfl ?_
    refine go_getR (z := 26) dX5_type_23 rfl fX5_26 (by assumption) rfl (by assumption) ?_
    refine go_aload_n (z := 27) dX5_type_26 rfl rfl ?_
    refine go_getI (z := 30) dX5_type_27 rfl fX5_55 (by assumption) rfl ?_
    refine go_iload_n (z := 31) dX5_type_30 rfl rfl ?_
    refine go_cast (z := 32) A.2.2.2.2.2 L6 (by decide) g7 (by omega) hx hx dX5_type_31 rfl ?_
    refine go_aload_n (z := 33) dX5_type_32 rfl rfl ?_
    refine go_dup (z := 34) dX5_type_33 rfl rfl ?_
    refine go_getI (z := 37) dX5_type_34 rfl fX5_55 (by assumption) rfl ?_
    refine go_iconst (z := 38) (v := 1) dX5_type_37 rfl (by decide) ?_
    refine go_iadd (z := 39) dX5_type_38 rfl ?_
    refine go_putI (z := 42) dX5_type_39 rfl fX5_55 (by assumption) rfl (Or.inl rfl) rfl ?_
    refine go_aload_n (z := 43) dX5_type_42 rfl rfl ?_
    refine go_getI (z := 46) dX5_type_43 rfl fX5_55 (by assumption) rfl ?_
    rw [ups_s, g7', nI_1]
    refine go_iret dX5_type_46 rfl ⟨rfl, rfl, ?_, (OutC.pi (by omega) (by omega)).tr (OutC.pi (by omega) (by omega))⟩
    refine RepC.ints hC (fun a h1 h2 => by rw [ups_row h1, ups_row h2]) rfl rfl ⟨?_, ?_, ups_s, fun k hk => ?_, gh, hl⟩ (fun j m hm => hm)
    · rw [ups_k (by decide), ups_a hne]; exact g4
    · rw [ups_k (by decide), ups_a hne]; exact g5
    · rw [ups_a (by omega)]
      by_cases hk2 : k = A.2.2.2.2.2
      · subst hk2; rw [ups_s]; exact up1_s.symm
      · rw [ups_k hk2]; exact (gt k hk).trans (up1_n hk2).symm
  · have hl : ¬ A.2.2.2.2.2 < 60 := fun q => h ((nI_ltI (b := 60) (by omega) (by omega)).mpr q)
    have e : aType A x = (-3, A) := by unfold aType; rw [if_neg hl]
    rw [e]
    refine go_bipush (z := 21) (v := (-3)) dX5_type_19 rfl (by decide) ?_
    exact go_iret dX5_type_21 rfl (cp_same hC)
theorem c_ceClear (hL : CeL G n C) (hC : RepC C A i r) : Go l G mX5_clearText 0 0 0 0 (lentry [.ref C] 2) [] n i r (CP (aClear A) n C i r) := by
  have hc0 := hL.1
  obtain ⟨g4, g5, g7, gt, gh, gl⟩ := hC.2.1
  refine go_aload_n (z := 1) dX5_clearText_0 rfl rfl ?_
  refine go_getI (z := 4) dX5_clearText_1 rfl fX5_55 (by assumption) rfl ?_
  refine go_istore_n (z := 5) dX5_clearText_4 rfl (by decide) ?_
  refine go_aload_n (z := 6) dX5_clearText_5 rfl rfl ?_
  refine go_iconst (z := 7) (v := 0) dX5_clearText_6 rfl (by decide) ?_
  refine go_putI (z := 10) dX5_clearText_7 rfl fX5_55 (by assumption) rfl (Or.inl rfl) rfl ?_
  refine go_iload_n (z := 11) dX5_clearText_10 rfl rfl ?_
  rw [g7]
  refine go_iret dX5_clearText_11 rfl ⟨rfl, rfl, ?_, OutC.pi (by omega) (by omega)⟩
  refine RepC.ints hC (fun a h1 h2 => by rw [ups_row h1]) rfl rfl ⟨?_, ?_, by rw [ups_s]; rfl, fun k hk => ?_, gh, Nat.zero_le _⟩ (fun j m hm => hm)
  · rw [ups_k (by decide)]; exact g4
  · rw [ups_k (by decide)]; exact g5
  · rw [ups_a (by omega)]; exact gt k hk
theorem c_ceUndo (hL : CeL G n C) (hC : RepC C A i r) (hH : ∀ m ∈ A.2.1, okQ G n m) : Go l G mX5_undo 2 0 0 0 (lentry [.ref C] 2) [] n i r (CP (aUndo A) n C i r) := by
  have hc0 := hL.1
  have L2 := hL.2.1
  have hs := L2.s
  have L5 := hL.2.2.2.2.1
  have hC0 := hC
  obtain ⟨⟨f0, f1, f2, f3, f6, f8, f80, f82⟩, ⟨g4, g5, g7, gt, gh, gl⟩, a3, a4, a5, p, b1, b2, b3⟩ := hC
  refine go_aload_n (z := 1) dX5_undo_0 rfl rfl ?_
  refine go_getI (z := 4) dX5_undo_1 rfl fX5_100 (by assumption) rfl ?_
  refine go_iconst (z := 5) (v := 1) dX5_undo_4 rfl (by decide) ?_
  refine go_isub (z := 6) dX5_undo_5 rfl ?_
  refine go_istore_n (z := 7) dX5_undo_6 rfl (by decide) ?_
  refine go_iload_n (z := 8) dX5_undo_7 rfl rfl ?_
  rw [g4]
  by_cases h0 : A.2.1.length = 0
  · rw [h0]
    have e : aUndo A = (-5, A) := by
      unfold aUndo
      rw [List.length_eq_zero_iff.mp h0]
      rfl
    rw [e]
    refine go_if_lt (z := 20) (z2 := 11) dX5_undo_8 rfl (by decide) (fun _ => ?_) (fun h => absurd (by decide) h)
    refine go_bipush (z := 22) (v := (-5)) dX5_undo_20 rfl (by decide) ?_
    exact go_iret dX5_undo_22 rfl (cp_same hC0)
  obtain ⟨c, hc⟩ : ∃ c, A.2.1.length = c + 1 := ⟨A.2.1.length - 1, by omega⟩
  have hsub : nI (c + 1) - 1 = nI c := by
    have := pk_sub (a := c + 1) (b := 1) (by omega)
    rw [Nat.add_sub_cancel] at this
    exact this
  rw [hc, hsub]
  refine go_if_lt (z := 20) (z2 := 11) dX5_undo_8 rfl (by decide) (fun h => absurd h (nI_pos (by omega))) (fun _ => ?_)
  refine go_iload_n (z := 12) dX5_undo_11 rfl rfl ?_
  refine go_aload_n (z := 13) dX5_undo_12 rfl rfl ?_
  refine go_getR (z := 16) dX5_undo_13 rfl fX5_22 (by assumption) rfl (by assumption) ?_
  refine go_alen (z := 17) L5 (by decide) dX5_undo_16 rfl ?_
  refine go_icmp_lt (z := 23) (z2 := 20) dX5_undo_17 rfl (by decide) (fun _ => ?_) (fun h => absurd ((nI_ltI (b := 4) (by omega) (by omega)).mpr (by omega)) h)
  have hcl : c < A.2.1.length := by omega
  have hm : A.2.1[c]? = some A.2.1[c] := List.getElem?_eq_getElem hcl
  have e : aUndo A = (nI c, (A.2.1[c], A.2.1.dropLast, A.2.2)) := by
    unfold aUndo
    rw [List.getLast?_eq_getElem?, hc, Nat.add_sub_cancel, hm]
  rw [e]
  obtain ⟨pc, rc, -⟩ := b1 c (by omega)
  have Lc := hL.2.2.2.2.2.2.2.2.2 _ pc
  have hS2 := Lc.s
  refine go_aload_n (z := 24) dX5_undo_23 rfl rfl ?_
  refine go_getR (z := 27) dX5_undo_24 rfl fX5_12 (by assumption) rfl (by assumption) ?_
  refine go_aload_n (z := 28) dX5_undo_27 rfl rfl ?_
  refine go_getR (z := 31) dX5_undo_28 rfl fX5_22 (by assumption) rfl (by assumption) ?_
  refine go_iload_n (z := 32) dX5_undo_31 rfl rfl ?_
  refine go_aaldR (z := 33) c L5 ⟨by decide, by decide⟩ (by decide) rfl (by omega) rc dX5_undo_32 rfl ?_
  refine go_callV (z := 36) (t := 4) [.ref (C + 477 + 157 * p c)] dX5_undo_33 rfl mlX4_copyFrom vX5_103 ⟨by decide, rfl⟩ hs rfl rfl (by decide) (cat_r cat_nil) (by simp) (by decide) (by first | decide | omega) (by first | decide | omega) (c_State_copyFrom L2 Lc (by omega) a3 (b3 c _ hm) (hH _ (List.getElem_mem hcl))) ?_
  refine chg_elim (fun i3 r3 hR3 hO3 => ?_)
  refine go_aload_n (z := 37) dX5_undo_36 rfl rfl ?_
  refine go_iload_n (z := 38) dX5_undo_37 rfl rfl ?_
  refine go_putI (z := 41) dX5_undo_38 rfl fX5_100 (by assumption) rfl (Or.inl rfl) rfl ?_
  refine go_aload_n (z := 42) dX5_undo_41 rfl rfl ?_
  refine go_getI (z := 45) dX5_undo_42 rfl fX5_100 (by assumption) rfl ?_
  rw [ups_s]
  have hC3 := hC0.now hR3 hO3
  obtain ⟨g4, g5, g7, gt, gh, gl⟩ := hC3.2.1
  refine go_iret dX5_undo_45 rfl ⟨rfl, rfl, ?_, (Out.c hO3 (by omega) (by omega)).tr (OutC.pi (by omega) (by omega))⟩
  refine RepC.ints hC3 (fun a h1 h2 => by rw [ups_row h1]) rfl rfl ⟨?_, ?_, ?_, fun k hk => ?_, ?_, gl⟩ (fun j m hm => ?_)
  · rw [ups_s]; show nI c = nI A.2.1.dropLast.length; rw [List.length_dropLast, hc]; rfl
  · rw [ups_k (by decide)]; exact g5
  · rw [ups_k (by decide)]; exact g7
  · rw [ups_a (by omega)]; exact gt k hk
  · show A.2.1.dropLast.length ≤ 4; rw [List.length_dropLast]; omega
  · have hm : A.2.1.dropLast[j]? = some m := hm
    show A.2.1[j]? = some m
    have hj := (List.getElem?_eq_some_iff.mp hm).1
    rw [List.getElem?_dropLast] at hm
    split at hm
    · exact hm
    · cases hm
end CE6
