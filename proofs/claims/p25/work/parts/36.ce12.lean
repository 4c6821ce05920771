/-! a new CoinErrands -/
def A0 : AP := (m0, [], m0, false, fun _ => 0, 0)
theorem new_state {S n' : Nat} {i i' : IP} {r r' : RP} {v : Option Value} (h : InitQ (S + 157) S (upa i S 0) (upa r S none) v n' i' r') : v = none ∧ n' = S + 157 ∧ Rep S m0 i' r' ∧ Out S i r i' r' := by
  obtain ⟨h1, h2, h3, h4⟩ := h
  exact ⟨h1, h2, h3, fun a ha => ⟨(h4 a ha).1.trans (upa_row (by omega)), (h4 a ha).2.trans (upa_row (by omega))⟩⟩
/-- what stands after c states of the history -/
def CeP (C c : Nat) (i0 : IP) (r0 : RP) (i : IP) (r : RP) : Prop := CeF C r ∧ (i C 4 = 0 ∧ i C 5 = 0 ∧ i C 7 = 0 ∧ ∀ k, k < 60 → i (C + 473) k = 0) ∧ Rep (C + 1) m0 i r ∧ Rep (C + 158) m0 i r ∧ Rep (C + 315) m0 i r ∧ (∀ j, j < c → r (C + 472) j = some (C + 477 + 157 * j) ∧ Rep (C + 477 + 157 * j) m0 i r) ∧ OutC C i0 r0 i r
theorem CeP.fin {C : Nat} {i0 i : IP} {r0 r : RP} (h : CeP C 4 i0 r0 i r) : RepC C A0 i r := by
  obtain ⟨h1, ⟨h4, h5, h7, ht⟩, a1, a2, a3, a4, -⟩ := h
  exact ⟨h1, ⟨h4, h5, h7, ht, Nat.zero_le _, Nat.zero_le _⟩, a1, a2, ⟨_, a3⟩, fun j => j, fun j hj => ⟨hj, (a4 j hj).1, _, (a4 j hj).2⟩, fun j k _ _ e => e, fun j m hm => by cases hm⟩
theorem CeP.step {C c : Nat} {i0 i i' : IP} {r0 r r' : RP} (h : CeP C c i0 r0 i r) (hc : c < 4) (hR : Rep (C + 477 + 157 * c) m0 i' r') (ho : Out (C + 477 + 157 * c) i r i' r') : CeP C (c + 1) i0 r0 i' (ups r' (C + 472) c (some (C + 477 + 157 * c))) := by
  obtain ⟨⟨f0, f1, f2, f3, f6, f8, f80, f82⟩, ⟨h4, h5, h7, ht⟩, a1, a2, a3, a4, a5⟩ := h
  have oC := ho C (by omega)
  have fr : ∀ S m, C < S → (S + 157 ≤ C + 472 ∨ C + 472 < S) → Rep S m i' r' → Rep S m i' (ups r' (C + 472) c (some (C + 477 + 157 * c))) := fun S m c1 c2 hR => hR.frame (fun a d1 d2 => ⟨rfl, ups_row (by omega)⟩)
  refine ⟨?_, ⟨?_, ?_, ?_, fun k hk => ?_⟩, fr _ _ (by omega) (by omega) (a1.o ho (by omega)), fr _ _ (by omega) (by omega) (a2.o ho (by omega)), fr _ _ (by omega) (by omega) (a3.o ho (by omega)), fun j hj => ?_, fun a ha => ?_⟩
  · unfold CeF
    rw [ups_row (show C ≠ C + 472 by omega), ups_row (show C + 474 ≠ C + 472 by omega), oC.2, (ho (C + 474) (by omega)).2]
    exact ⟨f0, f1, f2, f3, f6, f8, f80, f82⟩
  · rw [oC.1]; exact h4
  · rw [oC.1]; exact h5
  · rw [oC.1]; exact h7
  · rw [(ho (C + 473) (by omega)).1]; exact ht k hk
  · by_cases e : j = c
    · subst e
      exact ⟨ups_s, fr _ _ (by omega) (by omega) hR⟩
    · obtain ⟨b1, b2⟩ := a4 j (by omega)
      exact ⟨by rw [ups_k e, (ho (C + 472) (by omega)).2]; exact b1, fr _ _ (by omega) (by omega) (b2.o ho (by omega))⟩
  · rw [ups_row (by omega)]
    exact ⟨(ho a (by omega)).1.trans (a5 a ha).1, (ho a (by omega)).2.trans (a5 a ha).2⟩
theorem ceP0 {C : Nat} {i i3 : IP} {r r3 : RP} (h30 : r3 C 0 = some (C + 1)) (h31 : r3 C 1 = some (C + 158)) (hi : ∀ k, i3 C k = 0) (a1 : Rep (C + 1) m0 i3 r3) (a2 : Rep (C + 158) m0 i3 r3) (a3 : Rep (C + 315) m0 i3 r3) (ho : OutC C i r i3 r3) : CeP C 0 i r (upa (upa (upa (upa (upa i3 (C + 472) 0) (C + 473) 0) (C + 474) 0) (C + 475) 0) (C + 476) 0) (ups (ups (upa (ups (upa (upa (ups (upa (ups (upa (ups r3 C 2 (some (C + 315))) (C + 472) none) C 3 (some (C + 472))) (C + 473) none) C 6 (some (C + 473))) (C + 474) none) (C + 475) none) (C + 474) 0 (some (C + 475))) (C + 476) none) (C + 474) 2 (some (C + 476))) C 8 (some (C + 474))) := by
  have fi : ∀ a, a < C + 472 ∨ C + 477 ≤ a → (upa (upa (upa (upa (upa i3 (C + 472) 0) (C + 473) 0) (C + 474) 0) (C + 475) 0) (C + 476) 0) a = i3 a := by
    intro a ha
    rw [upa_row (by omega), upa_row (by omega), upa_row (by omega), upa_row (by omega), upa_row (by omega)]
  have fr : ∀ a, a ≠ C → a < C + 472 ∨ C + 477 ≤ a → (ups (ups (upa (ups (upa (upa (ups (upa (ups (upa (ups r3 C 2 (some (C + 315))) (C + 472) none) C 3 (some (C + 472))) (C + 473) none) C 6 (some (C + 473))) (C + 474) none) (C + 475) none) (C + 474) 0 (some (C + 475))) (C + 476) none) (C + 474) 2 (some (C + 476))) C 8 (some (C + 474))) a = r3 a := by
    intro a hc ha
    rw [ups_row (by omega), ups_row (by omega), upa_row (by omega), ups_row (by omega), upa_row (by omega), upa_row (by omega), ups_row (by omega), upa_row (by omega), ups_row (by omega), upa_row (by omega), ups_row (by omega)]
  have fc : ∀ k, k ≠ 2 → k ≠ 3 → k ≠ 6 → k ≠ 8 → (ups (ups (upa (ups (upa (upa (ups (upa (ups (upa (ups r3 C 2 (some (C + 315))) (C + 472) none) C 3 (some (C + 472))) (C + 473) none) C 6 (some (C + 473))) (C + 474) none) (C + 475) none) (C + 474) 0 (some (C + 475))) (C + 476) none) (C + 474) 2 (some (C + 476))) C 8 (some (C + 474))) C k = r3 C k := by
    intro k k2 k3 k6 k8
    rw [ups_k k8, ups_a (by omega), upa_a (by omega), ups_a (by omega), upa_a (by omega), upa_a (by omega), ups_k k6, upa_a (by omega), ups_k k3, upa_a (by omega), ups_k k2]
  have fR : ∀ S m, C < S → S + 157 ≤ C + 472 → Rep S m i3 r3 → Rep S m (upa (upa (upa (upa (upa i3 (C + 472) 0) (C + 473) 0) (C + 474) 0) (C + 475) 0) (C + 476) 0) (ups (ups (upa (ups (upa (upa (ups (upa (ups (upa (ups r3 C 2 (some (C + 315))) (C + 472) none) C 3 (some (C + 472))) (C + 473) none) C 6 (some (C + 473))) (C + 474) none) (C + 475) none) (C + 474) 0 (some (C + 475))) (C + 476) none) (C + 474) 2 (some (C + 476))) C 8 (some (C + 474))) := fun S m c1 c2 hR => hR.frame (fun a d1 d2 => ⟨fi a (by omega), fr a (by omega) (by omega)⟩)
  refine ⟨⟨?_, ?_, ?_, ?_, ?_, ?_, ?_, ?_⟩, ⟨?_, ?_, ?_, fun k hk => ?_⟩, fR _ _ (by omega) (by omega) a1, fR _ _ (by omega) (by omega) a2, fR _ _ (by omega) (by omega) a3, fun j hj => absurd hj (Nat.not_lt_zero j), fun a ha => ⟨(fi a (by omega)).trans (ho a ha).1, (fr a (by omega) (by omega)).trans (ho a ha).2⟩⟩
  · rw [fc 0 (by decide) (by decide) (by decide) (by decide)]; exact h30
  · rw [fc 1 (by decide) (by decide) (by decide) (by decide)]; exact h31
  · rw [ups_k (by decide), ups_a (by omega), upa_a (by omega), ups_a (by omega), upa_a (by omega), upa_a (by omega), ups_k (by decide), upa_a (by omega), ups_k (by decide), upa_a (by omega), ups_s]
  · rw [ups_k (by decide), ups_a (by omega), upa_a (by omega), ups_a (by omega), upa_a (by omega), upa_a (by omega), ups_k (by decide), upa_a (by omega), ups_s]
  · rw [ups_k (by decide), ups_a (by omega), upa_a (by omega), ups_a (by omega), upa_a (by omega), upa_a (by omega), ups_s]
  · rw [ups_s]
  · rw [ups_a (by omega), ups_k (by decide), upa_a (by omega), ups_s]
  · rw [ups_a (by omega), ups_s]
  · rw [fi C (by omega)]; exact hi 4
  · rw [fi C (by omega)]; exact hi 5
  · rw [fi C (by omega)]; exact hi 7
  · rw [upa_a (by omega), upa_a (by omega), upa_a (by omega), upa_s]
section CE13
variable {l : Launch} {G : GG} {i : IP} {r : RP} {C : Nat}
theorem c_ceInitLoop {i0 : IP} {r0 : RP} (hL : CeL G (C + 1105) C) (d : Nat) : ∀ (c : Nat) (i : IP) (r : RP), c + d = 4 → CeP C c i0 r0 i r → Go l G mX5_init 3 (157 * d) (1602 * d) 66 [some (.ref C), some (.int (nI c))] [] (C + 477 + 157 * c) i r (fun v n' i' r' => v = none ∧ n' = C + 1105 ∧ RepC C A0 i' r' ∧ OutC C i0 r0 i' r') := by
  obtain ⟨L1, L2, L3, L4, L5, L6, L7, L8, L9, L10⟩ := hL
  have okC : ∀ q, C < q → Ok G q C 5 := fun q hq => ⟨L1.1, hq, L1.2.2⟩
  have okH : ∀ q, C + 472 < q → OkA G q (C + 472) 12 4 := fun q hq => ⟨L5.1, hq, L5.2.2⟩
  have e14 : (cT 4).2.2 = 14 := rfl
  induction d with
  | zero =>
    intro c i r hc hP
    have hc : c = 4 := by omega
    subst hc
    have hc0 := okC (C + 477 + 157 * 4) (by omega)
    have f3 := hP.1.2.2.2.1
    have hh := okH (C + 477 + 157 * 4) (by omega)
    refine go_iload_n (z := 67) dX5_init_66 rfl rfl ?_
    refine go_aload_n (z := 68) dX5_init_67 rfl rfl ?_
    refine go_getR (z := 71) dX5_init_68 rfl fX5_22 (by assumption) rfl (by assumption) ?_
    refine go_alen (z := 72) hh (by decide) dX5_init_71 rfl ?_
    refine go_icmp_ge (z := 94) (z2 := 75) dX5_init_72 rfl (by decide) (fun _ => ?_) (fun h => absurd (by decide) h)
    exact go_vret dX5_init_94 rfl ⟨rfl, by omega, hP.fin, hP.2.2.2.2.2.2⟩
  | succ d ih =>
    intro c i r hc hP
    have hc0 := okC (C + 477 + 157 * c) (by omega)
    have f3 := hP.1.2.2.2.1
    have hh := okH (C + 477 + 157 * c) (by omega)
    have hh2 := okH (C + 477 + 157 * c + 157) (by omega)
    have Lc := L10 c (by omega)
    have tc := Lc.2.2.1
    have Lc' : StL G (C + 477 + 157 * c + 157) (C + 477 + 157 * c) := ⟨Lc.1, Nat.le_refl _, Lc.2.2⟩
    have hs : Ok G (C + 477 + 157 * c + 157) (C + 477 + 157 * c) 4 := Lc'.s
    refine go_iload_n (z := 67) dX5_init_66 rfl rfl ?_
    refine go_aload_n (z := 68) dX5_init_67 rfl rfl ?_
    refine go_getR (z := 71) dX5_init_68 rfl fX5_22 (by assumption) rfl (by assumption) ?_
    refine go_alen (z := 72) hh (by decide) dX5_init_71 rfl ?_
    refine go_icmp_ge (z := 94) (z2 := 75) dX5_init_72 rfl (by decide) (fun h => absurd ((nI_leI (a := 4) (by omega) (by omega)).mp h) (by omega)) (fun _ => ?_)
    refine go_aload_n (z := 76) dX5_init_75 rfl rfl ?_
    refine go_getR (z := 79) dX5_init_76 rfl fX5_22 (by assumption) rfl (by assumption) ?_
    refine go_iload_n (z := 80) dX5_init_79 rfl rfl ?_
    refine go_new (z := 83) (t := 4) dX5_init_80 rfl (by decide) cX5_9 ibX4 inX4z (by first | decide | omega) (by have e : (cT 4).2.2 = 14 := rfl; omega) tc ?_
    refine go_dup (z := 84) dX5_init_83 rfl rfl ?_
    refine go_callI (z := 87) [] dX5_init_84 rfl mlX4_init rfl iX5_11 rfl rfl (by decide) cat_nil (by simp) (by decide) (by first | decide | omega) (by first | decide | omega) (c_State_init Lc' (fun k => upa_s)) ?_
    intro v n2 i2 r2 hp
    obtain ⟨p1, p2, p3, p4⟩ := new_state hp
    rw [p1, p2]
    refine go_aastR (z := 88) c hh2 ⟨by decide, by decide⟩ (by decide) rfl (by omega) hs (by decide) rfl dX5_init_87 rfl ?_
    refine go_iinc (z := 91) dX5_init_88 rfl rfl (nI_1 c) (by decide) ?_
    refine go_goto (z := 66) dX5_init_91 (by decide) ?_
    rw [show C + 477 + 157 * c + 157 = C + 477 + 157 * (c + 1) by omega]
    exact go_less (ih (c + 1) _ _ (by omega) (hP.step (by omega) p3 p4)) (Nat.le_refl _) (by omega) (by omega)
theorem c_ceInit (hL : CeL G (C + 1105) C) (hz : ∀ k, i C k = 0) : Go l G mX5_init 3 1104 11400 0 (lentry [.ref C] 2) [] (C + 1) i r (fun v n' i' r' => v = none ∧ n' = C + 1105 ∧ RepC C A0 i' r' ∧ OutC C i r i' r') := by
  have hL0 := hL
  obtain ⟨L1, L2, L3, L4, L5, L6, L7, L8, L9, L10⟩ := hL
  have okC : ∀ q, C < q → Ok G q C 5 := fun q hq => ⟨L1.1, hq, L1.2.2⟩
  have e14 : (cT 4).2.2 = 14 := rfl
  have e9 : (cT 3).2.2 = 9 := rfl
  have L2' : StL G (C + 1 + 157) (C + 1) := ⟨L2.1, Nat.le_refl _, L2.2.2⟩
  have L3' : StL G (C + 158 + 157) (C + 158) := ⟨L3.1, Nat.le_refl _, L3.2.2⟩
  have L4' : StL G (C + 315 + 157) (C + 315) := ⟨L4.1, Nat.le_refl _, L4.2.2⟩
  have t2 := L2.2.2.1
  have t3 := L3.2.2.1
  have t4 := L4.2.2.1
  have t5 := L5.2.2
  have t6 := L6.2.2
  have t7 := L7.2.2
  have o1 := okC (C + 1) (by omega)
  have o158 := okC (C + 158) (by omega)
  have o315 := okC (C + 315) (by omega)
  have o472 := okC (C + 472) (by omega)
  have o473 := okC (C + 473) (by omega)
  have o474 := okC (C + 474) (by omega)
  have o477 := okC (C + 477) (by omega)
  refine go_aload_n (z := 1) dX5_init_0 rfl rfl ?_
  refine go_objinit (z := 4) dX5_init_1 rfl oX5_3 (by decide) (by decide) ?_
  refine go_aload_n (z := 5) dX5_init_4 rfl rfl ?_
  refine go_new (z := 8) (t := 4) dX5_init_5 rfl (by decide) cX5_9 ibX4 inX4z (by first | decide | omega) (by have e : (cT 4).2.2 = 14 := rfl; omega) t2 ?_
  refine go_dup (z := 9) dX5_init_8 rfl rfl ?_
  refine go_callI (z := 12) [] dX5_init_9 rfl mlX4_init rfl iX5_11 rfl rfl (by decide) cat_nil (by simp) (by decide) (by first | decide | omega) (by first | decide | omega) (c_State_init L2' (fun k => upa_s)) ?_
  intro v n2 i1 r1 hp
  obtain ⟨p1, p2, R1, O1⟩ := new_state hp
  rw [p1, show n2 = C + 158 by omega]
  refine go_putR (z := 15) dX5_init_12 rfl fX5_12 (by assumption) rfl (Or.inr ⟨rfl, rfl⟩) ?_
  refine go_aload_n (z := 16) dX5_init_15 rfl rfl ?_
  refine go_new (z := 19) (t := 4) dX5_init_16 rfl (by decide) cX5_9 ibX4 inX4z (by first | decide | omega) (by have e : (cT 4).2.2 = 14 := rfl; omega) t3 ?_
  refine go_dup (z := 20) dX5_init_19 rfl rfl ?_
  refine go_callI (z := 23) [] dX5_init_20 rfl mlX4_init rfl iX5_11 rfl rfl (by decide) cat_nil (by simp) (by decide) (by first | decide | omega) (by first | decide | omega) (c_State_init L3' (fun k => upa_s)) ?_
  intro v n3 i2 r2 hp
  obtain ⟨p1, p2, R2, O2⟩ := new_state hp
  rw [p1, show n3 = C + 315 by omega]
  refine go_putR (z := 26) dX5_init_23 rfl fX5_16 (by assumption) rfl (Or.inr ⟨rfl, rfl⟩) ?_
  refine go_aload_n (z := 27) dX5_init_26 rfl rfl ?_
  refine go_new (z := 30) (t := 4) dX5_init_27 rfl (by decide) cX5_9 ibX4 inX4z (by first | decide | omega) (by have e : (cT 4).2.2 = 14 := rfl; omega) t4 ?_
  refine go_dup (z := 31) dX5_init_30 rfl rfl ?_
  refine go_callI (z := 34) [] dX5_init_31 rfl mlX4_init rfl iX5_11 rfl rfl (by decide) cat_nil (by simp) (by decide) (by first | decide | omega) (by first | decide | omega) (c_State_init L4' (fun k => upa_s)) ?_
  intro v n4 i3 r3 hp
  obtain ⟨p1, p2, R3, O3⟩ := new_state hp
  rw [p1, show n4 = C + 472 by omega]
  have q473 := okC (C + 472 + 1) (by omega)
  have q474 := okC (C + 472 + 1 + 1) (by omega)
  have q475 : Ok G (C + 472 + 1 + 1 + 1) (C + 472 + 1 + 1) 3 := ⟨L7.1, by omega, L7.2.2⟩
  have q477 := okC (C + 472 + 1 + 1 + 1 + 2) (by omega)
  have y1 : G.2.1 (C + 472 + 1 + 1 + 1) = (9, 15) := L8.2.2
  have y2 : G.2.1 (C + 472 + 1 + 1 + 1 + 1) = (9, 15) := L9.2.2
  refine go_putR (z := 37) dX5_init_34 rfl fX5_19 o472 rfl (Or.inr ⟨rfl, rfl⟩) ?_
  refine go_aload_n (z := 38) dX5_init_37 rfl rfl ?_
  refine go_iconst (z := 39) (v := 4) dX5_init_38 rfl (by decide) ?_
  refine go_anewa (z := 42) (t := 12) (tb := 4) 4 dX5_init_39 rfl cX5_9 ovX4 ⟨by decide, by decide⟩ (fun _ => rfl) rfl (by decide) (by first | decide | omega) (by first | decide | omega) t5 ?_
  refine go_putR (z := 45) dX5_init_42 rfl fX5_22 q473 rfl (Or.inr ⟨rfl, rfl⟩) ?_
  refine go_aload_n (z := 46) dX5_init_45 rfl rfl ?_
  refine go_bipush (z := 48) (v := 60) dX5_init_46 rfl (by decide) ?_
  refine go_newa (z := 50) (t := 8) 60 dX5_init_48 rfl ac_char (by first | exact Or.inl ⟨rfl, rfl⟩ | exact Or.inr ⟨rfl, rfl⟩) rfl (by decide) (by first | decide | omega) (by first | decide | omega) t6 ?_
  refine go_putR (z := 53) dX5_init_50 rfl fX5_26 q474 rfl (Or.inr ⟨rfl, rfl⟩) ?_
  refine go_aload_n (z := 54) dX5_init_53 rfl rfl ?_
  refine go_new (z := 57) (t := 3) dX5_init_54 rfl (by decide) cX5_30 ibX3 inX3z (by first | decide | omega) (by have e : (cT 3).2.2 = 9 := rfl; omega) t7 ?_
  refine go_dup (z := 58) dX5_init_57 rfl rfl ?_
  refine go_callIN (z := 61) [] dX5_init_58 rfl mlX3_init rfl iX5_32 rfl rfl (by decide) cat_nil (by simp) (by decide) (by first | decide | omega) (by first | decide | omega) (c_Reader_init q475 y1 y2) ?_
  intro v n5 i4 r4 hp
  obtain ⟨p1, p2, p3, p4⟩ := hp
  rw [p1, p2, p3, p4]
  refine go_putR (z := 64) dX5_init_61 rfl fX5_33 q477 rfl (Or.inr ⟨rfl, rfl⟩) ?_
  refine go_iconst (z := 65) (v := 0) dX5_init_64 rfl (by decide) ?_
  refine go_istore_n (z := 66) dX5_init_65 rfl (by decide) ?_
  refine go_less (go_lo (lo' := [some (.ref C), some (.int (nI 0))]) rfl (c_ceInitLoop (i0 := i) (r0 := r) hL0 4 0 _ _ rfl ?_)) (Nat.le_refl _) (by omega) (by omega)
  have x1 : r3 C 0 = some (C + 1) ∧ r3 C 1 = some (C + 158) := by
    rw [(O3 C (by omega)).2, ups_s, ups_k (by decide), (O2 C (by omega)).2, ups_s]
    exact ⟨rfl, rfl⟩
  have x2 : ∀ k, i3 C k = 0 := fun k => by rw [(O3 C (by omega)).1, (O2 C (by omega)).1, (O1 C (by omega)).1]; exact hz k
  have fz : ∀ (S k : Nat) (x : Option Nat) (i : IP) (r : RP), C < S → Rep S m0 i r → Rep S m0 i (ups r C k x) := fun S k x i r c1 hR => hR.frame (fun a d1 d2 => ⟨rfl, ups_row (by omega)⟩)
  refine ceP0 x1.1 x1.2 x2 ((fz _ _ _ _ _ (by omega) ((fz _ _ _ _ _ (by omega) R1).o O2 (by omega))).o O3 (by omega)) ((fz _ _ _ _ _ (by omega) R2).o O3 (by omega)) R3 (fun a ha => ⟨?_, ?_⟩)
  · rw [(O3 a (by omega)).1, (O2 a (by omega)).1, (O1 a (by omega)).1]
  · rw [(O3 a (by omega)).2, ups_row (by omega), (O2 a (by omega)).2, ups_row (by omega), (O1 a (by omega)).2]
end CE13
