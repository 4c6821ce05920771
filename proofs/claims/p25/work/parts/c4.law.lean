/-! P25: the law -/
def tyS (k : Nat) : Nat × Nat := if k = 0 then (4, 0) else if k = 1 then (7, 49) else if k = 2 then (10, 6) else if k = 3 then (11, 141) else if k < 16 then (if k % 2 = 0 then (1, 0) else (9, 80)) else (2, 0)
def tyP (k : Nat) : Nat × Nat := if k = 0 then (5, 0) else if k < 472 then tyS ((k - 1) % 157) else if k = 472 then (12, 4) else if k = 473 then (8, 60) else if k = 474 then (3, 0) else if k < 477 then (9, 15) else if k < 1105 then tyS ((k - 477) % 157) else if k = 1105 then (7, 4) else (0, 0)
theorem stL_of {G : GG} {n S : Nat} (h1 : G.1 ≤ S) (h2 : S + 157 ≤ n) (h : ∀ x, x < 157 → G.2.1 (S + x) = tyS x) : StL G n S := by
  have h0 := h 0 (by omega)
  rw [Nat.add_zero] at h0
  refine ⟨h1, h2, by rw [h0]; rfl, (h 1 (by omega)).trans rfl, (h 2 (by omega)).trans rfl, (h 3 (by omega)).trans rfl, fun q hq => ⟨?_, ?_⟩, fun a a1 a2 => ?_⟩
  · rw [Nat.add_assoc, h (4 + 2 * q) (by omega)]
    unfold tyS
    rw [if_neg (by omega), if_neg (by omega), if_neg (by omega), if_neg (by omega), if_pos (by omega), if_pos (by omega)]
  · rw [Nat.add_assoc, h (5 + 2 * q) (by omega)]
    unfold tyS
    rw [if_neg (by omega), if_neg (by omega), if_neg (by omega), if_neg (by omega), if_pos (by omega), if_neg (by omega)]
  · rw [show a = S + (a - S) by omega, h (a - S) (by omega)]
    unfold tyS
    rw [if_neg (by omega), if_neg (by omega), if_neg (by omega), if_neg (by omega), if_neg (by omega)]
abbrev mLw (nm : String) : AM := (⟨RL, nm, "([I)Z"⟩, cL_law, 4, some .boolean)
def lwQ : QP := fun v _ _ _ => v = some (.int 1)
/-- what an act may add to the bound of all grains -/
def bB : Nat := tB * 100 + 327680
def BLe (B e : Nat) : Prop := B ≤ bB * e
theorem BLe.next {B B1 e : Nat} (h : BLe B e) (h1 : B1 ≤ B + tB * 100 + 327680) : BLe B1 (e + 1) := by
  have h : B ≤ bB * e := h
  show B1 ≤ bB * (e + 1)
  rw [Nat.mul_succ]
  refine Nat.le_trans h1 ?_
  rw [Nat.add_assoc]
  exact Nat.add_le_add_right h bB
theorem bB_lt {B e t : Nat} (hB : BLe B e) (he : e ≤ 20) (ht : t ≤ 500) : B + tB * t + 65536 < 2 ^ 31 := by
  have h1 : bB * e ≤ bB * 20 := Nat.mul_le_mul (Nat.le_refl bB) he
  have h2 : tB * t ≤ tB * 500 := Nat.mul_le_mul (Nat.le_refl tB) ht
  refine Nat.lt_of_le_of_lt (Nat.add_le_add_right (Nat.add_le_add (Nat.le_trans hB h1) h2) 65536) ?_
  decide
section PLAW
variable {l : Launch} {C b L n : Nat} {xs : Nat → Int32} {nm : String}
abbrev gPw (C b L : Nat) (xs : Nat → Int32) : GG := (C, fun a => tyP (a - C), b, L, xs)
theorem ly_ty {k : Nat} : (gPw C b L xs).2.1 (C + k) = tyP k := by
  show tyP (C + k - C) = tyP k
  rw [Nat.add_sub_cancel_left]
theorem ly_C (hn : C + 1105 ≤ n) : CeL (gPw C b L xs) n C := by
  have st : ∀ S, (S = 1 ∨ S = 158 ∨ S = 315 ∨ ∃ j, j < 4 ∧ S = 477 + 157 * j) → StL (gPw C b L xs) n (C + S) := by
    intro S hS
    refine stL_of (Nat.le_add_right C S) ?_ (fun x hx => ?_)
    · rcases hS with h | h | h | ⟨j, hj, h⟩ <;> omega
    · rw [Nat.add_assoc, ly_ty]
      unfold tyP
      rcases hS with h | h | h | ⟨j, hj, h⟩
      · rw [if_neg (by omega), if_pos (by omega)]
        exact congrArg tyS (by omega)
      · rw [if_neg (by omega), if_pos (by omega)]
        exact congrArg tyS (by omega)
      · rw [if_neg (by omega), if_pos (by omega)]
        exact congrArg tyS (by omega)
      · rw [if_neg (by omega), if_neg (by omega), if_neg (by omega), if_neg (by omega), if_neg (by omega), if_neg (by omega), if_pos (by omega)]
        exact congrArg tyS (by omega)
  refine ⟨⟨Nat.le_refl _, by omega, ?_⟩, st 1 (Or.inl rfl), st 158 (Or.inr (Or.inl rfl)), st 315 (Or.inr (Or.inr (Or.inl rfl))), ⟨Nat.le_add_right C _, by omega, ?_⟩, ⟨Nat.le_add_right C _, by omega, ?_⟩, ⟨Nat.le_add_right C _, by omega, ?_⟩, ⟨Nat.le_add_right C _, by omega, ?_⟩, ⟨Nat.le_add_right C _, by omega, ?_⟩, fun j hj => ?_⟩
  · show (tyP (C - C)).1 = 5
    rw [Nat.sub_self]
    rfl
  · exact ly_ty.trans rfl
  · exact ly_ty.trans rfl
  · rw [ly_ty]; rfl
  · exact ly_ty.trans rfl
  · exact ly_ty.trans rfl
  · have := st (477 + 157 * j) (Or.inr (Or.inr (Or.inr ⟨j, hj, rfl⟩)))
    rw [← Nat.add_assoc] at this
    exact this
theorem ly_c : (gPw C b L xs).2.1 (C + 1105) = (7, 4) := ly_ty.trans rfl
theorem ly_0 : ∀ a, C + 1106 ≤ a → ((gPw C b L xs).2.1 a).1 = 0 := fun a ha => by
  show (tyP (a - C)).1 = 0
  unfold tyP
  rw [if_neg (by omega), if_neg (by omega), if_neg (by omega), if_neg (by omega), if_neg (by omega), if_neg (by omega), if_neg (by omega), if_neg (by omega)]
theorem LawS.more {G : GG} {E : EE} {Gd : Nat → Prop} {K K' T B : Nat} {c0 c1 c3 : Int32} {A : AP} {i : IP} {r : RP} (h : LawS G n C E Gd K T B c0 c1 c3 A i r) (hK : K ≤ K') : LawS G n C E Gd K' T B c0 c1 c3 A i r := by
  obtain ⟨⟨d1, d2, d3, d4, d5, d6, d7⟩, h2⟩ := h
  exact ⟨⟨d1, d2, d3, d4, d5, d6.mono (fun m hm => hm.mono hK), d7⟩, h2⟩
theorem p_loop {G : GG} (hl : G.2.2.2.1 ≤ 260) (d : Nat) : ∀ (e : Nat) (E : EE) (Gd : Nat → Prop) (T B : Nat) (c0 c1 c3 : Int32) (A : AP) (n : Nat) (i : IP) (r : RP), e + d = 20 → T ≤ 100 * e → BLe B e → LawS G n C E Gd (1188 + 1969350 * e) T B c0 c1 c3 A i r → Go l G (mLw nm) 11 (120 * d) (840 * d) 47 [some (.ref G.2.2.1), some (.ref C), some (.ref (C + 1105)), some (.int (nI e))] [] n i r lwQ := by
  induction d with
  | zero =>
    intro e E Gd T B c0 c1 c3 A n i r he hT hB hS
    have he : e = 20 := by omega
    subst he
    refine go_iload_n (z := 48) dL_law_47 rfl rfl ?_
    refine go_bipush (z := 50) (v := 20) dL_law_48 rfl (by decide) ?_
    refine go_icmp_ge (z := 116) (z2 := 53) dL_law_50 rfl (by decide) (fun _ => ?_) (fun q => absurd (by decide) q)
    refine go_iconst (z := 117) (v := 1) dL_law_116 rfl (by decide) ?_
    exact go_zret dL_law_117 rfl (congrArg Value.int (by decide)) rfl
  | succ d ih =>
    intro e E Gd T B c0 c1 c3 A n i r he hT hB hS
    have h2e : (2 : Int32) * nI e = nI (2 * e) := pk_mul 2 e
    have hr : nI e - nI e / 4 * 4 = nI (e % 4) := pk_rem (d := 4) (by omega) (by omega) (by omega)
    have nxt : ∀ (E : EE) (Gd : Nat → Prop) (T B : Nat) (c0 c1 c3 : Int32) (A : AP) (n : Nat) (i : IP) (r : RP), T ≤ 100 * (e + 1) → BLe B (e + 1) → LawS G n C E Gd (1188 + 1969350 * (e + 1)) T B c0 c1 c3 A i r → Go l G (mLw nm) 11 (120 * (d + 1) - 120) (840 * (d + 1) - 840) 110 [some (.ref G.2.2.1), some (.ref C), some (.ref (C + 1105)), some (.int (nI e))] [] n i r lwQ := by
      intro E Gd T B c0 c1 c3 A n i r hT hB hS
      refine go_iinc (z := 113) dL_law_110 rfl rfl (nI_1 e) (by show _ < 4; decide) ?_
      refine go_goto (z := 47) dL_law_113 (by decide) ?_
      exact go_lo rfl (go_less (ih (e + 1) E Gd T B c0 c1 c3 A n i r (by omega) hT hB hS) (Nat.le_refl _) (by omega) (by omega))
    have c69 : ∀ v, Go l G (mLw nm) 11 (120 * (d + 1)) (840 * (d + 1)) 69 [some (.ref G.2.2.1), some (.ref C), some (.ref (C + 1105)), some (.int (nI e))] [.int v, .ref C] n i r lwQ := by
      intro v
      refine go_aload_n (z := 70) dL_law_69 rfl rfl ?_
      refine go_iconst (z := 71) (v := 2) dL_law_70 rfl (by decide) ?_
      refine go_iload_n (z := 72) dL_law_71 rfl rfl ?_
      refine go_imul (z := 73) dL_law_72 rfl ?_
      rw [h2e]
      refine go_iconst (z := 74) (v := 1) dL_law_73 rfl (by decide) ?_
      refine go_iadd (z := 75) dL_law_74 rfl ?_
      rw [nI_1]
      refine go_callS (z := 78) [.ref G.2.2.1, .int (nI (2 * e + 1))] dL_law_75 rfl mlL_cell sL_110 rfl rfl (by decide) (cat_r (cat_i cat_nil)) (by simp) (by decide) (by first | decide | omega) (by first | decide | omega) (c_cell (by omega) (by omega)) ?_
      rintro v1 n1 i1 r1 ⟨w, p1, p2, p3, p4⟩
      rw [p1, p2, p3, p4]
      refine go_aload_n (z := 79) dL_law_78 rfl rfl ?_
      refine go_callS (z := 82) [.ref C, .int v, .int w, .ref (C + 1105)] dL_law_79 rfl mlL_act sL_114 rfl rfl (by decide) (cat_r (cat_i (cat_i (cat_r cat_nil)))) (by simp) (by decide) (by first | decide | omega) (by first | decide | omega) (c_act hS (by omega) (by omega) (fun t ht => bB_lt hB (by omega) (by omega))) ?_
      rintro v1 n1 i1 r1 ⟨p1, hn1, hn2, E1, Gd1, K1, T1, B1, d0, d1, d3, A1, hS1, k1, k2, k3⟩
      rw [p1]
      have hB1 := hB.next k3
      clear k3
      have hS2 := hS1.more (show K1 ≤ 1188 + 1969350 * (e + 1) by rw [Nat.mul_succ, ← Nat.add_assoc]; exact k1)
      clear k1
      have hT1 : T1 ≤ 100 * (e + 1) := by omega
      obtain ⟨hD1, hT1', hI1, hW1, ⟨q0, q1, q3⟩, hCc, hlay⟩ := id hS2
      have hInv := hD1.inv hT1' (by omega)
      have hB31 : B1 < 2 ^ 31 := Nat.lt_of_le_of_lt (Nat.le_trans (Nat.le_add_right B1 (tB * 0)) (Nat.le_add_right _ 65536)) (bB_lt hB1 (by omega) (Nat.zero_le _))
      refine go_if_eq (z := 108) (z2 := 85) dL_law_82 rfl (by decide) (fun q => absurd q (by decide)) (fun _ => ?_)
      refine go_aload_n (z := 86) dL_law_85 rfl rfl ?_
      refine go_aload_n (z := 87) dL_law_86 rfl rfl ?_
      refine go_callS (z := 90) [.ref C, .ref (C + 1105)] dL_law_87 rfl mlL_holds sL_75 rfl rfl (by decide) (cat_r (cat_r cat_nil)) (by simp) (by decide) (by first | decide | omega) (by first | decide | omega) (c_holds hD1.vw hInv hI1 hB31 hCc q0 q1 q3 hD1.2.2.1.ok hD1.2.2.2.2.2.2) ?_
      refine ret_elim ?_
      refine go_if_eq (z := 108) (z2 := 93) dL_law_90 rfl (by decide) (fun q => absurd q (by decide)) (fun _ => ?_)
      refine go_iload_n (z := 94) dL_law_93 rfl rfl ?_
      refine go_iconst (z := 95) (v := 4) dL_law_94 rfl (by decide) ?_
      refine go_irem (z := 96) dL_law_95 rfl (by decide) rfl ?_
      rw [hr]
      refine go_iconst (z := 97) (v := 2) dL_law_96 rfl (by decide) ?_
      refine go_icmp_ne (z := 110) (z2 := 100) dL_law_97 rfl (by decide) (fun _ => ?_) (fun _ => ?_)
      · exact go_less (nxt E1 Gd1 T1 B1 d0 d1 d3 A1 n1 i1 r1 hT1 hB1 hS2) (Nat.le_refl _) (by omega) (by omega)
      · refine go_aload_n (z := 101) dL_law_100 rfl rfl ?_
        refine go_aload_n (z := 102) dL_law_101 rfl rfl ?_
        refine go_callS (z := 105) [.ref C, .ref (C + 1105)] dL_law_102 rfl mlL_forecasts sL_118 rfl rfl (by decide) (cat_r (cat_r cat_nil)) (by simp) (by decide) (by first | decide | omega) (by first | decide | omega) (c_forecasts hD1 hT1' (by omega) (by omega) hI1 (fun t ht => bB_lt hB1 (by omega) ht) hCc q0 q1 q3) ?_
        rintro v2 n2 i2 r2 ⟨p1, p2, ho2, A2, e1, e2, hD2⟩
        rw [p1, p2]
        have hcc := (ho2 (C + 1105) (by omega)).1
        refine go_if_ne (z := 110) (z2 := 108) dL_law_105 rfl (by decide) (fun _ => ?_) (fun q => absurd q (by decide))
        exact go_less (nxt E1 Gd1 T1 B1 d0 d1 d3 A2 n1 i2 r2 hT1 hB1 ⟨hD2, by rw [e1]; exact hT1', by rw [e1]; exact hI1, by rw [e1]; exact hW1, ⟨by rw [hcc]; exact q0, by rw [hcc]; exact q1, by rw [hcc]; exact q3⟩, hCc, hlay⟩) (Nat.le_refl _) (by omega) (by omega)
    refine go_iload_n (z := 48) dL_law_47 rfl rfl ?_
    refine go_bipush (z := 50) (v := 20) dL_law_48 rfl (by decide) ?_
    refine go_icmp_ge (z := 116) (z2 := 53) dL_law_50 rfl (by decide) (fun q => absurd q (nI_ge (b := 20) (by omega) (by omega))) (fun _ => ?_)
    refine go_aload_n (z := 54) dL_law_53 rfl rfl ?_
    refine go_iload_n (z := 55) dL_law_54 rfl rfl ?_
    refine go_if_ne (z := 62) (z2 := 58) dL_law_55 rfl (by decide) (fun _ => ?_) (fun _ => ?_)
    · refine go_aload_n (z := 63) dL_law_62 rfl rfl ?_
      refine go_iconst (z := 64) (v := 2) dL_law_63 rfl (by decide) ?_
      refine go_iload_n (z := 65) dL_law_64 rfl rfl ?_
      refine go_imul (z := 66) dL_law_65 rfl ?_
      rw [h2e]
      refine go_callS (z := 69) [.ref G.2.2.1, .int (nI (2 * e))] dL_law_66 rfl mlL_cell sL_110 rfl rfl (by decide) (cat_r (cat_i cat_nil)) (by simp) (by decide) (by first | decide | omega) (by first | decide | omega) (c_cell (by omega) (by omega)) ?_
      rintro v1 n1 i1 r1 ⟨x, p1, p2, p3, p4⟩
      rw [p1, p2, p3, p4]
      exact c69 x
    · refine go_iconst (z := 59) (v := 3) dL_law_58 rfl (by decide) ?_
      refine go_goto (z := 69) dL_law_59 (by decide) ?_
      exact c69 3
theorem p_body {i : IP} {r : RP} (hl : L ≤ 260) : Go l (gPw C b L xs) (mLw nm) 11 3506 28213 0 (lentry [.ref b] 4) [] C i r lwQ := by
  have g5 : ((gPw C b L xs).2.1 C).1 = 5 := (ly_C (b := b) (L := L) (xs := xs) (Nat.le_refl _)).1.2.2
  have e5 : (cT 5).2.2 = 9 := rfl
  refine go_new (z := 3) (t := 5) dL_law_0 rfl (by decide) cL_11 ibX5 inX5z (by first | decide | omega) (by omega) (by assumption) ?_
  refine go_dup (z := 4) dL_law_3 rfl rfl ?_
  refine go_callI (z := 7) [] dL_law_4 rfl mlX5_init rfl iL_109 rfl rfl (by decide) cat_nil (by simp) (by decide) (by first | decide | omega) (by first | decide | omega) (c_ceInit (ly_C (Nat.le_refl _)) (fun k => upa_s)) ?_
  rintro v n1 i1 r1 ⟨p1, p2, hC1, -⟩
  rw [p1, p2]
  refine go_astore_n (z := 8) dL_law_7 rfl (by show _ < 4; decide) ?_
  refine go_iconst (z := 9) (v := 4) dL_law_8 rfl (by decide) ?_
  refine go_newa (z := 11) (t := 7) 4 dL_law_9 rfl ac_int (Or.inl ⟨rfl, rfl⟩) rfl (by decide) (by first | decide | omega) (by first | decide | omega) ly_c ?_
  refine go_astore_n (z := 12) dL_law_11 rfl (by show _ < 4; decide) ?_
  have hC2 : RepC C A0 (upa i1 (C + 1105) 0) (upa r1 (C + 1105) none) := hC1.same (fun a a1 a2 => ⟨upa_row (by omega), upa_row (by omega)⟩)
  have hSI : SInv ((fun _ => 0, fun _ => 0, fun _ => 0, fun _ => []) : EE) (fun _ => False) m0 := ⟨0, Nat.zero_le _, Inv.m0⟩
  have hD : DS (gPw C b L xs) (C + 1106) C (fun _ => 0, fun _ => 0, fun _ => 0, fun _ => []) (fun _ => False) 1188 A0 (upa i1 (C + 1105) 0) (upa r1 (C + 1105) none) := ⟨ly_C (by omega), hC2, fun a ha => ha.elim, fun a ha => ha.elim, ⟨hSI, fun m hm => (by cases hm), hSI⟩, ⟨PI_m0, fun m hm => (by cases hm), PI_m0⟩, fun a ha => ha.elim⟩
  have hCI : CI 0 0 0 0 0 0 (fun _ => 0) (fun _ => True) (fun _ => (0 : Int32) = 0) A0.1 := CI.m0.reW (fun _ _ k => Or.inl k) (fun _ _ _ => Or.inl trivial)
  have hcA : OkA (gPw C b L xs) (C + 1106) (C + 1105) 7 4 := ⟨Nat.le_add_right C _, by omega, ly_c⟩
  have hS : ∀ i2 r2, DS (gPw C b L xs) (C + 1106) C (fun _ => 0, fun _ => 0, fun _ => 0, fun _ => []) (fun _ => False) 1188 A0 i2 r2 → OutC C (upa i1 (C + 1105) 0) (upa r1 (C + 1105) none) i2 r2 → LawS (gPw C b L xs) (C + 1106) C (fun _ => 0, fun _ => 0, fun _ => 0, fun _ => []) (fun _ => False) 1188 0 0 0 0 0 A0 i2 r2 := by
    intro i2 r2 h2 ho2
    have hcc := (ho2 (C + 1105) (by omega)).1
    exact ⟨h2, rfl, hCI, WS.m0, ⟨by rw [hcc]; exact upa_s, by rw [hcc]; exact upa_s, by rw [hcc]; exact upa_s⟩, hcA, Nat.le_refl _, ly_0, Nat.le_add_right C _, fun a ha => ha.elim⟩
  obtain ⟨hD0, hT0, hI0, hW0, ⟨q0, q1, q3⟩, hlay⟩ := hS _ _ hD OutC.rf
  have okC : Ok (gPw C b L xs) (C + 1106) C 5 := hD.1.1
  have uq : uRun (fun _ => 0, fun _ => 0, fun _ => 0, fun _ => []) true 501 0 A0.1 = nI 0 := uRun_of (by omega) rfl (fun s hs => absurd hs (Nat.not_lt_zero s))
  have ui : uRun (fun _ => 0, fun _ => 0, fun _ => 0, fun _ => []) false 501 0 A0.1 = nI 0 := uRun_of (by omega) rfl (fun s hs => absurd hs (Nat.not_lt_zero s))
  refine go_aload_n (z := 13) dL_law_12 rfl rfl ?_
  refine go_aload_n (z := 14) dL_law_13 rfl rfl ?_
  refine go_callS (z := 17) [.ref C, .ref (C + 1105)] dL_law_14 rfl mlL_holds sL_75 rfl rfl (by decide) (cat_r (cat_r cat_nil)) (by simp) (by decide) (by first | decide | omega) (by first | decide | omega) (c_holds hD.vw (hD.inv hT0 (by omega)) hI0 (by omega) hcA q0 q1 q3 hD.2.2.1.ok hD.2.2.2.2.2.2) ?_
  refine ret_elim ?_
  refine go_if_eq (z := 43) (z2 := 20) dL_law_17 rfl (by decide) (fun q => absurd q (by decide)) (fun _ => ?_)
  refine go_aload_n (z := 21) dL_law_20 rfl rfl ?_
  refine go_callV (z := 24) (t := 5) [] dL_law_21 rfl mlX5_quietIn vL_65 ⟨by decide, rfl⟩ okC rfl rfl (by decide) cat_nil (by simp) (by decide) (by first | decide | omega) (by first | decide | omega) (c_dsQuiet hD) ?_
  rintro v n2 i2 r2 ⟨p1, p2, ho2, hD2⟩
  rw [p1, p2, uq]
  refine go_if_ne (z := 43) (z2 := 27) dL_law_24 rfl (by decide) (fun q => absurd rfl q) (fun _ => ?_)
  refine go_aload_n (z := 28) dL_law_27 rfl rfl ?_
  refine go_callV (z := 31) (t := 5) [] dL_law_28 rfl mlX5_idleIn vL_68 ⟨by decide, rfl⟩ okC rfl rfl (by decide) cat_nil (by simp) (by decide) (by first | decide | omega) (by first | decide | omega) (c_dsIdle hD2) ?_
  rintro v n3 i3 r3 ⟨p1, p2, ho3, hD3⟩
  rw [p1, p2, ui]
  refine go_if_ne (z := 43) (z2 := 34) dL_law_31 rfl (by decide) (fun q => absurd rfl q) (fun _ => ?_)
  have hI3 := hD3.inv hT0 (by omega)
  refine go_aload_n (z := 35) dL_law_34 rfl rfl ?_
  refine go_callV (z := 38) (t := 5) [] dL_law_35 rfl mlX5_makeGood vL_106 ⟨by decide, rfl⟩ okC rfl rfl (by decide) cat_nil (by simp) (by decide) (by first | decide | omega) (by first | decide | omega) (c_ceGood hD3.1 hD3.2.1 hD3.2.2.1 hD3.2.2.2.1 (AInv.q hD3.2.2.2.2.1.1 hD3.2.2.1) (hI3.good hD3.2.2.1.ok (Nat.le_refl _)).1) ?_
  rintro v n4 i4 r4 ⟨p1, p2, hC4, ho4⟩
  have eG : aGood (fun _ => 0, fun _ => 0, fun _ => 0, fun _ => []) A0 = (-5, A0) := if_pos rfl
  rw [eG] at p1 hC4
  rw [p1, p2]
  have hD4 := hD3.next hC4 ho4 hD3.2.2.2.2.1 hD3.2.2.2.2.2.1
  refine go_bipush (z := 40) (v := (-5)) dL_law_38 rfl (by decide) ?_
  refine go_icmp_eq (z := 45) (z2 := 43) dL_law_40 rfl (by decide) (fun _ => ?_) (fun q => absurd rfl q)
  refine go_iconst (z := 46) (v := 0) dL_law_45 rfl (by decide) ?_
  refine go_istore_n (z := 47) dL_law_46 rfl (by show _ < 4; decide) ?_
  refine go_lo rfl (go_less (p_loop (l := l) (nm := nm) (G := gPw C b L xs) hl 20 0 _ _ 0 0 0 0 0 A0 _ i4 r4 rfl (Nat.le_refl _) (Nat.zero_le (bB * 0)) (hS i4 r4 hD4 ((ho2.tr ho3).tr ho4))) (Nat.le_refl _) (by decide) (by decide))
end PLAW
