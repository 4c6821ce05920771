/-! record, settings, text at the reference -/
section MSET
variable {l : Launch} {G : GG} {n : Nat} {i : IP} {r : RP} {M : Nat} {E : EE} {Gd : Nat → Prop} {O : Nat} {A : AP}
theorem up_row {α : Type} {f : Nat → Nat → α} {a k : Nat} {x : α} : ups f a k x = upr f a (up1 (f a) k x) := by
  have := ups_upr (f := f) (a := a) (k := k) (t := f a) (x := x)
  rw [upr_id] at this
  exact this
theorem RefR.now (h : RefR E Gd O A M i) {m : MS} {s' : Nat → Int32} (hS : RelS E Gd O [] m s') : RefR E Gd O (m, A.2) M (upr i (M + 1) s') := by
  obtain ⟨h1, ⟨h2, h3, h4⟩, h5, h6, h7, h8, h9⟩ := h
  refine ⟨by rw [upr_s]; exact hS, ⟨by rw [upr_n (by omega)]; exact h2, h3, fun j m hm => ?_⟩, by rw [upr_n (by omega)]; exact h5, fun hk => ?_, by rw [upr_n (by omega)]; exact h7, h8, fun k hk => ?_⟩
  · rw [upr_n (show M + 2 ≠ M + 1 by omega)]; exact h4 j m hm
  · rw [upr_n (show M + 3 ≠ M + 1 by omega)]; exact h6 hk
  · rw [upr_n (show M + 5 ≠ M + 1 by omega)]; exact h9 k hk
theorem RefR.rec (h : RefR E Gd O A M i) : RefR E Gd O (aRec A) M (recI i M A.2.1.length) := by
  obtain ⟨h1, ⟨h2, h3, h4⟩, h5, h6, h7, h8, h9⟩ := h
  have i1 : recI i M A.2.1.length (M + 1) = i (M + 1) := by
    unfold recI
    rw [ups_row (by omega), upr_n (by omega)]
  have i2 : recI i M A.2.1.length (M + 2) = recH A.2.1.length (i (M + 2)) (i (M + 1)) := by
    unfold recI
    rw [ups_row (by omega), upr_s]
  have i3 : recI i M A.2.1.length (M + 3) = i (M + 3) := by
    unfold recI
    rw [ups_row (by omega), upr_n (by omega)]
  have i5 : recI i M A.2.1.length (M + 5) = i (M + 5) := by
    unfold recI
    rw [ups_row (by omega), upr_n (by omega)]
  have iM : ∀ k, k ≠ 2 → recI i M A.2.1.length M k = i M k := fun k hk => by
    unfold recI
    rw [ups_k hk, upr_n (by omega)]
  have iM2 : recI i M A.2.1.length M 2 = nI (recC A.2.1.length) := by
    unfold recI
    rw [ups_s]
  have put : ∀ (h : Nat → Int32) (c j k : Nat), k < 1372 → putB h c (i (M + 1)) (1372 * j + k) = if j = c then i (M + 1) k else h (1372 * j + k) := by
    intro h c j k hk
    unfold putB
    by_cases e : j = c
    · subst e
      rw [if_pos rfl, if_pos (by omega)]
      congr 1
      omega
    · rw [if_neg e, if_neg (by omega)]
  unfold aRec
  by_cases hl : A.2.1.length < 4
  · rw [if_pos hl]
    have hl1 : (A.2.1 ++ [A.1]).length = A.2.1.length + 1 := by rw [List.length_append]; rfl
    have c1 : recC A.2.1.length = A.2.1.length + 1 := if_neg (by omega)
    have c2 : recH A.2.1.length (i (M + 2)) (i (M + 1)) = putB (i (M + 2)) A.2.1.length (i (M + 1)) := if_neg (by omega)
    refine ⟨by rw [i1]; exact h1, ⟨?_, ?_, fun j m hm => ?_⟩, (iM 4 (by decide)).trans h5, fun hk => by rw [i3]; exact h6 hk, (iM 7 (by decide)).trans h7, h8, fun k hk => by rw [i5]; exact h9 k hk⟩
    · show _ = nI (A.2.1 ++ [A.1]).length
      rw [hl1, iM2, c1]
    · show (A.2.1 ++ [A.1]).length ≤ 4
      omega
    · have hm : (A.2.1 ++ [A.1])[j]? = some m := hm
      rw [i2, c2]
      by_cases hj : j < A.2.1.length
      · rw [List.getElem?_append_left hj] at hm
        refine (h4 j m hm).congr (fun k hk => ?_)
        rw [put _ _ _ _ hk, if_neg (by omega)]
      · have hj2 : j = A.2.1.length := by
          have := (List.getElem?_eq_some_iff.mp hm).1
          omega
        rw [List.getElem?_append_right (by omega), hj2, Nat.sub_self] at hm
        have hm : A.1 = m := Option.some.inj hm
        subst hm
        refine h1.congr (fun k hk => ?_)
        rw [put _ _ _ _ hk, if_pos hj2]
  · rw [if_neg hl]
    have hl4 : A.2.1.length = 4 := by omega
    have hlt : A.2.1.tail.length = 3 := by rw [List.length_tail]; omega
    have hl1 : (A.2.1.tail ++ [A.1]).length = 4 := by rw [List.length_append, hlt]; rfl
    have c1 : recC A.2.1.length = 4 := if_pos hl4
    have c2 : recH A.2.1.length (i (M + 2)) (i (M + 1)) = putB (shK (i (M + 2)) 4116) 3 (i (M + 1)) := if_pos hl4
    refine ⟨by rw [i1]; exact h1, ⟨?_, ?_, fun j m hm => ?_⟩, (iM 4 (by decide)).trans h5, fun hk => by rw [i3]; exact h6 hk, (iM 7 (by decide)).trans h7, h8, fun k hk => by rw [i5]; exact h9 k hk⟩
    · show _ = nI (A.2.1.tail ++ [A.1]).length
      rw [hl1, iM2, c1]
    · show (A.2.1.tail ++ [A.1]).length ≤ 4
      omega
    · have hm : (A.2.1.tail ++ [A.1])[j]? = some m := hm
      rw [i2, c2]
      by_cases hj : j < 3
      · rw [List.getElem?_append_left (by omega), List.getElem?_tail] at hm
        refine (h4 (j + 1) m hm).congr (fun k hk => ?_)
        rw [put _ _ _ _ hk, if_neg (by omega)]
        unfold shK
        rw [if_pos (by omega)]
        congr 1
        omega
      · have hj2 : j = 3 := by
          have := (List.getElem?_eq_some_iff.mp hm).1
          omega
        rw [List.getElem?_append_right (by omega), hj2, hlt, Nat.sub_self] at hm
        have hm : A.1 = m := Option.some.inj hm
        subst hm
        refine h1.congr (fun k hk => ?_)
        rw [put _ _ _ _ hk, if_pos hj2]
theorem RefR.aR (h : RefR E Gd O A M i) {m : MS} {s' : Nat → Int32} (hS : RelS E Gd O [] m s') : RefR E Gd O (aR A m) M (upr (recI i M A.2.1.length) (M + 1) s') := h.rec.now hS
theorem recI_1 {c : Nat} : recI i M c (M + 1) = i (M + 1) := by
  unfold recI
  rw [ups_row (by omega), upr_n (by omega)]
theorem recI_out {c : Nat} : OutM M i (recI i M c) := (OutM.pr (a := M + 2) (by omega) (by omega)).tr (OutM.pi (a := M) (by omega) (by omega))
theorem RelS.ways {ml0 : RM} {m m' : MS} {s s' : Nat → Int32} (h : RelS E Gd O ml0 m s) (hs : ∀ k, k < 12 ∨ 54 ≤ k → s' k = s k) (hm : m'.1 = m.1 ∧ m'.2.2 = m.2.2) (hw : WaR m s → WaR m' s') : RelS E Gd O ml0 m' s' := by
  obtain ⟨β, qs, ps, nw, o, ho, r1, r2, r3, r4, r5, r6, r7, r8, r9⟩ := h
  exact ⟨β, qs, ps, nw, o, ho, r1.congr (fun k a _ _ => hs k (by omega)) hm.1, hw r2, r3.congr (fun k a b => hs k (by omega)) (by rw [hm.2]) (by rw [hm.2]), r4.congr (hs 10 (by omega)) (fun e f he hf => hs _ (by omega)), r5.congr (fun e f he hf => hs _ (by omega)), fun h hh => by rw [hm.2]; exact r6 h hh, r7.congr (fun k hk => hs k (by omega)), r8, by rw [hm.2]; exact r9⟩
theorem RelS.way {ml0 : RM} {m : MS} {s : Nat → Int32} {x y t : Int32} (h : RelS E Gd O ml0 m s) {a b : Nat} (ha : a < 6) (hb : b < 6) (hab : a ≠ b) : RelS E Gd O ml0 (sW (sW m (a * 7 + b) t) (b * 7 + a) t) (up1 (up1 s (12 + 6 * a + b) t) (12 + 6 * b + a) t) := by
  refine h.ways (fun k hk => by rw [up1_n (by omega), up1_n (by omega)]) ⟨rfl, rfl⟩ (fun hw => ⟨fun c d hc hd => ?_, fun q hq => ?_⟩)
  · show up1 (up1 s (12 + 6 * a + b) t) (12 + 6 * b + a) t (12 + 6 * c + d) = up1 (up1 m.2.1 (a * 7 + b) t) (b * 7 + a) t (c * 7 + d)
    unfold up1
    by_cases e1 : c = b ∧ d = a
    · rw [if_pos (show 12 + 6 * c + d = 12 + 6 * b + a by omega), if_pos (show c * 7 + d = b * 7 + a by omega)]
    · rw [if_neg (show ¬ 12 + 6 * c + d = 12 + 6 * b + a by omega), if_neg (show ¬ c * 7 + d = b * 7 + a by omega)]
      by_cases e2 : c = a ∧ d = b
      · rw [if_pos (show 12 + 6 * c + d = 12 + 6 * a + b by omega), if_pos (show c * 7 + d = a * 7 + b by omega)]
      · rw [if_neg (show ¬ 12 + 6 * c + d = 12 + 6 * a + b by omega), if_neg (show ¬ c * 7 + d = a * 7 + b by omega)]
        exact hw.1 c d hc hd
  · show up1 (up1 s (12 + 6 * a + b) t) (12 + 6 * b + a) t (48 + q) = up1 (up1 m.2.1 (a * 7 + b) t) (b * 7 + a) t (q * 7 + 6) ∧ up1 (up1 s (12 + 6 * a + b) t) (12 + 6 * b + a) t (48 + q) = up1 (up1 m.2.1 (a * 7 + b) t) (b * 7 + a) t (6 * 7 + q)
    rw [up1_n (by omega), up1_n (by omega), up1_n (by omega), up1_n (by omega), up1_n (by omega), up1_n (by omega)]
    exact hw.2 q hq
theorem RelS.wayB {ml0 : RM} {m : MS} {s : Nat → Int32} {t : Int32} (h : RelS E Gd O ml0 m s) {a : Nat} (ha : a < 6) : RelS E Gd O ml0 (sW (sW m (a * 7 + 6) t) (6 * 7 + a) t) (up1 s (48 + a) t) := by
  refine h.ways (fun k hk => by rw [up1_n (by omega)]) ⟨rfl, rfl⟩ (fun hw => ⟨fun c d hc hd => ?_, fun q hq => ?_⟩)
  · show up1 s (48 + a) t (12 + 6 * c + d) = up1 (up1 m.2.1 (a * 7 + 6) t) (6 * 7 + a) t (c * 7 + d)
    rw [up1_n (by omega), up1_n (by omega), up1_n (by omega)]
    exact hw.1 c d hc hd
  · show up1 s (48 + a) t (48 + q) = up1 (up1 m.2.1 (a * 7 + 6) t) (6 * 7 + a) t (q * 7 + 6) ∧ up1 s (48 + a) t (48 + q) = up1 (up1 m.2.1 (a * 7 + 6) t) (6 * 7 + a) t (6 * 7 + q)
    by_cases e : q = a
    · subst e
      rw [up1_s, up1_n (show q * 7 + 6 ≠ 6 * 7 + q by omega), up1_s, up1_s]
      exact ⟨rfl, rfl⟩
    · rw [up1_n (by omega), up1_n (by omega), up1_n (by omega), up1_n (by omega), up1_n (by omega)]
      exact hw.2 q hq
theorem pq_same {x : Int32} (hR : RefR E Gd O A M i) : PQ x (RefR E Gd O A M) M n i r (some (.int x)) n i r := ⟨rfl, rfl, rfl, OutM.rf, hR⟩
theorem ixT (a b : Nat) : (12 : Int32) + 6 * nI a + nI b = nI (12 + 6 * a + b) := by
  rw [show (12 : Int32) = nI 12 from rfl, show (6 : Int32) = nI 6 from rfl, pk_mul, nI_add, nI_add]
theorem isW_in (x : Int32) : decide ((1 : Int32) ≤ x ∧ x ≤ 9) = isW x := by
  unfold isW
  by_cases h1 : 1 ≤ x
  · rw [decide_eq_true h1, Bool.true_and]
    by_cases h2 : x ≤ 9
    · rw [decide_eq_true h2]; exact decide_eq_true ⟨h1, h2⟩
    · rw [decide_eq_false h2]; exact decide_eq_false (fun q => h2 q.2)
  · rw [decide_eq_false h1, Bool.false_and]; exact decide_eq_false (fun q => h1 q.1)
theorem c_mTime {x y t : Int32} (hY : MoY G n M r) (hR : RefR E Gd O A M i) : Go l G mX6_setTime 2 0 0 0 (lentry [.ref M, .int x, .int y, .int t] 5) [] n i r (PQ (aTime A x y t).1 (RefR E Gd O (aTime A x y t).2 M) M n i r) := by
  obtain ⟨⟨hM, hr0, hs⟩, ⟨hr1, hr3, hr5, hr6, hr8, hr12⟩, hA2, hA3, hA4, hA5, hA6, hA7⟩ := id hY
  have bad : ¬ (isH x = true ∧ isH y = true) → Go l G mX6_setTime 2 0 0 14 (lentry [.ref M, .int x, .int y, .int t] 5) [] n i r (PQ (aTime A x y t).1 (RefR E Gd O (aTime A x y t).2 M) M n i r) := by
    intro h
    unfold aTime
    rw [if_neg h]
    refine go_iconst (z := 15) (v := (-1)) dX6_setTime_14 rfl (by decide) ?_
    exact go_iret dX6_setTime_15 rfl (pq_same hR)
  refine go_iload_n (z := 1) dX6_setTime_0 rfl rfl ?_
  refine go_callS (z := 4) [.int x] dX6_setTime_1 rfl mlX6_isHouse sX6_103 rfl rfl (by decide) (cat_i cat_nil) (by simp) (by decide) (by first | decide | omega) (by first | decide | omega) (c_mIsHouse) ?_
  refine ret_elim ?_
  refine go_if_eq (z := 14) (z2 := 7) dX6_setTime_4 rfl (by decide) (fun h => bad (fun q => by rw [b2i_eq h] at q; exact absurd q.1 (by decide))) (fun hx => ?_)
  refine go_iload_n (z := 8) dX6_setTime_7 rfl rfl ?_
  refine go_callS (z := 11) [.int y] dX6_setTime_8 rfl mlX6_isHouse sX6_103 rfl rfl (by decide) (cat_i cat_nil) (by simp) (by decide) (by first | decide | omega) (by first | decide | omega) (c_mIsHouse) ?_
  refine ret_elim ?_
  refine go_if_ne (z := 16) (z2 := 14) dX6_setTime_11 rfl (by decide) (fun hy => ?_) (fun h => bad (fun q => by rw [b2i_eq h] at q; exact absurd q.2 (by decide)))
  have hx := b2i_ne hx
  have hy := b2i_ne hy
  obtain ⟨a, ha, ea, ea2⟩ := isH_of hx
  obtain ⟨b, hb, eb, eb2⟩ := isH_of hy
  have bad2 : ¬ (isW t = true ∧ x ≠ y) → Go l G mX6_setTime 2 0 0 31 (lentry [.ref M, .int x, .int y, .int t] 5) [] n i r (PQ (aTime A x y t).1 (RefR E Gd O (aTime A x y t).2 M) M n i r) := by
    intro h
    unfold aTime
    rw [if_pos ⟨hx, hy⟩, if_neg h]
    refine go_bipush (z := 33) (v := (-2)) dX6_setTime_31 rfl (by decide) ?_
    exact go_iret dX6_setTime_33 rfl (pq_same hR)
  refine go_iload_n (z := 17) dX6_setTime_16 rfl rfl ?_
  refine go_iconst (z := 18) (v := 1) dX6_setTime_17 rfl (by decide) ?_
  refine go_bipush (z := 20) (v := 9) dX6_setTime_18 rfl (by decide) ?_
  refine go_callS (z := 23) [.int t, .int 1, .int 9] dX6_setTime_20 rfl mlX6_in sX6_31 rfl rfl (by decide) (cat_i (cat_i (cat_i cat_nil))) (by simp) (by decide) (by first | decide | omega) (by first | decide | omega) (c_mIn) ?_
  refine ret_elim ?_
  rw [isW_in]
  refine go_if_eq (z := 31) (z2 := 26) dX6_setTime_23 rfl (by decide) (fun h => bad2 (fun q => by rw [b2i_eq h] at q; exact absurd q.1 (by decide))) (fun ht => ?_)
  have ht := b2i_ne ht
  refine go_iload_n (z := 27) dX6_setTime_26 rfl rfl ?_
  refine go_iload_n (z := 28) dX6_setTime_27 rfl rfl ?_
  refine go_icmp_ne (z := 34) (z2 := 31) dX6_setTime_28 rfl (by decide) (fun hne => ?_) (fun h => bad2 (fun q => q.2 h))
  have hab : a ≠ b := fun q => hne (by rw [ea, eb, q])
  unfold aTime
  rw [if_pos ⟨hx, hy⟩, if_pos ⟨ht, hne⟩, ea2, eb2]
  have hS := hR.1
  obtain ⟨β, qs, ps, nw, o, ho, hA⟩ := id hS
  have hway := hA.2.1.1 a b ha hb
  subst ea eb
  refine go_aload_n (z := 35) dX6_setTime_34 rfl rfl ?_
  refine go_getR (z := 38) dX6_setTime_35 rfl fX6_7 (by assumption) rfl (by assumption) ?_
  refine go_bipush (z := 40) (v := 12) dX6_setTime_38 rfl (by decide) ?_
  refine go_bipush (z := 42) (v := 6) dX6_setTime_40 rfl (by decide) ?_
  refine go_iload_n (z := 43) dX6_setTime_42 rfl rfl ?_
  refine go_imul (z := 44) dX6_setTime_43 rfl ?_
  refine go_iadd (z := 45) dX6_setTime_44 rfl ?_
  refine go_iload_n (z := 46) dX6_setTime_45 rfl rfl ?_
  refine go_iadd (z := 47) dX6_setTime_46 rfl ?_
  refine go_iald (z := 48) (12 + 6 * a + b) (by assumption) (by decide) (ixT a b) (by omega) dX6_setTime_47 rfl ?_
  rw [hway]
  refine go_istore (z := 50) dX6_setTime_48 rfl (by decide) ?_
  refine go_iload (z := 52) dX6_setTime_50 rfl rfl ?_
  refine go_iload_n (z := 53) dX6_setTime_52 rfl rfl ?_
  unfold aWay
  refine go_icmp_ne (z := 59) (z2 := 56) dX6_setTime_53 rfl (by decide) (fun hn => ?_) (fun he => ?_)
  · rw [if_neg hn]
    refine go_aload_n (z := 60) dX6_setTime_59 rfl rfl ?_
    refine go_callV (z := 63) (t := 6) [] dX6_setTime_60 rfl mlX6_record vX6_107 ⟨by decide, rfl⟩ hM rfl rfl (by decide) cat_nil (by simp) (by decide) (by first | decide | omega) (by first | decide | omega) (c_mRecord hY hR.2.1.1 hR.2.1.2.1) ?_
    refine ret_elim ?_
    refine go_aload_n (z := 64) dX6_setTime_63 rfl rfl ?_
    refine go_getR (z := 67) dX6_setTime_64 rfl fX6_7 (by assumption) rfl (by assumption) ?_
    refine go_bipush (z := 69) (v := 12) dX6_setTime_67 rfl (by decide) ?_
    refine go_bipush (z := 71) (v := 6) dX6_setTime_69 rfl (by decide) ?_
    refine go_iload_n (z := 72) dX6_setTime_71 rfl rfl ?_
    refine go_imul (z := 73) dX6_setTime_72 rfl ?_
    refine go_iadd (z := 74) dX6_setTime_73 rfl ?_
    refine go_iload_n (z := 75) dX6_setTime_74 rfl rfl ?_
    refine go_iadd (z := 76) dX6_setTime_75 rfl ?_
    refine go_iload_n (z := 77) dX6_setTime_76 rfl rfl ?_
    refine go_iast (z := 78) (12 + 6 * a + b) (by assumption) (by decide) (ixT a b) (by omega) dX6_setTime_77 rfl ?_
    refine go_aload_n (z := 79) dX6_setTime_78 rfl rfl ?_
    refine go_getR (z := 82) dX6_setTime_79 rfl fX6_7 (by assumption) rfl (by assumption) ?_
    refine go_bipush (z := 84) (v := 12) dX6_setTime_82 rfl (by decide) ?_
    refine go_bipush (z := 86) (v := 6) dX6_setTime_84 rfl (by decide) ?_
    refine go_iload_n (z := 87) dX6_setTime_86 rfl rfl ?_
    refine go_imul (z := 88) dX6_setTime_87 rfl ?_
    refine go_iadd (z := 89) dX6_setTime_88 rfl ?_
    refine go_iload_n (z := 90) dX6_setTime_89 rfl rfl ?_
    refine go_iadd (z := 91) dX6_setTime_90 rfl ?_
    refine go_iload_n (z := 92) dX6_setTime_91 rfl rfl ?_
    refine go_iast (z := 93) (12 + 6 * b + a) (by assumption) (by decide) (ixT b a) (by omega) dX6_setTime_92 rfl ?_
    refine go_iload (z := 95) dX6_setTime_93 rfl rfl ?_
    refine go_iret dX6_setTime_95 rfl ⟨rfl, rfl, rfl, recI_out.tr ((OutM.pi (a := M + 1) (by omega) (by omega)).tr (OutM.pi (a := M + 1) (by omega) (by omega))), ?_⟩
    rw [up_row, up_row, upr_s, upr_upr, recI_1]
    exact hR.aR (hS.way (x := t) (y := t) ha hb hab)
  · rw [if_pos he]
    refine go_bipush (z := 58) (v := (-5)) dX6_setTime_56 rfl (by decide) ?_
    exact go_iret dX6_setTime_58 rfl (pq_same hR)
theorem c_mBank {x t : Int32} (hY : MoY G n M r) (hR : RefR E Gd O A M i) : Go l G mX6_setBankTime 2 0 0 0 (lentry [.ref M, .int x, .int t] 4) [] n i r (PQ (aBank A x t).1 (RefR E Gd O (aBank A x t).2 M) M n i r) := by
  obtain ⟨⟨hM, hr0, hs⟩, ⟨hr1, hr3, hr5, hr6, hr8, hr12⟩, hA2, hA3, hA4, hA5, hA6, hA7⟩ := id hY
  unfold aBank
  refine go_iload_n (z := 1) dX6_setBankTime_0 rfl rfl ?_
  refine go_callS (z := 4) [.int x] dX6_setBankTime_1 rfl mlX6_isHouse sX6_103 rfl rfl (by decide) (cat_i cat_nil) (by simp) (by decide) (by first | decide | omega) (by first | decide | omega) (c_mIsHouse) ?_
  refine ret_elim ?_
  refine go_if_ne (z := 9) (z2 := 7) dX6_setBankTime_4 rfl (by decide) (fun hx => ?_) (fun h => ?_)
  · have hx := b2i_ne hx
    obtain ⟨a, ha, ea, ea2⟩ := isH_of hx
    rw [if_pos hx, ea2]
    refine go_iload_n (z := 10) dX6_setBankTime_9 rfl rfl ?_
    refine go_iconst (z := 11) (v := 1) dX6_setBankTime_10 rfl (by decide) ?_
    refine go_bipush (z := 13) (v := 9) dX6_setBankTime_11 rfl (by decide) ?_
    refine go_callS (z := 16) [.int t, .int 1, .int 9] dX6_setBankTime_13 rfl mlX6_in sX6_31 rfl rfl (by decide) (cat_i (cat_i (cat_i cat_nil))) (by simp) (by decide) (by first | decide | omega) (by first | decide | omega) (c_mIn) ?_
    refine ret_elim ?_
    rw [isW_in]
    refine go_if_ne (z := 22) (z2 := 19) dX6_setBankTime_16 rfl (by decide) (fun ht => ?_) (fun h => ?_)
    · have ht := b2i_ne ht
      rw [if_pos ht]
      have hS := hR.1
      obtain ⟨β, qs, ps, nw, o, ho, hA⟩ := id hS
      have hway := (hA.2.1.2 a ha).1
      subst ea
      have hix : (48 : Int32) + nI a = nI (48 + a) := nI_add 48 a
      refine go_aload_n (z := 23) dX6_setBankTime_22 rfl rfl ?_
      refine go_getR (z := 26) dX6_setBankTime_23 rfl fX6_7 (by assumption) rfl (by assumption) ?_
      refine go_bipush (z := 28) (v := 48) dX6_setBankTime_26 rfl (by decide) ?_
      refine go_iload_n (z := 29) dX6_setBankTime_28 rfl rfl ?_
      refine go_iadd (z := 30) dX6_setBankTime_29 rfl ?_
      refine go_iald (z := 31) (48 + a) (by assumption) (by decide) hix (by omega) dX6_setBankTime_30 rfl ?_
      rw [hway]
      refine go_istore_n (z := 32) dX6_setBankTime_31 rfl (by decide) ?_
      refine go_iload_n (z := 33) dX6_setBankTime_32 rfl rfl ?_
      refine go_iload_n (z := 34) dX6_setBankTime_33 rfl rfl ?_
      unfold aWay
      refine go_icmp_ne (z := 40) (z2 := 37) dX6_setBankTime_34 rfl (by decide) (fun hn => ?_) (fun he => ?_)
      · rw [if_neg hn]
        refine go_aload_n (z := 41) dX6_setBankTime_40 rfl rfl ?_
        refine go_callV (z := 44) (t := 6) [] dX6_setBankTime_41 rfl mlX6_record vX6_107 ⟨by decide, rfl⟩ hM rfl rfl (by decide) cat_nil (by simp) (by decide) (by first | decide | omega) (by first | decide | omega) (c_mRecord hY hR.2.1.1 hR.2.1.2.1) ?_
        refine ret_elim ?_
        refine go_aload_n (z := 45) dX6_setBankTime_44 rfl rfl ?_
        refine go_getR (z := 48) dX6_setBankTime_45 rfl fX6_7 (by assumption) rfl (by assumption) ?_
        refine go_bipush (z := 50) (v := 48) dX6_setBankTime_48 rfl (by decide) ?_
        refine go_iload_n (z := 51) dX6_setBankTime_50 rfl rfl ?_
        refine go_iadd (z := 52) dX6_setBankTime_51 rfl ?_
        refine go_iload_n (z := 53) dX6_setBankTime_52 rfl rfl ?_
        refine go_iast (z := 54) (48 + a) (by assumption) (by decide) hix (by omega) dX6_setBankTime_53 rfl ?_
        refine go_iload_n (z := 55) dX6_setBankTime_54 rfl rfl ?_
        refine go_iret dX6_setBankTime_55 rfl ⟨rfl, rfl, rfl, recI_out.tr (OutM.pi (a := M + 1) (by omega) (by omega)), ?_⟩
        rw [up_row, recI_1]
        exact hR.aR (hS.wayB ha)
      · rw [if_pos he]
        refine go_bipush (z := 39) (v := (-5)) dX6_setBankTime_37 rfl (by decide) ?_
        exact go_iret dX6_setBankTime_39 rfl (pq_same hR)
    · rw [if_neg (fun q => by rw [b2i_eq h] at q; exact absurd q (by decide))]
      refine go_bipush (z := 21) (v := (-2)) dX6_setBankTime_19 rfl (by decide) ?_
      exact go_iret dX6_setBankTime_21 rfl (pq_same hR)
  · rw [if_neg (fun q => by rw [b2i_eq h] at q; exact absurd q (by decide))]
    refine go_iconst (z := 8) (v := (-1)) dX6_setBankTime_7 rfl (by decide) ?_
    exact go_iret dX6_setBankTime_8 rfl (pq_same hR)
end MSET
