section HOUSE
variable {l : Launch} {G : GG} {n : Nat} {i : IP} {r : RP}
theorem tag_ne {G : GG} {n a b t q : Nat} (h : Ok G n a t) (h2 : Ok G n b q) (hn : t ≠ q) : a ≠ b := fun e => hn (by rw [← h.2.2, ← h2.2.2, e])
theorem OkA.ok {G : GG} {n a t len : Nat} (h : OkA G n a t len) : Ok G n a t := ⟨h.1, h.2.1, by rw [h.2.2]⟩
theorem c_House_removeFirst {a b c : Nat} (ha : Ok G n a 1) (hb : OkA G n b 9 80) (hl : r a 10 = some b) (hc : i a 3 = nI c) (hc1 : 1 ≤ c) (hc8 : c ≤ 80) (he : ∀ k, k < c → ∃ e, r b k = some e ∧ Ok G n e 0) : Go l G mX1_removeFirst 0 0 0 0 (lentry [.ref a] 2) [] n i r (fun v n' i' r' => v = none ∧ n' = n ∧ i' = ups i a 3 (nI (c - 1)) ∧ (∀ q, q ≠ b → r' q = r q) ∧ ∀ k, k + 1 < c → r' b k = r b (k + 1)) := by
  have hab : a ≠ b := tag_ne ha hb.ok (by decide)
  refine go_iconst (z := 1) (v := 0) dX1_removeFirst_0 rfl (by decide) ?_
  refine go_istore_n (z := 2) dX1_removeFirst_1 rfl (by decide) ?_
  have loop : ∀ d k (r1 : RP), k + 1 + d = c → (∀ q, q ≠ b → r1 q = r q) → (∀ j, j < k → r1 b j = r b (j + 1)) → (∀ j, k ≤ j → r1 b j = r b j) → Go l G mX1_removeFirst 0 0 0 2 [some (.ref a), some (.int (nI k))] [] n i r1 (fun v n' i' r' => v = none ∧ n' = n ∧ i' = ups i a 3 (nI (c - 1)) ∧ (∀ q, q ≠ b → r' q = r q) ∧ ∀ k, k + 1 < c → r' b k = r b (k + 1)) := by
    intro d
    induction d with
    | zero =>
      intro k r1 hk h1 h2 h3
      refine go_iload_n (z := 3) dX1_removeFirst_2 rfl rfl ?_
      refine go_iconst (z := 4) (v := 1) dX1_removeFirst_3 rfl (by decide) ?_
      refine go_iadd (z := 5) dX1_removeFirst_4 rfl ?_
      refine go_aload_n (z := 6) dX1_removeFirst_5 rfl rfl ?_
      refine go_getI (z := 9) dX1_removeFirst_6 rfl fX1_28 (by assumption) rfl ?_
      refine go_icmp_ge (z := 43) (z2 := 12) dX1_removeFirst_9 rfl (by decide) (fun h => ?_) (fun h => ?_)
      · refine go_aload_n (z := 44) dX1_removeFirst_43 rfl rfl ?_
        refine go_dup (z := 45) dX1_removeFirst_44 rfl rfl ?_
        refine go_getI (z := 48) dX1_removeFirst_45 rfl fX1_28 (by assumption) rfl ?_
        refine go_iconst (z := 49) (v := 1) dX1_removeFirst_48 rfl (by decide) ?_
        refine go_isub (z := 50) dX1_removeFirst_49 rfl ?_
        refine go_putI (z := 53) dX1_removeFirst_50 rfl fX1_28 (by assumption) rfl (Or.inl rfl) rfl ?_
        exact go_vret dX1_removeFirst_53 rfl ⟨rfl, rfl, by rw [hc]; exact congrArg _ (pk_sub hc1), h1, fun j hj => h2 j (by omega)⟩
      · exact absurd (by rw [hc, nI_1]; exact nI_le (by omega) (by omega)) h
    | succ d ih =>
      intro k r1 hk h1 h2 h3
      have hl1 : r1 a 10 = some b := by rw [h1 a hab]; exact hl
      obtain ⟨e, he1, he2⟩ := he (k + 1) (by omega)
      have he3 : r1 b (k + 1) = some e := by rw [h3 _ (by omega)]; exact he1
      refine go_iload_n (z := 3) dX1_removeFirst_2 rfl rfl ?_
      refine go_iconst (z := 4) (v := 1) dX1_removeFirst_3 rfl (by decide) ?_
      refine go_iadd (z := 5) dX1_removeFirst_4 rfl ?_
      refine go_aload_n (z := 6) dX1_removeFirst_5 rfl rfl ?_
      refine go_getI (z := 9) dX1_removeFirst_6 rfl fX1_28 (by assumption) rfl ?_
      refine go_icmp_ge (z := 43) (z2 := 12) dX1_removeFirst_9 rfl (by decide) (fun h => ?_) (fun h => ?_)
      · exact absurd h (by rw [hc, nI_1]; exact nI_ge (by omega) (by omega))
      · refine go_iload_n (z := 13) dX1_removeFirst_12 rfl rfl ?_
        refine go_iconst (z := 14) (v := 1) dX1_removeFirst_13 rfl (by decide) ?_
        refine go_iadd (z := 15) dX1_removeFirst_14 rfl ?_
        refine go_aload_n (z := 16) dX1_removeFirst_15 rfl rfl ?_
        refine go_getR (z := 19) dX1_removeFirst_16 rfl fX1_11 (by assumption) rfl (by assumption) ?_
        refine go_alen (z := 20) (by assumption) (by decide) dX1_removeFirst_19 rfl ?_
        refine go_icmp_ge (z := 43) (z2 := 23) dX1_removeFirst_20 rfl (by decide) (fun h => ?_) (fun h => ?_)
        · exact absurd h (by rw [nI_1]; exact nI_ge (by omega) (by omega))
        · refine go_aload_n (z := 24) dX1_removeFirst_23 rfl rfl ?_
          refine go_getR (z := 27) dX1_removeFirst_24 rfl fX1_11 (by assumption) rfl (by assumption) ?_
          refine go_iload_n (z := 28) dX1_removeFirst_27 rfl rfl ?_
          refine go_aload_n (z := 29) dX1_removeFirst_28 rfl rfl ?_
          refine go_getR (z := 32) dX1_removeFirst_29 rfl fX1_11 (by assumption) rfl (by assumption) ?_
          refine go_iload_n (z := 33) dX1_removeFirst_32 rfl rfl ?_
          refine go_iconst (z := 34) (v := 1) dX1_removeFirst_33 rfl (by decide) ?_
          refine go_iadd (z := 35) dX1_removeFirst_34 rfl ?_
          refine go_aaldR (z := 36) (k + 1) (by assumption) ⟨by decide, by decide⟩ (by decide) (nI_1 k) (by omega) (by assumption) dX1_removeFirst_35 rfl ?_
          refine go_aastR (z := 37) _ (by assumption) ⟨by decide, by decide⟩ (by decide) rfl (by omega) he2 (by decide) rfl dX1_removeFirst_36 rfl ?_
          refine go_iinc (z := 40) dX1_removeFirst_37 rfl rfl (nI_1 k) (by decide) ?_
          refine go_goto (z := 2) dX1_removeFirst_40 (by decide) ?_
          refine go_lo (lo' := [some (.ref a), some (.int (nI (k + 1)))]) rfl (ih (k + 1) _ (by omega) (fun q hq => (ups_row hq).trans (h1 q hq)) (fun j hj => ?_) (fun j hj => (ups_k (by omega)).trans (h3 j (by omega))))
          by_cases hjk : j = k
          · subst hjk; rw [ups_s]; exact he1.symm
          · exact (ups_k hjk).trans (h2 j (by omega))
  exact go_lo (lo' := [some (.ref a), some (.int (nI 0))]) rfl (loop (c - 1) 0 r (by omega) (fun _ _ => rfl) (fun j hj => absurd hj (Nat.not_lt_zero j)) (fun _ _ => rfl))
theorem c_House_copyFrom {a b la lb c : Nat} (ha : Ok G n a 1) (hb : Ok G n b 1) (hla : OkA G n la 9 80) (hlb : OkA G n lb 9 80) (h1 : r a 10 = some la) (h2 : r b 10 = some lb) (hab : a ≠ b) (hll : la ≠ lb) (hc : i b 3 = nI c) (hc8 : c ≤ 80) (he : ∀ k, k < c → ∃ e, r lb k = some e ∧ Ok G n e 0) : Go l G mX1_copyFrom 0 0 0 0 (lentry [.ref a, .ref b] 3) [] n i r (fun v n' i' r' => v = none ∧ n' = n ∧ (∀ q, q ≠ a → i' q = i q) ∧ (∀ q, q ≠ la → r' q = r q) ∧ (∀ f, f < 10 → i' a f = i b f) ∧ ∀ k, k < c → r' la k = r lb k) := by
  have hal : a ≠ la := tag_ne ha hla.ok (by decide)
  have hbl : b ≠ la := tag_ne hb hla.ok (by decide)
  have hba : b ≠ a := Ne.symm hab
  refine go_aload_n (z := 1) dX1_copyFrom_0 rfl rfl ?_
  refine go_aload_n (z := 2) dX1_copyFrom_1 rfl rfl ?_
  refine go_getI (z := 5) dX1_copyFrom_2 rfl fX1_17 (by assumption) rfl ?_
  refine go_nar 0 hb (by decide) rfl (fun hz => ?_)
  refine go_putI (z := 8) dX1_copyFrom_5 rfl fX1_17 (by assumption) rfl (Or.inl rfl) hz ?_
  refine go_aload_n (z := 9) dX1_copyFrom_8 rfl rfl ?_
  refine go_aload_n (z := 10) dX1_copyFrom_9 rfl rfl ?_
  refine go_getI (z := 13) dX1_copyFrom_10 rfl fX1_21 (by assumption) rfl ?_
  refine go_putI (z := 16) dX1_copyFrom_13 rfl fX1_21 (by assumption) rfl (Or.inl rfl) rfl ?_
  refine go_aload_n (z := 17) dX1_copyFrom_16 rfl rfl ?_
  refine go_aload_n (z := 18) dX1_copyFrom_17 rfl rfl ?_
  refine go_getI (z := 21) dX1_copyFrom_18 rfl fX1_25 (by assumption) rfl ?_
  refine go_putI (z := 24) dX1_copyFrom_21 rfl fX1_25 (by assumption) rfl (Or.inl rfl) rfl ?_
  refine go_aload_n (z := 25) dX1_copyFrom_24 rfl rfl ?_
  refine go_aload_n (z := 26) dX1_copyFrom_25 rfl rfl ?_
  refine go_getI (z := 29) dX1_copyFrom_26 rfl fX1_28 (by assumption) rfl ?_
  refine go_putI (z := 32) dX1_copyFrom_29 rfl fX1_28 (by assumption) rfl (Or.inl rfl) rfl ?_
  refine go_aload_n (z := 33) dX1_copyFrom_32 rfl rfl ?_
  refine go_aload_n (z := 34) dX1_copyFrom_33 rfl rfl ?_
  refine go_getI (z := 37) dX1_copyFrom_34 rfl fX1_31 (by assumption) rfl ?_
  refine go_nar 4 hb (by decide) rfl (fun hz => ?_)
  refine go_putI (z := 40) dX1_copyFrom_37 rfl fX1_31 (by assumption) rfl (Or.inl rfl) hz ?_
  refine go_aload_n (z := 41) dX1_copyFrom_40 rfl rfl ?_
  refine go_aload_n (z := 42) dX1_copyFrom_41 rfl rfl ?_
  refine go_getI (z := 45) dX1_copyFrom_42 rfl fX1_34 (by assumption) rfl ?_
  refine go_nar 5 hb (by decide) rfl (fun hz => ?_)
  refine go_putI (z := 48) dX1_copyFrom_45 rfl fX1_34 (by assumption) rfl (Or.inl rfl) hz ?_
  refine go_aload_n (z := 49) dX1_copyFrom_48 rfl rfl ?_
  refine go_aload_n (z := 50) dX1_copyFrom_49 rfl rfl ?_
  refine go_getI (z := 53) dX1_copyFrom_50 rfl fX1_37 (by assumption) rfl ?_
  refine go_putI (z := 56) dX1_copyFrom_53 rfl fX1_37 (by assumption) rfl (Or.inl rfl) rfl ?_
  refine go_aload_n (z := 57) dX1_copyFrom_56 rfl rfl ?_
  refine go_aload_n (z := 58) dX1_copyFrom_57 rfl rfl ?_
  refine go_getI (z := 61) dX1_copyFrom_58 rfl fX1_40 (by assumption) rfl ?_
  refine go_putI (z := 64) dX1_copyFrom_61 rfl fX1_40 (by assumption) rfl (Or.inl rfl) rfl ?_
  refine go_aload_n (z := 65) dX1_copyFrom_64 rfl rfl ?_
  refine go_aload_n (z := 66) dX1_copyFrom_65 rfl rfl ?_
  refine go_getI (z := 69) dX1_copyFrom_66 rfl fX1_43 (by assumption) rfl ?_
  refine go_putI (z := 72) dX1_copyFrom_69 rfl fX1_43 (by assumption) rfl (Or.inl rfl) rfl ?_
  refine go_aload_n (z := 73) dX1_copyFrom_72 rfl rfl ?_
  refine go_aload_n (z := 74) dX1_copyFrom_73 rfl rfl ?_
  refine go_getI (z := 77) dX1_copyFrom_74 rfl fX1_46 (by assumption) rfl ?_
  refine go_putI (z := 80) dX1_copyFrom_77 rfl fX1_46 (by assumption) rfl (Or.inl rfl) rfl ?_
  refine go_iconst (z := 81) (v := 0) dX1_copyFrom_80 rfl (by decide) ?_
  refine go_istore_n (z := 82) dX1_copyFrom_81 rfl (by decide) ?_
  generalize hI : ups (ups (ups _ _ _ _) _ _ _) _ _ _ = i1
  have hi1 : ∀ q, q ≠ a → i1 q = i q := fun q hq => by rw [← hI]; simp only [ups_row hq]
  have hi2 : ∀ f, f < 10 → i1 a f = i b f := fun f hf => by
    rw [← hI]
    simp only [ups_a hba]
    rcases (show f = 0 ∨ f = 1 ∨ f = 2 ∨ f = 3 ∨ f = 4 ∨ f = 5 ∨ f = 6 ∨ f = 7 ∨ f = 8 ∨ f = 9 by omega) with rfl | rfl | rfl | rfl | rfl | rfl | rfl | rfl | rfl | rfl <;> simp [ups]
  clear hI
  have hc2 : i1 a 3 = nI c := by rw [hi2 3 (by omega)]; exact hc
  have loop : ∀ d k (r1 : RP), k + d = c → (∀ q, q ≠ la → r1 q = r q) → (∀ j, j < k → r1 la j = r lb j) → Go l G mX1_copyFrom 0 0 0 82 [some (.ref a), some (.ref b), some (.int (nI k))] [] n i1 r1 (fun v n' i' r' => v = none ∧ n' = n ∧ (∀ q, q ≠ a → i' q = i q) ∧ (∀ q, q ≠ la → r' q = r q) ∧ (∀ f, f < 10 → i' a f = i b f) ∧ ∀ k, k < c → r' la k = r lb k) := by
    intro d
    induction d with
    | zero =>
      intro k r1 hk g1 g2
      refine go_iload_n (z := 83) dX1_copyFrom_82 rfl rfl ?_
      refine go_aload_n (z := 84) dX1_copyFrom_83 rfl rfl ?_
      refine go_getI (z := 87) dX1_copyFrom_84 rfl fX1_28 (by assumption) rfl ?_
      refine go_icmp_ge (z := 126) (z2 := 90) dX1_copyFrom_87 rfl (by decide) (fun h => ?_) (fun h => ?_)
      · exact go_vret dX1_copyFrom_126 rfl ⟨rfl, rfl, hi1, g1, hi2, fun j hj => g2 j (by omega)⟩
      · exact absurd (by rw [hc2]; exact nI_le (by omega) (by omega)) h
    | succ d ih =>
      intro k r1 hk g1 g2
      have e1 : r1 a 10 = some la := by rw [g1 a hal]; exact h1
      have e2 : r1 b 10 = some lb := by rw [g1 b hbl]; exact h2
      obtain ⟨e, he1, he2⟩ := he k (by omega)
      have he3 : r1 lb k = some e := by rw [g1 lb (Ne.symm hll)]; exact he1
      refine go_iload_n (z := 83) dX1_copyFrom_82 rfl rfl ?_
      refine go_aload_n (z := 84) dX1_copyFrom_83 rfl rfl ?_
      refine go_getI (z := 87) dX1_copyFrom_84 rfl fX1_28 (by assumption) rfl ?_
      refine go_icmp_ge (z := 126) (z2 := 90) dX1_copyFrom_87 rfl (by decide) (fun h => ?_) (fun h => ?_)
      · exact absurd h (by rw [hc2]; exact nI_ge (by omega) (by omega))
      · refine go_iload_n (z := 91) dX1_copyFrom_90 rfl rfl ?_
        refine go_aload_n (z := 92) dX1_copyFrom_91 rfl rfl ?_
        refine go_getR (z := 95) dX1_copyFrom_92 rfl fX1_11 (by assumption) rfl (by assumption) ?_
        refine go_alen (z := 96) (by assumption) (by decide) dX1_copyFrom_95 rfl ?_
        refine go_icmp_ge (z := 126) (z2 := 99) dX1_copyFrom_96 rfl (by decide) (fun h => ?_) (fun h => ?_)
        · exact absurd h (nI_ge (by omega) (by omega))
        · refine go_iload_n (z := 100) dX1_copyFrom_99 rfl rfl ?_
          refine go_aload_n (z := 101) dX1_copyFrom_100 rfl rfl ?_
          refine go_getR (z := 104) dX1_copyFrom_101 rfl fX1_11 (by assumption) rfl (by assumption) ?_
          refine go_alen (z := 105) (by assumption) (by decide) dX1_copyFrom_104 rfl ?_
          refine go_icmp_ge (z := 126) (z2 := 108) dX1_copyFrom_105 rfl (by decide) (fun h => absurd h (nI_ge (by omega) (by omega))) (fun _ => ?_)
          refine go_aload_n (z := 109) dX1_copyFrom_108 rfl rfl ?_
          refine go_getR (z := 112) dX1_copyFrom_109 rfl fX1_11 (by assumption) rfl (by assumption) ?_
          refine go_iload_n (z := 113) dX1_copyFrom_112 rfl rfl ?_
          refine go_aload_n (z := 114) dX1_copyFrom_113 rfl rfl ?_
          refine go_getR (z := 117) dX1_copyFrom_114 rfl fX1_11 (by assumption) rfl (by assumption) ?_
          refine go_iload_n (z := 118) dX1_copyFrom_117 rfl rfl ?_
          refine go_aaldR (z := 119) _ hlb ⟨by decide, by decide⟩ (by decide) rfl (by omega) (by assumption) dX1_copyFrom_118 rfl ?_
          refine go_aastR (z := 120) _ hla ⟨by decide, by decide⟩ (by decide) rfl (by omega) he2 (by decide) rfl dX1_copyFrom_119 rfl ?_
          refine go_iinc (z := 123) dX1_copyFrom_120 rfl rfl (nI_1 k) (by decide) ?_
          refine go_goto (z := 82) dX1_copyFrom_123 (by decide) ?_
          refine go_lo (lo' := [some (.ref a), some (.ref b), some (.int (nI (k + 1)))]) rfl (ih (k + 1) _ (by omega) (fun q hq => (ups_row hq).trans (g1 q hq)) (fun j hj => ?_))
          by_cases hjk : j = k
          · subst hjk; rw [ups_s]; exact he1.symm
          · exact (ups_k hjk).trans (g2 j (by omega))
  exact go_lo (lo' := [some (.ref a), some (.ref b), some (.int (nI 0))]) rfl (loop c 0 r (by omega) (fun _ _ => rfl) (fun j hj => absurd hj (Nat.not_lt_zero j)))
/-- the errands of a line, and how many are within -/
def Line (r : RP) (b : Nat) (q : List Nat) : Prop := ∀ (k e : Nat), q[k]? = some e → r b k = some e
theorem c_House_errandsWithin {a b : Nat} {q : List Nat} {E : EE} {Gd : Nat → Prop} (ha : Ok G n a 1) (hb : OkA G n b 9 80) (hl : r a 10 = some b) (hc : i a 3 = nI q.length) (hc8 : q.length ≤ 80) (hq : Line r b q) (hE : RepE G n E Gd i r) (hg : ∀ e ∈ q, Gd e) : Go l G mX1_errandsWithin 0 0 0 0 (lentry [.ref a] 3) [] n i r (RetI (nI (q.map E.2.2.1).sum) n i r) := by
  refine go_iconst (z := 1) (v := 0) dX1_errandsWithin_0 rfl (by decide) ?_
  refine go_istore_n (z := 2) dX1_errandsWithin_1 rfl (by decide) ?_
  refine go_iconst (z := 3) (v := 0) dX1_errandsWithin_2 rfl (by decide) ?_
  refine go_istore_n (z := 4) dX1_errandsWithin_3 rfl (by decide) ?_
  have loop : ∀ d k, k + d = q.length → Go l G mX1_errandsWithin 0 0 0 4 [some (.ref a), some (.int (nI ((q.take k).map E.2.2.1).sum)), some (.int (nI k))] [] n i r (RetI (nI (q.map E.2.2.1).sum) n i r) := by
    intro d
    induction d with
    | zero =>
      intro k hk
      refine go_iload_n (z := 5) dX1_errandsWithin_4 rfl rfl ?_
      refine go_aload_n (z := 6) dX1_errandsWithin_5 rfl rfl ?_
      refine go_getI (z := 9) dX1_errandsWithin_6 rfl fX1_28 (by assumption) rfl ?_
      refine go_icmp_ge (z := 52) (z2 := 12) dX1_errandsWithin_9 rfl (by decide) (fun h => ?_) (fun h => ?_)
      · refine go_iload_n (z := 53) dX1_errandsWithin_52 rfl rfl ?_
        refine go_iret dX1_errandsWithin_53 rfl ?_
        rw [List.take_of_length_le (by omega)]
        exact ret_ok
      · exact absurd (by rw [hc]; exact nI_le (by omega) (by omega)) h
    | succ d ih =>
      intro k hk
      obtain ⟨e, he⟩ : ∃ e, q[k]? = some e := ⟨q[k], List.getElem?_eq_getElem (by omega)⟩
      have he3 : r b k = some e := hq k e he
      have hG := hE e (hg e (List.mem_of_getElem? he))
      have hok := hG.1
      refine go_iload_n (z := 5) dX1_errandsWithin_4 rfl rfl ?_
      refine go_aload_n (z := 6) dX1_errandsWithin_5 rfl rfl ?_
      refine go_getI (z := 9) dX1_errandsWithin_6 rfl fX1_28 (by assumption) rfl ?_
      refine go_icmp_ge (z := 52) (z2 := 12) dX1_errandsWithin_9 rfl (by decide) (fun h => ?_) (fun h => ?_)
      · exact absurd h (by rw [hc]; exact nI_ge (by omega) (by omega))
      · refine go_iload_n (z := 13) dX1_errandsWithin_12 rfl rfl ?_
        refine go_aload_n (z := 14) dX1_errandsWithin_13 rfl rfl ?_
        refine go_getR (z := 17) dX1_errandsWithin_14 rfl fX1_11 (by assumption) rfl (by assumption) ?_
        refine go_alen (z := 18) (by assumption) (by decide) dX1_errandsWithin_17 rfl ?_
        refine go_icmp_ge (z := 52) (z2 := 21) dX1_errandsWithin_18 rfl (by decide) (fun h => ?_) (fun h => ?_)
        · exact absurd h (nI_ge (by omega) (by omega))
        · refine go_iload_n (z := 22) dX1_errandsWithin_21 rfl rfl ?_
          refine go_aload_n (z := 23) dX1_errandsWithin_22 rfl rfl ?_
          refine go_getR (z := 26) dX1_errandsWithin_23 rfl fX1_11 (by assumption) rfl (by assumption) ?_
          refine go_iload_n (z := 27) dX1_errandsWithin_26 rfl rfl ?_
          refine go_aald (z := 28) _ (by assumption) ⟨by decide, by decide⟩ (by decide) rfl (by omega) rfl dX1_errandsWithin_27 rfl ?_
          refine go_ifnonnull (z := 35) (z2 := 31) dX1_errandsWithin_28 rfl (by decide) (fun b2 hb2 => ?_) (fun h0 => ?_)
          · have hbe : b2 = e := Option.some.inj (hb2.symm.trans he3)
            subst hbe
            refine go_aload_n (z := 36) dX1_errandsWithin_35 rfl rfl ?_
            refine go_getR (z := 39) dX1_errandsWithin_36 rfl fX1_11 (by assumption) rfl (by assumption) ?_
            refine go_iload_n (z := 40) dX1_errandsWithin_39 rfl rfl ?_
            refine go_aaldR (z := 41) _ (by assumption) ⟨by decide, by decide⟩ (by decide) rfl (by omega) (by assumption) dX1_errandsWithin_40 rfl ?_
            refine go_getI (z := 44) dX1_errandsWithin_41 rfl fX1_61 hok rfl ?_
            refine go_iadd (z := 45) dX1_errandsWithin_44 rfl ?_
            refine go_istore_n (z := 46) dX1_errandsWithin_45 rfl (by decide) ?_
            refine go_iinc (z := 49) dX1_errandsWithin_46 rfl rfl (nI_1 k) (by decide) ?_
            refine go_goto (z := 4) dX1_errandsWithin_49 (by decide) ?_
            refine go_lo ?_ (ih (k + 1) (by omega))
            simp only [lset]
            rw [hG.2.2.2.2.2.1, nI_add, List.take_succ, he]
            simp
          · rw [he3] at h0; cases h0
  exact go_lo (lo' := [some (.ref a), some (.int (nI ((q.take 0).map E.2.2.1).sum)), some (.int (nI 0))]) rfl (loop q.length 0 (by omega))
/-- taking an errand in -/
theorem c_House_takeIn {a b e : Nat} {q kids : List Nat} {E : EE} {Gd : Nat → Prop} (ha : Ok G n a 1) (hb : OkA G n b 9 80) (hl : r a 10 = some b) (hc : i a 3 = nI q.length) (hE : RepE G n E Gd i r) (hg : Gd e) (hkids : E.2.2.2 e = kids) (hcap : q.length + kids.length ≤ 80) : Go l G mX1_takeIn 1 0 0 0 (lentry [.ref a, .ref e] 3) [] n i r (fun v n' i' r' => v = none ∧ n' = n ∧ (∀ p, p ≠ a → i' p = i p) ∧ (∀ p, p ≠ b → r' p = r p) ∧ (∀ f, i' a f = if f = 0 then 1 else if f = 6 then i a 6 + 1 else if f = 2 then i a 2 + E.2.1 e else if f = 3 then nI (q.length + kids.length) else i a f) ∧ (∀ k, k < q.length → r' b k = r b k) ∧ ∀ k c, kids[k]? = some c → r' b (q.length + k) = some c) := by
  have hGe := hE e hg
  have hoke := hGe.1
  have hab : a ≠ b := tag_ne ha hb.ok (by decide)
  have hea : e ≠ a := tag_ne hoke ha (by decide)
  refine go_aload_n (z := 1) dX1_takeIn_0 rfl rfl ?_
  refine go_iconst (z := 2) (v := 1) dX1_takeIn_1 rfl (by decide) ?_
  refine go_putI (z := 5) dX1_takeIn_2 rfl fX1_17 (by assumption) rfl (Or.inl rfl) (congrArg Value.int (by decide)) ?_
  refine go_aload_n (z := 6) dX1_takeIn_5 rfl rfl ?_
  refine go_dup (z := 7) dX1_takeIn_6 rfl rfl ?_
  refine go_getI (z := 10) dX1_takeIn_7 rfl fX1_37 (by assumption) rfl ?_
  refine go_iconst (z := 11) (v := 1) dX1_takeIn_10 rfl (by decide) ?_
  refine go_iadd (z := 12) dX1_takeIn_11 rfl ?_
  refine go_putI (z := 15) dX1_takeIn_12 rfl fX1_37 (by assumption) rfl (Or.inl rfl) rfl ?_
  refine go_aload_n (z := 16) dX1_takeIn_15 rfl rfl ?_
  refine go_dup (z := 17) dX1_takeIn_16 rfl rfl ?_
  refine go_getI (z := 20) dX1_takeIn_17 rfl fX1_25 (by assumption) rfl ?_
  refine go_aload_n (z := 21) dX1_takeIn_20 rfl rfl ?_
  refine go_getI (z := 24) dX1_takeIn_21 rfl fX1_49 hoke rfl ?_
  refine go_iadd (z := 25) dX1_takeIn_24 rfl ?_
  refine go_putI (z := 28) dX1_takeIn_25 rfl fX1_25 (by assumption) rfl (Or.inl rfl) rfl ?_
  generalize hI : ups (ups (ups _ _ _ _) _ _ _) _ _ _ = i1
  have hi1 : ∀ p, p ≠ a → i1 p = i p := fun p hp => by rw [← hI]; simp only [ups_row hp]
  have hi2 : ∀ f, i1 a f = if f = 0 then 1 else if f = 6 then i a 6 + 1 else if f = 2 then i a 2 + E.2.1 e else i a f := fun f => by
    rw [← hI]
    simp only [ups_a hea, hGe.2.2.2.1]
    by_cases f0 : f = 0
    · subst f0; simp [ups]
    · by_cases f6 : f = 6
      · subst f6; simp [ups]
      · by_cases f2 : f = 2
        · subst f2; simp [ups]
        · simp [ups, f0, f6, f2]
  clear hI
  have hE' := hE
  have loop : ∀ (rest dn : List Nat) (o : Option Nat) (i2 : IP) (r2 : RP), kids = dn ++ rest → Kid r o rest → (∀ p, p ≠ a → i2 p = i p) → (∀ f, f ≠ 3 → i2 a f = i1 a f) → i2 a 3 = nI (q.length + dn.length) → (∀ p, p ≠ b → r2 p = r p) → (∀ k, k < q.length → r2 b k = r b k) → (∀ k c, dn[k]? = some c → r2 b (q.length + k) = some c) →
      Go l G mX1_takeIn 1 0 0 33 [some (.ref a), some (.ref e), some (va_rf o)] [] n i2 r2 (fun v n' i' r' => v = none ∧ n' = n ∧ (∀ p, p ≠ a → i' p = i p) ∧ (∀ p, p ≠ b → r' p = r p) ∧ (∀ f, i' a f = if f = 0 then 1 else if f = 6 then i a 6 + 1 else if f = 2 then i a 2 + E.2.1 e else if f = 3 then nI (q.length + kids.length) else i a f) ∧ (∀ k, k < q.length → r' b k = r b k) ∧ ∀ k c, kids[k]? = some c → r' b (q.length + k) = some c) := by
    intro rest
    induction rest with
    | nil =>
      intro dn o i2 r2 h1 h2 h3 h4 h5 h6 h7 h8
      refine go_aload_nO (z := 34) dX1_takeIn_33 rfl rfl ?_
      refine go_ifnull (z := 50) (z2 := 37) dX1_takeIn_34 rfl (by decide) (fun h => ?_) (fun b2 h => ?_)
      · rw [List.append_nil] at h1
        subst h1
        refine go_vret dX1_takeIn_50 rfl ⟨rfl, rfl, h3, h6, fun f => ?_, h7, h8⟩
        by_cases f3 : f = 3
        · subst f3; rw [h5]; simp
        · rw [h4 f f3, hi2 f]; simp [f3]
      · rw [show o = none from h2] at h; cases h
    | cons c rest ih =>
      intro dn o i2 r2 h1 h2 h3 h4 h5 h6 h7 h8
      obtain ⟨ho, hk⟩ := h2
      subst ho
      have hcm : c ∈ E.2.2.2 e := by rw [hkids, h1]; simp
      have hokc := (hE c ((hGe.2.2.2.2.2.2.2.1 c hcm).1)).1
      have hcb : c ≠ b := tag_ne hokc hb.ok (by decide)
      have hlen : dn.length + (rest.length + 1) = kids.length := by rw [h1]; simp
      have hl2 : r2 a 10 = some b := by rw [h6 a hab]; exact hl
      refine go_aload_nO (z := 34) dX1_takeIn_33 rfl rfl ?_
      refine go_ifnull (z := 50) (z2 := 37) dX1_takeIn_34 rfl (by decide) (fun h => ?_) (fun b2 h => ?_)
      · cases h
      · clear h
        refine go_aload_n (z := 38) dX1_takeIn_37 rfl rfl ?_
        refine go_aload_n (z := 39) dX1_takeIn_38 rfl rfl ?_
        refine go_callV (z := 42) (t := 1) [.ref c] dX1_takeIn_39 rfl mlX1_lineUp vX1_54 ⟨by decide, rfl⟩ (by assumption) rfl rfl (by decide) (cat_r cat_nil) (by simp) (by decide) (by first | decide | omega) (by first | decide | omega) (c_House_lineUp ha hb hl2 h5 (by omega) hokc) ?_
        rintro v n2 i3 r3 ⟨rfl, rfl, rfl, rfl⟩
        refine go_aload_n (z := 43) dX1_takeIn_42 rfl rfl ?_
        refine go_getO (z := 46) dX1_takeIn_43 rfl fX1_58 hokc rfl ?_
        refine go_astore_nO (z := 47) dX1_takeIn_46 rfl (by decide) ?_
        refine go_goto (z := 33) dX1_takeIn_47 (by decide) ?_
        rw [ups_a (f := r2) hcb, show r2 c 6 = r c 6 by rw [h6 c hcb]]
        refine go_lo (lo' := [some (.ref a), some (.ref e), some (va_rf (r c 6))]) rfl (ih (dn ++ [c]) (r c 6) _ _ (by rw [h1]; simp) hk (fun p hp => (ups_row hp).trans (h3 p hp)) (fun f hf => (ups_k hf).trans (h4 f hf)) (by rw [ups_s]; simp; rfl) (fun p hp => (ups_row hp).trans (h6 p hp)) (fun k hk' => (ups_k (by omega)).trans (h7 k hk')) (fun k d hd => ?_))
        by_cases hkd : k < dn.length
        · rw [ups_k (by omega)]
          rw [List.getElem?_append_left hkd] at hd
          exact h8 k d hd
        · rw [List.getElem?_append_right (by omega)] at hd
          have hk0 : k - dn.length < 1 := (List.getElem?_eq_some_iff.mp hd).1
          have hk1 : k = dn.length := by omega
          subst hk1
          simp at hd
          subst hd
          exact ups_s
  refine go_aload_n (z := 29) dX1_takeIn_28 rfl rfl ?_
  refine go_getO (z := 32) dX1_takeIn_29 rfl fX1_50 hoke rfl ?_
  refine go_astore_nO (z := 33) dX1_takeIn_32 rfl (by decide) ?_
  exact go_lo (lo' := [some (.ref a), some (.ref e), some (va_rf (r e 4))]) rfl (loop kids [] (r e 4) i1 r rfl (hkids ▸ hGe.2.2.2.2.2.2.1) hi1 (fun _ _ => rfl) (by rw [hi2 3]; simpa using hc) (fun _ _ => rfl) (fun _ _ => rfl) (fun k c h => by simp at h))
end HOUSE
