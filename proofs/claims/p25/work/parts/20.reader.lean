/-! the reader: Rd, its rows of heads (Rd + 1) and of the latest of each depth (Rd + 2) -/
def RdL (G : GG) (n Rd : Nat) (r : RP) : Prop := Ok G n Rd 3 ∧ OkA G n (Rd + 1) 9 15 ∧ OkA G n (Rd + 2) 9 15 ∧ r Rd 0 = some (Rd + 1) ∧ r Rd 2 = some (Rd + 2)
section READER
variable {l : Launch} {G : GG} {n : Nat} {i : IP} {r : RP} {Rd : Nat}
theorem c_Reader_tell {x : Int32} (hL : RdL G n Rd r) : Go l G mX3_tell 0 0 0 0 (lentry [.ref Rd, .int x] 2) [] n i r (RetI (tell4 (i Rd 5) (i Rd 6) (i Rd 7) (i Rd 8) x) n i r) := by
  have hRd := hL.1
  refine go_iload_n (z := 1) dX3_tell_0 rfl rfl ?_
  refine go_tabS (z := 52) dX3_tell_1 (by decide) (fun h1 => ?_) (fun q1 h1 ha1 hb1 => ?_)
  · refine go_bipush (z := 54) (v := (-2)) dX3_tell_52 rfl (by decide) ?_
    refine go_iret dX3_tell_54 rfl ?_
    exact ⟨by unfold tell4; (repeat' split) <;> first | omega | rfl, rfl, rfl, rfl⟩
  · rcases (show q1 = 0 ∨ q1 = 1 ∨ q1 = 2 ∨ q1 = 3 by omega) with rfl | rfl | rfl | rfl
    · refine go_tabIn (z := 32) 0 dX3_tell_1 h1 (by decide) (by decide) rfl (by decide) ?_
      refine go_aload_n (z := 33) dX3_tell_32 rfl rfl ?_
      refine go_getI (z := 36) dX3_tell_33 rfl fX3_30 (by assumption) rfl ?_
      refine go_iret dX3_tell_36 rfl ?_
      exact ⟨by unfold tell4; (repeat' split) <;> first | omega | rfl, rfl, rfl, rfl⟩
    · refine go_tabIn (z := 37) 1 dX3_tell_1 h1 (by decide) (by decide) rfl (by decide) ?_
      refine go_aload_n (z := 38) dX3_tell_37 rfl rfl ?_
      refine go_getI (z := 41) dX3_tell_38 rfl fX3_33 (by assumption) rfl ?_
      refine go_iret dX3_tell_41 rfl ?_
      exact ⟨by unfold tell4; (repeat' split) <;> first | omega | rfl, rfl, rfl, rfl⟩
    · refine go_tabIn (z := 42) 2 dX3_tell_1 h1 (by decide) (by decide) rfl (by decide) ?_
      refine go_aload_n (z := 43) dX3_tell_42 rfl rfl ?_
      refine go_getI (z := 46) dX3_tell_43 rfl fX3_36 (by assumption) rfl ?_
      refine go_iret dX3_tell_46 rfl ?_
      exact ⟨by unfold tell4; (repeat' split) <;> first | omega | rfl, rfl, rfl, rfl⟩
    · refine go_tabIn (z := 47) 3 dX3_tell_1 h1 (by decide) (by decide) rfl (by decide) ?_
      refine go_aload_n (z := 48) dX3_tell_47 rfl rfl ?_
      refine go_getI (z := 51) dX3_tell_48 rfl fX3_39 (by assumption) rfl ?_
      refine go_iret dX3_tell_51 rfl ?_
      exact ⟨by unfold tell4; (repeat' split) <;> first | omega | rfl, rfl, rfl, rfl⟩
theorem c_isWorkZero {d a : Nat} (hL : RdL G n Rd r) (hd : i Rd 3 = nI d) (hd15 : d < 15) (ha : r (Rd + 2) d = some a) (hok : Ok G n a 0) : Go l G mX3_isWorkZero 0 0 0 0 (lentry [.ref Rd] 1) [] n i r (RetI (if i a 1 = 0 then 1 else 0) n i r) := by
  obtain ⟨hRd, hhd, hlt, e0, e2⟩ := hL
  refine go_aload_n (z := 1) dX3_isWorkZero_0 rfl rfl ?_
  refine go_getI (z := 4) dX3_isWorkZero_1 rfl fX3_24 (by assumption) rfl ?_
  refine go_aload_n (z := 5) dX3_isWorkZero_4 rfl rfl ?_
  refine go_getR (z := 8) dX3_isWorkZero_5 rfl fX3_17 (by assumption) rfl (by assumption) ?_
  refine go_alen (z := 9) (by assumption) (by decide) dX3_isWorkZero_8 rfl ?_
  rw [hd]
  refine go_icmp_ge (z := 43) (z2 := 12) dX3_isWorkZero_9 rfl (by decide) (fun h => absurd h (nI_ge hd15 (by omega))) (fun _ => ?_)
  refine go_aload_n (z := 13) dX3_isWorkZero_12 rfl rfl ?_
  refine go_getR (z := 16) dX3_isWorkZero_13 rfl fX3_17 (by assumption) rfl (by assumption) ?_
  refine go_aload_n (z := 17) dX3_isWorkZero_16 rfl rfl ?_
  refine go_getI (z := 20) dX3_isWorkZero_17 rfl fX3_24 (by assumption) rfl ?_
  rw [hd]
  refine go_aaldR (z := 21) d hlt ⟨by decide, by decide⟩ (by decide) rfl (by omega) (by assumption) dX3_isWorkZero_20 rfl ?_
  refine go_ifnull (a := some a) (z := 43) (z2 := 24) dX3_isWorkZero_21 rfl (by decide) (fun h => by cases h) (fun b hb => ?_)
  clear hb b
  refine go_aload_n (z := 25) dX3_isWorkZero_24 rfl rfl ?_
  refine go_getR (z := 28) dX3_isWorkZero_25 rfl fX3_17 (by assumption) rfl (by assumption) ?_
  refine go_aload_n (z := 29) dX3_isWorkZero_28 rfl rfl ?_
  refine go_getI (z := 32) dX3_isWorkZero_29 rfl fX3_24 (by assumption) rfl ?_
  rw [hd]
  refine go_aaldR (z := 33) d hlt ⟨by decide, by decide⟩ (by decide) rfl (by omega) (by assumption) dX3_isWorkZero_32 rfl ?_
  refine go_getI (z := 36) dX3_isWorkZero_33 rfl fX3_82 hok rfl ?_
  refine go_if_ne (z := 43) (z2 := 39) dX3_isWorkZero_36 rfl (by decide) (fun h => ?_) (fun h => ?_)
  · refine go_iconst (z := 44) (v := 0) dX3_isWorkZero_43 rfl (by decide) ?_
    refine go_zret dX3_isWorkZero_44 rfl (congrArg Value.int (by decide)) ?_
    exact ⟨by rw [if_neg h], rfl, rfl, rfl⟩
  · refine go_iconst (z := 40) (v := 1) dX3_isWorkZero_39 rfl (by decide) ?_
    refine go_goto (z := 44) dX3_isWorkZero_40 (by decide) ?_
    refine go_zret dX3_isWorkZero_44 rfl (congrArg Value.int (by decide)) ?_
    exact ⟨by rw [if_pos h], rfl, rfl, rfl⟩
/-- one more digit of the work of the present errand -/
theorem c_takeDigit {d a : Nat} {x : Int32} (hL : RdL G n Rd r) (hd : i Rd 3 = nI d) (hd15 : d < 15) (ha : r (Rd + 2) d = some a) (hok : Ok G n a 0) : Go l G mX3_takeDigit 0 0 0 0 (lentry [.ref Rd, .int x] 4) [] n i r (fun v n' i' r' => n' = n ∧ r' = r ∧ ((48 ≤ x ∧ x ≤ 57 ∧ i a 1 * 10 + (x - 48) ≤ 20 ∧ v = some (.int 1) ∧ i' = ups (ups i Rd 6 (i Rd 6 + (i a 1 * 10 + (x - 48) - i a 1))) a 1 (i a 1 * 10 + (x - 48))) ∨ (¬ (48 ≤ x ∧ x ≤ 57 ∧ i a 1 * 10 + (x - 48) ≤ 20) ∧ v = some (.int 0) ∧ i' = i))) := by
  obtain ⟨hRd, hhd, hlt, e0, e2⟩ := hL
  have hne : a ≠ Rd := tag_ne hok hRd (by decide)
  refine go_aload_n (z := 1) dX3_takeDigit_0 rfl rfl ?_
  refine go_getI (z := 4) dX3_takeDigit_1 rfl fX3_24 (by assumption) rfl ?_
  refine go_aload_n (z := 5) dX3_takeDigit_4 rfl rfl ?_
  refine go_getR (z := 8) dX3_takeDigit_5 rfl fX3_17 (by assumption) rfl (by assumption) ?_
  refine go_alen (z := 9) (by assumption) (by decide) dX3_takeDigit_8 rfl ?_
  rw [hd]
  refine go_icmp_ge (z := 24) (z2 := 12) dX3_takeDigit_9 rfl (by decide) (fun h => absurd h (nI_ge hd15 (by omega))) (fun _ => ?_)
  refine go_aload_n (z := 13) dX3_takeDigit_12 rfl rfl ?_
  refine go_getR (z := 16) dX3_takeDigit_13 rfl fX3_17 (by assumption) rfl (by assumption) ?_
  refine go_aload_n (z := 17) dX3_takeDigit_16 rfl rfl ?_
  refine go_getI (z := 20) dX3_takeDigit_17 rfl fX3_24 (by assumption) rfl ?_
  rw [hd]
  refine go_aaldR (z := 21) d hlt ⟨by decide, by decide⟩ (by decide) rfl (by omega) (by assumption) dX3_takeDigit_20 rfl ?_
  refine go_goto (z := 25) dX3_takeDigit_21 (by decide) ?_
  refine go_astore_n (z := 26) dX3_takeDigit_25 rfl (by decide) ?_
  refine go_aload_n (z := 27) dX3_takeDigit_26 rfl rfl ?_
  refine go_ifnull (a := some a) (z := 42) (z2 := 30) dX3_takeDigit_27 rfl (by decide) (fun h => by cases h) (fun b hb => ?_)
  clear hb b
  refine go_iload_n (z := 31) dX3_takeDigit_30 rfl rfl ?_
  refine go_bipush (z := 33) (v := 48) dX3_takeDigit_31 rfl (by decide) ?_
  refine go_icmp_lt (z := 42) (z2 := 36) dX3_takeDigit_33 rfl (by decide) (fun h => ?_) (fun h1 => ?_)
  · refine go_iconst (z := 43) (v := 0) dX3_takeDigit_42 rfl (by decide) ?_
    refine go_zret dX3_takeDigit_43 rfl (congrArg Value.int (by decide)) ?_
    exact ⟨rfl, rfl, Or.inr ⟨fun q => absurd h (Int32.not_lt.mpr q.1), rfl, rfl⟩⟩
  refine go_iload_n (z := 37) dX3_takeDigit_36 rfl rfl ?_
  refine go_bipush (z := 39) (v := 57) dX3_takeDigit_37 rfl (by decide) ?_
  refine go_icmp_le (z := 44) (z2 := 42) dX3_takeDigit_39 rfl (by decide) (fun h2 => ?_) (fun h => ?_)
  · refine go_aload_n (z := 45) dX3_takeDigit_44 rfl rfl ?_
    refine go_getI (z := 48) dX3_takeDigit_45 rfl fX3_82 hok rfl ?_
    refine go_bipush (z := 50) (v := 10) dX3_takeDigit_48 rfl (by decide) ?_
    refine go_imul (z := 51) dX3_takeDigit_50 rfl ?_
    refine go_iload_n (z := 52) dX3_takeDigit_51 rfl rfl ?_
    refine go_bipush (z := 54) (v := 48) dX3_takeDigit_52 rfl (by decide) ?_
    refine go_isub (z := 55) dX3_takeDigit_54 rfl ?_
    refine go_iadd (z := 56) dX3_takeDigit_55 rfl ?_
    refine go_istore_n (z := 57) dX3_takeDigit_56 rfl (by decide) ?_
    refine go_iload_n (z := 58) dX3_takeDigit_57 rfl rfl ?_
    refine go_bipush (z := 60) (v := 20) dX3_takeDigit_58 rfl (by decide) ?_
    refine go_icmp_le (z := 65) (z2 := 63) dX3_takeDigit_60 rfl (by decide) (fun h3 => ?_) (fun h => ?_)
    · refine go_aload_n (z := 66) dX3_takeDigit_65 rfl rfl ?_
      refine go_dup (z := 67) dX3_takeDigit_66 rfl rfl ?_
      refine go_getI (z := 70) dX3_takeDigit_67 rfl fX3_33 (by assumption) rfl ?_
      refine go_iload_n (z := 71) dX3_takeDigit_70 rfl rfl ?_
      refine go_aload_n (z := 72) dX3_takeDigit_71 rfl rfl ?_
      refine go_getI (z := 75) dX3_takeDigit_72 rfl fX3_82 hok rfl ?_
      refine go_isub (z := 76) dX3_takeDigit_75 rfl ?_
      refine go_iadd (z := 77) dX3_takeDigit_76 rfl ?_
      refine go_putI (z := 80) dX3_takeDigit_77 rfl fX3_33 (by assumption) rfl (Or.inl rfl) rfl ?_
      refine go_aload_n (z := 81) dX3_takeDigit_80 rfl rfl ?_
      refine go_iload_n (z := 82) dX3_takeDigit_81 rfl rfl ?_
      refine go_putI (z := 85) dX3_takeDigit_82 rfl fX3_82 hok rfl (Or.inl rfl) rfl ?_
      refine go_iconst (z := 86) (v := 1) dX3_takeDigit_85 rfl (by decide) ?_
      refine go_zret dX3_takeDigit_86 rfl (congrArg Value.int (by decide)) ?_
      exact ⟨rfl, rfl, Or.inl ⟨Int32.not_lt.mp h1, h2, h3, rfl, rfl⟩⟩
    · refine go_iconst (z := 64) (v := 0) dX3_takeDigit_63 rfl (by decide) ?_
      refine go_zret dX3_takeDigit_64 rfl (congrArg Value.int (by decide)) ?_
      exact ⟨rfl, rfl, Or.inr ⟨fun q => h q.2.2, rfl, rfl⟩⟩
  · refine go_iconst (z := 43) (v := 0) dX3_takeDigit_42 rfl (by decide) ?_
    refine go_zret dX3_takeDigit_43 rfl (congrArg Value.int (by decide)) ?_
    exact ⟨rfl, rfl, Or.inr ⟨fun q => h q.2.1, rfl, rfl⟩⟩
theorem c_takeAfter {x : Int32} (hL : RdL G n Rd r) : Go l G mX3_takeAfter 0 0 0 0 (lentry [.ref Rd, .int x] 2) [] n i r (fun v n' i' r' => n' = n ∧ r' = r ∧ ((x = 41 ∧ 0 < i Rd 3 ∧ v = some (.int 1) ∧ i' = ups (ups i Rd 3 (i Rd 3 - 1)) Rd 4 4) ∨ (¬ (x = 41 ∧ 0 < i Rd 3) ∧ v = some (.int (if i Rd 3 = 0 then (if x = 59 then 1 else 0) else (if x = 44 then 1 else 0))) ∧ i' = ups i Rd 4 0))) := by
  have hRd := hL.1
  have e3 : ups i Rd 4 0 Rd 3 = i Rd 3 := ups_k (by decide)
  refine go_iload_n (z := 1) dX3_takeAfter_0 rfl rfl ?_
  refine go_bipush (z := 3) (v := 41) dX3_takeAfter_1 rfl (by decide) ?_
  have rest : ¬ (x = 41 ∧ 0 < i Rd 3) → Go l G mX3_takeAfter 0 0 0 30 [some (.ref Rd), some (.int x)] [] n i r (fun v n' i' r' => n' = n ∧ r' = r ∧ ((x = 41 ∧ 0 < i Rd 3 ∧ v = some (.int 1) ∧ i' = ups (ups i Rd 3 (i Rd 3 - 1)) Rd 4 4) ∨ (¬ (x = 41 ∧ 0 < i Rd 3) ∧ v = some (.int (if i Rd 3 = 0 then (if x = 59 then 1 else 0) else (if x = 44 then 1 else 0))) ∧ i' = ups i Rd 4 0))) := by
    intro hn
    refine go_aload_n (z := 31) dX3_takeAfter_30 rfl rfl ?_
    refine go_iconst (z := 32) (v := 0) dX3_takeAfter_31 rfl (by decide) ?_
    refine go_putI (z := 35) dX3_takeAfter_32 rfl fX3_27 (by assumption) rfl (Or.inl rfl) rfl ?_
    refine go_aload_n (z := 36) dX3_takeAfter_35 rfl rfl ?_
    refine go_getI (z := 39) dX3_takeAfter_36 rfl fX3_24 (by assumption) rfl ?_
    rw [e3]
    refine go_if_ne (z := 56) (z2 := 42) dX3_takeAfter_39 rfl (by decide) (fun h => ?_) (fun h => ?_)
    · refine go_iload_n (z := 57) dX3_takeAfter_56 rfl rfl ?_
      refine go_bipush (z := 59) (v := 44) dX3_takeAfter_57 rfl (by decide) ?_
      refine go_icmp_ne (z := 66) (z2 := 62) dX3_takeAfter_59 rfl (by decide) (fun h59 => ?_) (fun h59 => ?_)
      · refine go_iconst (z := 67) (v := 0) dX3_takeAfter_66 rfl (by decide) ?_
        refine go_zret dX3_takeAfter_67 rfl (congrArg Value.int (by decide)) ?_
        exact ⟨rfl, rfl, Or.inr ⟨hn, by rw [if_neg h]; simp_all, rfl⟩⟩
      · refine go_iconst (z := 63) (v := 1) dX3_takeAfter_62 rfl (by decide) ?_
        refine go_goto (z := 67) dX3_takeAfter_63 (by decide) ?_
        refine go_zret dX3_takeAfter_67 rfl (congrArg Value.int (by decide)) ?_
        exact ⟨rfl, rfl, Or.inr ⟨hn, by rw [if_neg h]; simp_all, rfl⟩⟩
    · refine go_iload_n (z := 43) dX3_takeAfter_42 rfl rfl ?_
      refine go_bipush (z := 45) (v := 59) dX3_takeAfter_43 rfl (by decide) ?_
      refine go_icmp_ne (z := 52) (z2 := 48) dX3_takeAfter_45 rfl (by decide) (fun h45 => ?_) (fun h45 => ?_)
      · refine go_iconst (z := 53) (v := 0) dX3_takeAfter_52 rfl (by decide) ?_
        refine go_goto (z := 67) dX3_takeAfter_53 (by decide) ?_
        refine go_zret dX3_takeAfter_67 rfl (congrArg Value.int (by decide)) ?_
        exact ⟨rfl, rfl, Or.inr ⟨hn, by rw [if_pos h]; simp_all, rfl⟩⟩
      · refine go_iconst (z := 49) (v := 1) dX3_takeAfter_48 rfl (by decide) ?_
        refine go_goto (z := 67) dX3_takeAfter_49 (by decide) ?_
        refine go_zret dX3_takeAfter_67 rfl (congrArg Value.int (by decide)) ?_
        exact ⟨rfl, rfl, Or.inr ⟨hn, by rw [if_pos h]; simp_all, rfl⟩⟩
  refine go_icmp_ne (z := 30) (z2 := 6) dX3_takeAfter_3 rfl (by decide) (fun h => rest (fun q => h q.1)) (fun h => ?_)
  refine go_aload_n (z := 7) dX3_takeAfter_6 rfl rfl ?_
  refine go_getI (z := 10) dX3_takeAfter_7 rfl fX3_24 (by assumption) rfl ?_
  refine go_if_le (z := 30) (z2 := 13) dX3_takeAfter_10 rfl (by decide) (fun h2 => rest (fun q => absurd q.2 (Int32.not_lt.mpr h2))) (fun h2 => ?_)
  refine go_aload_n (z := 14) dX3_takeAfter_13 rfl rfl ?_
  refine go_dup (z := 15) dX3_takeAfter_14 rfl rfl ?_
  refine go_getI (z := 18) dX3_takeAfter_15 rfl fX3_24 (by assumption) rfl ?_
  refine go_iconst (z := 19) (v := 1) dX3_takeAfter_18 rfl (by decide) ?_
  refine go_isub (z := 20) dX3_takeAfter_19 rfl ?_
  refine go_putI (z := 23) dX3_takeAfter_20 rfl fX3_24 (by assumption) rfl (Or.inl rfl) rfl ?_
  refine go_aload_n (z := 24) dX3_takeAfter_23 rfl rfl ?_
  refine go_iconst (z := 25) (v := 4) dX3_takeAfter_24 rfl (by decide) ?_
  refine go_putI (z := 28) dX3_takeAfter_25 rfl fX3_27 (by assumption) rfl (Or.inl rfl) rfl ?_
  refine go_iconst (z := 29) (v := 1) dX3_takeAfter_28 rfl (by decide) ?_
  refine go_zret dX3_takeAfter_29 rfl (congrArg Value.int (by decide)) ?_
  exact ⟨rfl, rfl, Or.inl ⟨h, Int32.not_le.mp h2, rfl, rfl⟩⟩
/-- all that are open have one more within -/
theorem c_countWithin {d : Nat} {A : Nat → Nat} (hL : RdL G n Rd r) (hd : i Rd 3 = nI d) (hd15 : d ≤ 15) (hA : ∀ e, e < d → r (Rd + 2) e = some (A e) ∧ Ok G n (A e) 0) (hinj : ∀ e f, e < d → f < d → A e = A f → e = f) : Go l G mX3_countWithin 0 0 0 0 (lentry [.ref Rd] 2) [] n i r (fun v n' i' r' => v = none ∧ n' = n ∧ r' = r ∧ (∀ a k, k ≠ 3 → i' a k = i a k) ∧ (∀ a, (∀ e, e < d → A e ≠ a) → i' a = i a) ∧ ∀ e, e < d → i' (A e) 3 = i (A e) 3 + 1) := by
  obtain ⟨hRd, hhd, hlt, e0, e2⟩ := hL
  refine go_iconst (z := 1) (v := 0) dX3_countWithin_0 rfl (by decide) ?_
  refine go_istore_n (z := 2) dX3_countWithin_1 rfl (by decide) ?_
  have loop : ∀ (k c : Nat) (i1 : IP), c + k = d → (∀ a k, k ≠ 3 → i1 a k = i a k) → (∀ a, (∀ e, e < c → A e ≠ a) → i1 a = i a) → (∀ e, e < c → i1 (A e) 3 = i (A e) 3 + 1) → Go l G mX3_countWithin 0 0 0 2 [some (.ref Rd), some (.int (nI c))] [] n i1 r (fun v n' i' r' => v = none ∧ n' = n ∧ r' = r ∧ (∀ a k, k ≠ 3 → i' a k = i a k) ∧ (∀ a, (∀ e, e < d → A e ≠ a) → i' a = i a) ∧ ∀ e, e < d → i' (A e) 3 = i (A e) 3 + 1) := by
    intro k
    induction k with
    | zero =>
      intro c i1 hc g1 g2 g3
      have hc : c = d := by omega
      subst hc
      have hd1 : i1 Rd 3 = nI c := by rw [g2 Rd (fun e he => tag_ne (hA e he).2 hRd (by decide))]; exact hd
      refine go_iload_n (z := 3) dX3_countWithin_2 rfl rfl ?_
      refine go_aload_n (z := 4) dX3_countWithin_3 rfl rfl ?_
      refine go_getI (z := 7) dX3_countWithin_4 rfl fX3_24 (by assumption) rfl ?_
      rw [hd1]
      refine go_icmp_ge (z := 49) (z2 := 10) dX3_countWithin_7 rfl (by decide) (fun _ => ?_) (fun h => absurd (nI_le (Nat.le_refl c) (by omega)) h)
      exact go_vret dX3_countWithin_49 rfl ⟨rfl, rfl, rfl, g1, g2, g3⟩
    | succ k ih =>
      intro c i1 hc g1 g2 g3
      have hcd : c < d := by omega
      have hd1 : i1 Rd 3 = nI d := by rw [g2 Rd (fun e he => tag_ne (hA e (by omega)).2 hRd (by decide))]; exact hd
      obtain ⟨hrc, hokc⟩ := hA c hcd
      refine go_iload_n (z := 3) dX3_countWithin_2 rfl rfl ?_
      refine go_aload_n (z := 4) dX3_countWithin_3 rfl rfl ?_
      refine go_getI (z := 7) dX3_countWithin_4 rfl fX3_24 (by assumption) rfl ?_
      rw [hd1]
      refine go_icmp_ge (z := 49) (z2 := 10) dX3_countWithin_7 rfl (by decide) (fun h => absurd h (nI_ge hcd (by omega))) (fun _ => ?_)
      refine go_iload_n (z := 11) dX3_countWithin_10 rfl rfl ?_
      refine go_aload_n (z := 12) dX3_countWithin_11 rfl rfl ?_
      refine go_getR (z := 15) dX3_countWithin_12 rfl fX3_17 (by assumption) rfl (by assumption) ?_
      refine go_alen (z := 16) (by assumption) (by decide) dX3_countWithin_15 rfl ?_
      refine go_icmp_ge (z := 49) (z2 := 19) dX3_countWithin_16 rfl (by decide) (fun h => absurd h (nI_ge (by omega) (by omega))) (fun _ => ?_)
      refine go_aload_n (z := 20) dX3_countWithin_19 rfl rfl ?_
      refine go_getR (z := 23) dX3_countWithin_20 rfl fX3_17 (by assumption) rfl (by assumption) ?_
      refine go_iload_n (z := 24) dX3_countWithin_23 rfl rfl ?_
      refine go_aaldR (z := 25) c hlt ⟨by decide, by decide⟩ (by decide) rfl (by omega) (by assumption) dX3_countWithin_24 rfl ?_
      refine go_ifnull (a := some (A c)) (z := 43) (z2 := 28) dX3_countWithin_25 rfl (by decide) (fun h => by cases h) (fun b hb => ?_)
      clear hb b
      refine go_aload_n (z := 29) dX3_countWithin_28 rfl rfl ?_
      refine go_getR (z := 32) dX3_countWithin_29 rfl fX3_17 (by assumption) rfl (by assumption) ?_
      refine go_iload_n (z := 33) dX3_countWithin_32 rfl rfl ?_
      refine go_aaldR (z := 34) c hlt ⟨by decide, by decide⟩ (by decide) rfl (by omega) (by assumption) dX3_countWithin_33 rfl ?_
      refine go_dup (z := 35) dX3_countWithin_34 rfl rfl ?_
      refine go_getI (z := 38) dX3_countWithin_35 rfl fX3_81 hokc rfl ?_
      refine go_iconst (z := 39) (v := 1) dX3_countWithin_38 rfl (by decide) ?_
      refine go_iadd (z := 40) dX3_countWithin_39 rfl ?_
      refine go_putI (z := 43) dX3_countWithin_40 rfl fX3_81 hokc rfl (Or.inl rfl) rfl ?_
      refine go_iinc (z := 46) dX3_countWithin_43 rfl rfl (nI_1 c) (by decide) ?_
      refine go_goto (z := 2) dX3_countWithin_46 (by decide) ?_
      have hsame : i1 (A c) 3 = i (A c) 3 := by rw [g2 (A c) (fun e he q => by have := hinj e c (by omega) hcd q; omega)]
      refine go_lo (lo' := [some (.ref Rd), some (.int (nI (c + 1)))]) rfl (ih (c + 1) _ (by omega) (fun a k hk => (ups_k hk).trans (g1 a k hk)) (fun a ha => (ups_row (fun q => ha c (by omega) q.symm)).trans (g2 a (fun e he => ha e (by omega)))) (fun e he => ?_))
      by_cases h : e = c
      · subst h; rw [ups_s, hsame]
      · rw [ups_a (fun q => h (hinj e c (by omega) hcd q))]; exact g3 e (by omega)
  exact go_lo (lo' := [some (.ref Rd), some (.int (nI 0))]) rfl (loop d 0 i (by omega) (fun _ _ _ => rfl) (fun _ _ => rfl) (fun e he => absurd he (Nat.not_lt_zero e)))
/-- a part behind the last one -/
theorem c_addPart {p c : Nat} (hp : Ok G n p 0) (hc : Ok G n c 0) (hl : ∀ q, r p 5 = some q → Ok G n q 0) : Go l G mX0_addPart 0 0 0 0 (lentry [.ref p, .ref c] 2) [] n i r (fun v n' i' r' => v = none ∧ n' = n ∧ i' = ups i p 2 (i p 2 + 1) ∧ ((r p 5 = none ∧ r' = ups (ups r p 4 (some c)) p 5 (some c)) ∨ (∃ q, r p 5 = some q ∧ r' = ups (ups r q 6 (some c)) p 5 (some c)))) := by
  refine go_aload_n (z := 1) dX0_addPart_0 rfl rfl ?_
  refine go_getO (z := 4) dX0_addPart_1 rfl fX0_18 (by assumption) rfl ?_
  refine go_ifnonnull (z := 15) (z2 := 7) dX0_addPart_4 rfl (by decide) (fun q hq => ?_) (fun h => ?_)
  · have hokq := hl q hq
    refine go_aload_n (z := 16) dX0_addPart_15 rfl rfl ?_
    refine go_getR (z := 19) dX0_addPart_16 rfl fX0_18 (by assumption) rfl hq ?_
    refine go_aload_n (z := 20) dX0_addPart_19 rfl rfl ?_
    refine go_putR (z := 23) dX0_addPart_20 rfl fX0_25 hokq rfl (Or.inl rfl) ?_
    refine go_aload_n (z := 24) dX0_addPart_23 rfl rfl ?_
    refine go_aload_n (z := 25) dX0_addPart_24 rfl rfl ?_
    refine go_putR (z := 28) dX0_addPart_25 rfl fX0_18 (by assumption) rfl (Or.inl rfl) ?_
    refine go_aload_n (z := 29) dX0_addPart_28 rfl rfl ?_
    refine go_dup (z := 30) dX0_addPart_29 rfl rfl ?_
    refine go_getI (z := 33) dX0_addPart_30 rfl fX0_28 (by assumption) rfl ?_
    refine go_iconst (z := 34) (v := 1) dX0_addPart_33 rfl (by decide) ?_
    refine go_iadd (z := 35) dX0_addPart_34 rfl ?_
    refine go_putI (z := 38) dX0_addPart_35 rfl fX0_28 (by assumption) rfl (Or.inl rfl) rfl ?_
    refine go_vret dX0_addPart_38 rfl ?_
    exact ⟨rfl, rfl, rfl, Or.inr ⟨q, hq, rfl⟩⟩
  · refine go_aload_n (z := 8) dX0_addPart_7 rfl rfl ?_
    refine go_aload_n (z := 9) dX0_addPart_8 rfl rfl ?_
    refine go_putR (z := 12) dX0_addPart_9 rfl fX0_22 (by assumption) rfl (Or.inl rfl) ?_
    refine go_goto (z := 23) dX0_addPart_12 (by decide) ?_
    refine go_aload_n (z := 24) dX0_addPart_23 rfl rfl ?_
    refine go_aload_n (z := 25) dX0_addPart_24 rfl rfl ?_
    refine go_putR (z := 28) dX0_addPart_25 rfl fX0_18 (by assumption) rfl (Or.inl rfl) ?_
    refine go_aload_n (z := 29) dX0_addPart_28 rfl rfl ?_
    refine go_dup (z := 30) dX0_addPart_29 rfl rfl ?_
    refine go_getI (z := 33) dX0_addPart_30 rfl fX0_28 (by assumption) rfl ?_
    refine go_iconst (z := 34) (v := 1) dX0_addPart_33 rfl (by decide) ?_
    refine go_iadd (z := 35) dX0_addPart_34 rfl ?_
    refine go_putI (z := 38) dX0_addPart_35 rfl fX0_28 (by assumption) rfl (Or.inl rfl) rfl ?_
    refine go_vret dX0_addPart_38 rfl ?_
    exact ⟨rfl, rfl, rfl, Or.inl ⟨h, rfl⟩⟩
end READER
