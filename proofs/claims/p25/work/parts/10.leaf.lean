theorem go_tabS {l : Launch} {G : GG} {Y : AM} {D k j pc z : Nat} {lo : List (Option Value)} {st : List Value} {n : Nat} {i : IP} {r : RP} {Q : QP} {df a b : Int} {os : Array Int} {len : Nat} {x : Int32} (hd : decode Y.2.1 pc = .ok (.tableswitch df a b os, len)) (ht : (pc : Int) + df = (z : Int)) (K1 : x.toInt < a ∨ b < x.toInt → Go l G Y D k j z lo st n i r Q) (K2 : ∀ q : Int, x.toInt = q → a ≤ q → q ≤ b → Go l G Y D k j pc lo (.int x :: st) n i r Q) : Go l G Y D k j pc lo (.int x :: st) n i r Q := by
  by_cases h : x.toInt < a ∨ b < x.toInt
  · exact go_tabOut hd h ht (K1 h)
  · exact K2 _ rfl (by omega) (by omega)
theorem i32_le {x y : Int32} : x ≤ y ↔ x.toInt ≤ y.toInt := Int32.le_iff_toInt_le
theorem i32_lt {x y : Int32} : x < y ↔ x.toInt < y.toInt := Int32.lt_iff_toInt_lt
theorem i32_of {x : Int32} {q : Int} (h : x.toInt = q) : x = Int32.ofInt q := by rw [← h]; exact (Int32.ofInt_toInt x).symm
section LEAF
variable {l : Launch} {G : GG} {n : Nat} {i : IP} {r : RP}
theorem c_isHouse (x : Int32) : Go l G mX5_isHouse 0 0 0 0 (lentry [.int x] 1) [] n i r (RetI (b2i (decide (0 ≤ x) && decide (x < 6))) n i r) := by
  refine go_iload_n (z := 1) dX5_isHouse_0 rfl rfl ?_
  refine go_if_lt (z := 14) (z2 := 4) dX5_isHouse_1 rfl (by decide) (fun h1 => ?_) (fun h1 => ?_)
  · refine go_iconst (z := 15) (v := 0) dX5_isHouse_14 rfl (by decide) ?_
    refine go_zret dX5_isHouse_15 rfl (congrArg Value.int (by decide)) ?_
    first | (simp_all [RetI, Ret, b2i]; done) | (simp_all [RetI, Ret, b2i]; intro q; exact absurd q (Int32.not_le.mpr (by assumption)))
  · refine go_iload_n (z := 5) dX5_isHouse_4 rfl rfl ?_
    refine go_bipush (z := 7) (v := 6) dX5_isHouse_5 rfl (by decide) ?_
    refine go_icmp_ge (z := 14) (z2 := 10) dX5_isHouse_7 rfl (by decide) (fun h7 => ?_) (fun h7 => ?_)
    · refine go_iconst (z := 15) (v := 0) dX5_isHouse_14 rfl (by decide) ?_
      refine go_zret dX5_isHouse_15 rfl (congrArg Value.int (by decide)) ?_
      first | (simp_all [RetI, Ret, b2i]; done) | (simp_all [RetI, Ret, b2i]; intro q; exact absurd q (Int32.not_le.mpr (by assumption)))
    · refine go_iconst (z := 11) (v := 1) dX5_isHouse_10 rfl (by decide) ?_
      refine go_goto (z := 15) dX5_isHouse_11 (by decide) ?_
      refine go_zret dX5_isHouse_15 rfl (congrArg Value.int (by decide)) ?_
      first | (simp_all [RetI, Ret, b2i]; done) | (simp_all [RetI, Ret, b2i]; intro q; exact absurd q (Int32.not_le.mpr (by assumption)))
theorem c_isWay (x : Int32) : Go l G mX5_isWay 0 0 0 0 (lentry [.int x] 1) [] n i r (RetI (b2i (decide (1 ≤ x) && decide (x ≤ 9))) n i r) := by
  refine go_iload_n (z := 1) dX5_isWay_0 rfl rfl ?_
  refine go_iconst (z := 2) (v := 1) dX5_isWay_1 rfl (by decide) ?_
  refine go_icmp_lt (z := 15) (z2 := 5) dX5_isWay_2 rfl (by decide) (fun h2 => ?_) (fun h2 => ?_)
  · refine go_iconst (z := 16) (v := 0) dX5_isWay_15 rfl (by decide) ?_
    refine go_zret dX5_isWay_16 rfl (congrArg Value.int (by decide)) ?_
    first | (simp_all [RetI, Ret, b2i]; done) | (simp_all [RetI, Ret, b2i]; intro q; exact absurd q (Int32.not_le.mpr (by assumption)))
  · refine go_iload_n (z := 6) dX5_isWay_5 rfl rfl ?_
    refine go_bipush (z := 8) (v := 9) dX5_isWay_6 rfl (by decide) ?_
    refine go_icmp_gt (z := 15) (z2 := 11) dX5_isWay_8 rfl (by decide) (fun h8 => ?_) (fun h8 => ?_)
    · refine go_iconst (z := 16) (v := 0) dX5_isWay_15 rfl (by decide) ?_
      refine go_zret dX5_isWay_16 rfl (congrArg Value.int (by decide)) ?_
      first | (simp_all [RetI, Ret, b2i]; done) | (simp_all [RetI, Ret, b2i]; intro q; exact absurd q (Int32.not_le.mpr (by assumption)))
    · refine go_iconst (z := 12) (v := 1) dX5_isWay_11 rfl (by decide) ?_
      refine go_goto (z := 16) dX5_isWay_12 (by decide) ?_
      refine go_zret dX5_isWay_16 rfl (congrArg Value.int (by decide)) ?_
      first | (simp_all [RetI, Ret, b2i]; done) | (simp_all [RetI, Ret, b2i]; intro q; exact absurd q (Int32.not_le.mpr (by assumption)))
theorem c_way {S : Nat} {m : MS} (hL : StL G n S) (hR : Rep S m i r) {a b : Nat} (ha : a < 7) (hb : b < 7) : Go l G mX4_way 0 0 0 0 (lentry [.ref S, .int (nI a), .int (nI b)] 4) [] n i r (RetI (m.2.1 (a * 7 + b)) n i r) := by
  have hs := hL.s
  have hw := hL.w
  have e3 := hR.1.1
  have hway : nI a * 7 + nI b = nI (a * 7 + b) := by rw [← nI_add, ← pk_mul]; rfl
  refine go_iload_n (z := 1) dX4_way_0 rfl rfl ?_
  refine go_bipush (z := 3) (v := 7) dX4_way_1 rfl (by decide) ?_
  refine go_imul (z := 4) dX4_way_3 rfl ?_
  refine go_iload_n (z := 5) dX4_way_4 rfl rfl ?_
  refine go_iadd (z := 6) dX4_way_5 rfl ?_
  refine go_st (st' := [.int (nI (a * 7 + b))]) (by rw [← hway]) ?_
  refine go_istore_n (z := 7) dX4_way_6 rfl (by decide) ?_
  refine go_iload_n (z := 8) dX4_way_7 rfl rfl ?_
  refine go_if_lt (z := 29) (z2 := 11) dX4_way_8 rfl (by decide) (fun h => absurd h (nI_pos (by omega))) (fun _ => ?_)
  refine go_iload_n (z := 12) dX4_way_11 rfl rfl ?_
  refine go_aload_n (z := 13) dX4_way_12 rfl rfl ?_
  refine go_getR (z := 16) dX4_way_13 rfl fX4_18 (by assumption) rfl (by assumption) ?_
  refine go_alen (z := 17) (by assumption) (by decide) dX4_way_16 rfl ?_
  refine go_icmp_ge (z := 29) (z2 := 20) dX4_way_17 rfl (by decide) (fun h => absurd h (nI_ge (by omega) (by omega))) (fun _ => ?_)
  refine go_aload_n (z := 21) dX4_way_20 rfl rfl ?_
  refine go_getR (z := 24) dX4_way_21 rfl fX4_18 (by assumption) rfl (by assumption) ?_
  refine go_iload_n (z := 25) dX4_way_24 rfl rfl ?_
  refine go_iald (z := 26) (a * 7 + b) (by assumption) (by decide) rfl (by omega) dX4_way_25 rfl ?_
  refine go_goto (z := 30) dX4_way_26 (by decide) ?_
  refine go_iret dX4_way_30 rfl ?_
  exact ⟨by rw [hR.2.2.1 _ (by omega)], rfl, rfl, rfl⟩
theorem c_putWay {S : Nat} {m : MS} (hL : StL G n S) (hR : Rep S m i r) {a b : Nat} {x : Int32} (ha : a < 7) (hb : b < 7) : Go l G mX4_putWay 0 0 0 0 (lentry [.ref S, .int (nI a), .int (nI b), .int x] 6) [] n i r (Chg n S i r (sW (sW m (a * 7 + b) x) (b * 7 + a) x)) := by
  have hs := hL.s
  have hw := hL.w
  have e3 := hR.1.1
  have hway : nI a * 7 + nI b = nI (a * 7 + b) := by rw [← nI_add, ← pk_mul]; rfl
  have hway2 : nI b * 7 + nI a = nI (b * 7 + a) := by rw [← nI_add, ← pk_mul]; rfl
  refine go_iload_n (z := 1) dX4_putWay_0 rfl rfl ?_
  refine go_bipush (z := 3) (v := 7) dX4_putWay_1 rfl (by decide) ?_
  refine go_imul (z := 4) dX4_putWay_3 rfl ?_
  refine go_iload_n (z := 5) dX4_putWay_4 rfl rfl ?_
  refine go_iadd (z := 6) dX4_putWay_5 rfl ?_
  refine go_st (st' := [.int (nI (a * 7 + b))]) (by rw [← hway]) ?_
  refine go_istore (z := 8) dX4_putWay_6 rfl (by decide) ?_
  refine go_iload_n (z := 9) dX4_putWay_8 rfl rfl ?_
  refine go_bipush (z := 11) (v := 7) dX4_putWay_9 rfl (by decide) ?_
  refine go_imul (z := 12) dX4_putWay_11 rfl ?_
  refine go_iload_n (z := 13) dX4_putWay_12 rfl rfl ?_
  refine go_iadd (z := 14) dX4_putWay_13 rfl ?_
  refine go_st (st' := [.int (nI (b * 7 + a))]) (by rw [← hway2]) ?_
  refine go_istore (z := 16) dX4_putWay_14 rfl (by decide) ?_
  refine go_iload (z := 18) dX4_putWay_16 rfl rfl ?_
  refine go_if_lt (z := 62) (z2 := 21) dX4_putWay_18 rfl (by decide) (fun h => absurd h (nI_pos (by omega))) (fun _ => ?_)
  refine go_iload (z := 23) dX4_putWay_21 rfl rfl ?_
  refine go_aload_n (z := 24) dX4_putWay_23 rfl rfl ?_
  refine go_getR (z := 27) dX4_putWay_24 rfl fX4_18 (by assumption) rfl (by assumption) ?_
  refine go_alen (z := 28) (by assumption) (by decide) dX4_putWay_27 rfl ?_
  refine go_icmp_ge (z := 62) (z2 := 31) dX4_putWay_28 rfl (by decide) (fun h => absurd h (nI_ge (by omega) (by omega))) (fun _ => ?_)
  refine go_iload (z := 33) dX4_putWay_31 rfl rfl ?_
  refine go_if_lt (z := 62) (z2 := 36) dX4_putWay_33 rfl (by decide) (fun h => absurd h (nI_pos (by omega))) (fun _ => ?_)
  refine go_iload (z := 38) dX4_putWay_36 rfl rfl ?_
  refine go_aload_n (z := 39) dX4_putWay_38 rfl rfl ?_
  refine go_getR (z := 42) dX4_putWay_39 rfl fX4_18 (by assumption) rfl (by assumption) ?_
  refine go_alen (z := 43) (by assumption) (by decide) dX4_putWay_42 rfl ?_
  refine go_icmp_ge (z := 62) (z2 := 46) dX4_putWay_43 rfl (by decide) (fun h => absurd h (nI_ge (by omega) (by omega))) (fun _ => ?_)
  refine go_aload_n (z := 47) dX4_putWay_46 rfl rfl ?_
  refine go_getR (z := 50) dX4_putWay_47 rfl fX4_18 (by assumption) rfl (by assumption) ?_
  refine go_iload (z := 52) dX4_putWay_50 rfl rfl ?_
  refine go_iload_n (z := 53) dX4_putWay_52 rfl rfl ?_
  refine go_iast (z := 54) (a * 7 + b) (by assumption) (by decide) rfl (by omega) dX4_putWay_53 rfl ?_
  refine go_aload_n (z := 55) dX4_putWay_54 rfl rfl ?_
  refine go_getR (z := 58) dX4_putWay_55 rfl fX4_18 (by assumption) rfl (by assumption) ?_
  refine go_iload (z := 60) dX4_putWay_58 rfl rfl ?_
  refine go_iload_n (z := 61) dX4_putWay_60 rfl rfl ?_
  refine go_iast (z := 62) (b * 7 + a) (by assumption) (by decide) rfl (by omega) dX4_putWay_61 rfl ?_
  exact go_vret dX4_putWay_62 rfl ⟨rfl, rfl, (hR.putW _).putW _, (Out.pi (by omega) (by omega)).tr (Out.pi (by omega) (by omega))⟩
/-! Errand -/
theorem c_Errand_init {a : Nat} {x : Int32} (ha : Ok G n a 0) : Go l G mX0_init 1 0 0 0 (lentry [.ref a, .int x] 2) [] n i r (fun v n' i' r' => v = none ∧ n' = n ∧ i' = ups (ups i a 3 1) a 0 x ∧ r' = r) := by
  refine go_aload_n (z := 1) dX0_init_0 rfl rfl ?_
  refine go_objinit (z := 4) dX0_init_1 rfl oX0_3 (by decide) (by decide) ?_
  refine go_aload_n (z := 5) dX0_init_4 rfl rfl ?_
  refine go_iconst (z := 6) (v := 1) dX0_init_5 rfl (by decide) ?_
  refine go_putI (z := 9) dX0_init_6 rfl fX0_9 (by assumption) rfl (Or.inl rfl) rfl ?_
  refine go_aload_n (z := 10) dX0_init_9 rfl rfl ?_
  refine go_iload_n (z := 11) dX0_init_10 rfl rfl ?_
  refine go_putI (z := 14) dX0_init_11 rfl fX0_15 (by assumption) rfl (Or.inr ⟨rfl, rfl⟩) rfl ?_
  refine go_vret dX0_init_14 rfl ?_
  exact ⟨rfl, rfl, rfl, rfl⟩
def tell4 (a b c d x : Int32) : Int32 := if x.toInt = 0 then a else if x.toInt = 1 then b else if x.toInt = 2 then c else if x.toInt = 3 then d else -2
theorem c_Errand_tell {a : Nat} {x : Int32} (ha : Ok G n a 0) : Go l G mX0_tell 0 0 0 0 (lentry [.ref a, .int x] 2) [] n i r (RetI (tell4 (i a 0) (i a 1) (i a 2) (i a 3) x) n i r) := by
  refine go_iload_n (z := 1) dX0_tell_0 rfl rfl ?_
  refine go_tabS (z := 52) dX0_tell_1 (by decide) (fun h1 => ?_) (fun q1 h1 ha1 hb1 => ?_)
  · refine go_bipush (z := 54) (v := (-2)) dX0_tell_52 rfl (by decide) ?_
    refine go_iret dX0_tell_54 rfl ?_
    exact ⟨by unfold tell4; (repeat' split) <;> first | omega | rfl, rfl, rfl, rfl⟩
  · rcases (show q1 = 0 ∨ q1 = 1 ∨ q1 = 2 ∨ q1 = 3 by omega) with rfl | rfl | rfl | rfl
    · refine go_tabIn (z := 32) 0 dX0_tell_1 h1 (by decide) (by decide) rfl (by decide) ?_
      refine go_aload_n (z := 33) dX0_tell_32 rfl rfl ?_
      refine go_getI (z := 36) dX0_tell_33 rfl fX0_15 (by assumption) rfl ?_
      refine go_iret dX0_tell_36 rfl ?_
      exact ⟨by unfold tell4; (repeat' split) <;> first | omega | rfl, rfl, rfl, rfl⟩
    · refine go_tabIn (z := 37) 1 dX0_tell_1 h1 (by decide) (by decide) rfl (by decide) ?_
      refine go_aload_n (z := 38) dX0_tell_37 rfl rfl ?_
      refine go_getI (z := 41) dX0_tell_38 rfl fX0_31 (by assumption) rfl ?_
      refine go_iret dX0_tell_41 rfl ?_
      exact ⟨by unfold tell4; (repeat' split) <;> first | omega | rfl, rfl, rfl, rfl⟩
    · refine go_tabIn (z := 42) 2 dX0_tell_1 h1 (by decide) (by decide) rfl (by decide) ?_
      refine go_aload_n (z := 43) dX0_tell_42 rfl rfl ?_
      refine go_getI (z := 46) dX0_tell_43 rfl fX0_28 (by assumption) rfl ?_
      refine go_iret dX0_tell_46 rfl ?_
      exact ⟨by unfold tell4; (repeat' split) <;> first | omega | rfl, rfl, rfl, rfl⟩
    · refine go_tabIn (z := 47) 3 dX0_tell_1 h1 (by decide) (by decide) rfl (by decide) ?_
      refine go_aload_n (z := 48) dX0_tell_47 rfl rfl ?_
      refine go_getI (z := 51) dX0_tell_48 rfl fX0_9 (by assumption) rfl ?_
      refine go_iret dX0_tell_51 rfl ?_
      exact ⟨by unfold tell4; (repeat' split) <;> first | omega | rfl, rfl, rfl, rfl⟩
/-! Message -/
def eAll (E : EE) : Option Nat → Int32
  | none => 0
  | some b => nI (E.2.2.1 b)
def eWork (E : EE) : Option Nat → Int32
  | none => 0
  | some b => E.2.1 b
theorem nS_of {t : Nat × Nat} {q : Nat} (h : t.1 = q) (hq : q < 7) : nS t = (cT q).2.2 := by subst h; simp [nS, hq]
theorem go_nar {l : Launch} {G : GG} {Y : AM} {D k j pc : Nat} {lo : List (Option Value)} {st : List Value} {n : Nat} {i : IP} {r : RP} {Q : QP} {a t : Nat} (f : Nat) (ha : Ok G n a t) (ht : t < 7 ∧ f < (cT t).2.2) (hr : isR (fT t f) = false) (K : narrow (fT t f) (.int (i a f)) = .int (i a f) → Go l G Y D k j pc lo st n i r Q) : Go l G Y D k j pc lo st n i r Q :=
  go_narrow ha (by rw [nS_of ha.2.2 ht.1]; exact ht.2) hr K
theorem c_Message_init {a : Nat} : Go l G mX2_init 1 0 0 0 (lentry [.ref a] 1) [] n i r (fun v n' i' r' => v = none ∧ n' = n ∧ i' = i ∧ r' = r) := by
  refine go_aload_n (z := 1) dX2_init_0 rfl rfl ?_
  refine go_objinit (z := 4) dX2_init_1 rfl oX2_3 (by decide) (by decide) ?_
  refine go_vret dX2_init_4 rfl ?_
  exact ⟨rfl, rfl, rfl, rfl⟩
theorem c_Message_copyFrom {a b : Nat} (ha : Ok G n a 2) (hb : Ok G n b 2) (hab : a ≠ b) : Go l G mX2_copyFrom 0 0 0 0 (lentry [.ref a, .ref b] 2) [] n i r (fun v n' i' r' => v = none ∧ n' = n ∧ (∀ q, q ≠ a → i' q = i q ∧ r' q = r q) ∧ (∀ f, f < 5 → i' a f = i b f) ∧ r' a 5 = r b 5) := by
  have hba : b ≠ a := Ne.symm hab
  refine go_aload_n (z := 1) dX2_copyFrom_0 rfl rfl ?_
  refine go_aload_n (z := 2) dX2_copyFrom_1 rfl rfl ?_
  refine go_getI (z := 5) dX2_copyFrom_2 rfl fX2_9 (by assumption) rfl ?_
  refine go_putI (z := 8) dX2_copyFrom_5 rfl fX2_9 (by assumption) rfl (Or.inl rfl) rfl ?_
  refine go_aload_n (z := 9) dX2_copyFrom_8 rfl rfl ?_
  refine go_aload_n (z := 10) dX2_copyFrom_9 rfl rfl ?_
  refine go_getI (z := 13) dX2_copyFrom_10 rfl fX2_15 (by assumption) rfl ?_
  refine go_putI (z := 16) dX2_copyFrom_13 rfl fX2_15 (by assumption) rfl (Or.inl rfl) rfl ?_
  refine go_aload_n (z := 17) dX2_copyFrom_16 rfl rfl ?_
  refine go_aload_n (z := 18) dX2_copyFrom_17 rfl rfl ?_
  refine go_getI (z := 21) dX2_copyFrom_18 rfl fX2_18 (by assumption) rfl ?_
  refine go_putI (z := 24) dX2_copyFrom_21 rfl fX2_18 (by assumption) rfl (Or.inl rfl) rfl ?_
  refine go_aload_n (z := 25) dX2_copyFrom_24 rfl rfl ?_
  refine go_aload_n (z := 26) dX2_copyFrom_25 rfl rfl ?_
  refine go_getI (z := 29) dX2_copyFrom_26 rfl fX2_21 (by assumption) rfl ?_
  refine go_putI (z := 32) dX2_copyFrom_29 rfl fX2_21 (by assumption) rfl (Or.inl rfl) rfl ?_
  refine go_aload_n (z := 33) dX2_copyFrom_32 rfl rfl ?_
  refine go_aload_n (z := 34) dX2_copyFrom_33 rfl rfl ?_
  refine go_getI (z := 37) dX2_copyFrom_34 rfl fX2_24 (by assumption) rfl ?_
  refine go_putI (z := 40) dX2_copyFrom_37 rfl fX2_24 (by assumption) rfl (Or.inl rfl) rfl ?_
  refine go_aload_n (z := 41) dX2_copyFrom_40 rfl rfl ?_
  refine go_aload_n (z := 42) dX2_copyFrom_41 rfl rfl ?_
  refine go_getO (z := 45) dX2_copyFrom_42 rfl fX2_27 (by assumption) rfl ?_
  refine go_putO (z := 48) dX2_copyFrom_45 rfl fX2_27 (by assumption) rfl (Or.inl rfl) ?_
  refine go_vret dX2_copyFrom_48 rfl ?_
  refine ⟨rfl, rfl, fun q hq => ⟨?_, ups_row hq⟩, fun f hf => ?_, ups_s⟩
  · rw [ups_row hq, ups_row hq, ups_row hq, ups_row hq, ups_row hq]
  · simp only [ups_a hba]
    rcases (show f = 0 ∨ f = 1 ∨ f = 2 ∨ f = 3 ∨ f = 4 by omega) with rfl | rfl | rfl | rfl | rfl <;> simp [ups]
theorem c_Message_errands {a : Nat} {E : EE} {Gd : Nat → Prop} (ha : Ok G n a 2) (hE : RepE G n E Gd i r) {o : Option Nat} (ho : r a 5 = o) (hg : ∀ b, o = some b → Gd b) : Go l G mX2_errands 0 0 0 0 (lentry [.ref a] 1) [] n i r (RetI (eAll E o) n i r) := by
  subst ho
  refine go_aload_n (z := 1) dX2_errands_0 rfl rfl ?_
  refine go_getO (z := 4) dX2_errands_1 rfl fX2_27 (by assumption) rfl ?_
  refine go_ifnonnull (z := 11) (z2 := 7) dX2_errands_4 rfl (by decide) (fun b hb => ?_) (fun h0 => ?_)
  · have hG := hE b (hg b hb)
    have hok := hG.1
    refine go_aload_n (z := 12) dX2_errands_11 rfl rfl ?_
    refine go_getR (z := 15) dX2_errands_12 rfl fX2_27 (by assumption) rfl hb ?_
    refine go_getI (z := 18) dX2_errands_15 rfl fX2_31 (by assumption) rfl ?_
    refine go_iret dX2_errands_18 rfl ?_
    rw [hb]
    exact ⟨by rw [hG.2.2.2.2.2.1]; rfl, rfl, rfl, rfl⟩
  · refine go_iconst (z := 8) (v := 0) dX2_errands_7 rfl (by decide) ?_
    refine go_goto (z := 18) dX2_errands_8 (by decide) ?_
    refine go_iret dX2_errands_18 rfl ?_
    rw [h0]
    exact ⟨rfl, rfl, rfl, rfl⟩
/-! House -/
theorem c_House_isStuck {a : Nat} (ha : Ok G n a 1) : Go l G mX1_isStuck 0 0 0 0 (lentry [.ref a] 1) [] n i r (RetI (if i a 0 = 0 ∨ (i a 2 = 0 ∧ ¬ i a 4 = 0) then 1 else 0) n i r) := by
  refine go_aload_n (z := 1) dX1_isStuck_0 rfl rfl ?_
  refine go_getI (z := 4) dX1_isStuck_1 rfl fX1_17 (by assumption) rfl ?_
  refine go_if_eq (z := 21) (z2 := 7) dX1_isStuck_4 rfl (by decide) (fun h4 => ?_) (fun h4 => ?_)
  · refine go_iconst (z := 22) (v := 1) dX1_isStuck_21 rfl (by decide) ?_
    refine go_goto (z := 26) dX1_isStuck_22 (by decide) ?_
    refine go_zret dX1_isStuck_26 rfl (congrArg Value.int (by decide)) ?_
    exact ⟨by simp_all, rfl, rfl, rfl⟩
  · refine go_aload_n (z := 8) dX1_isStuck_7 rfl rfl ?_
    refine go_getI (z := 11) dX1_isStuck_8 rfl fX1_25 (by assumption) rfl ?_
    refine go_if_ne (z := 25) (z2 := 14) dX1_isStuck_11 rfl (by decide) (fun h11 => ?_) (fun h11 => ?_)
    · refine go_iconst (z := 26) (v := 0) dX1_isStuck_25 rfl (by decide) ?_
      refine go_zret dX1_isStuck_26 rfl (congrArg Value.int (by decide)) ?_
      exact ⟨by simp_all, rfl, rfl, rfl⟩
    · refine go_aload_n (z := 15) dX1_isStuck_14 rfl rfl ?_
      refine go_getI (z := 18) dX1_isStuck_15 rfl fX1_31 (by assumption) rfl ?_
      refine go_if_eq (z := 25) (z2 := 21) dX1_isStuck_18 rfl (by decide) (fun h18 => ?_) (fun h18 => ?_)
      · refine go_iconst (z := 26) (v := 0) dX1_isStuck_25 rfl (by decide) ?_
        refine go_zret dX1_isStuck_26 rfl (congrArg Value.int (by decide)) ?_
        exact ⟨by simp_all, rfl, rfl, rfl⟩
      · refine go_iconst (z := 22) (v := 1) dX1_isStuck_21 rfl (by decide) ?_
        refine go_goto (z := 26) dX1_isStuck_22 (by decide) ?_
        refine go_zret dX1_isStuck_26 rfl (congrArg Value.int (by decide)) ?_
        exact ⟨by simp_all, rfl, rfl, rfl⟩
def tellH (H : Nat → Int32) (x : Int32) : Int32 := if x.toInt = 0 then (if H 0 = 0 then 0 else 1) else if x.toInt = 1 then H 1 else if x.toInt = 2 then H 2 else if x.toInt = 3 then H 3 else if x.toInt = 4 then (if H 4 = 0 then 0 else 1) else if x.toInt = 5 then H 6 else if x.toInt = 6 then H 7 else if x.toInt = 7 then H 8 else if x.toInt = 8 then H 9 else -2
theorem c_House_tell {a : Nat} {x : Int32} (ha : Ok G n a 1) : Go l G mX1_tell 0 0 0 0 (lentry [.ref a, .int x] 2) [] n i r (RetI (tellH (i a) x) n i r) := by
  refine go_iload_n (z := 1) dX1_tell_0 rfl rfl ?_
  refine go_tabS (z := 113) dX1_tell_1 (by decide) (fun h1 => ?_) (fun q1 h1 ha1 hb1 => ?_)
  · refine go_bipush (z := 115) (v := (-2)) dX1_tell_113 rfl (by decide) ?_
    refine go_iret dX1_tell_115 rfl ?_
    exact ⟨by unfold tellH; (repeat' split) <;> first | omega | rfl | (exfalso; simp_all; done), rfl, rfl, rfl⟩
  · rcases (show q1 = 0 ∨ q1 = 1 ∨ q1 = 2 ∨ q1 = 3 ∨ q1 = 4 ∨ q1 = 5 ∨ q1 = 6 ∨ q1 = 7 ∨ q1 = 8 by omega) with rfl | rfl | rfl | rfl | rfl | rfl | rfl | rfl | rfl
    · refine go_tabIn (z := 52) 0 dX1_tell_1 h1 (by decide) (by decide) rfl (by decide) ?_
      refine go_aload_n (z := 53) dX1_tell_52 rfl rfl ?_
      refine go_getI (z := 56) dX1_tell_53 rfl fX1_17 (by assumption) rfl ?_
      refine go_if_eq (z := 63) (z2 := 59) dX1_tell_56 rfl (by decide) (fun h56 => ?_) (fun h56 => ?_)
      · refine go_iconst (z := 64) (v := 0) dX1_tell_63 rfl (by decide) ?_
        refine go_iret dX1_tell_64 rfl ?_
        exact ⟨by unfold tellH; (repeat' split) <;> first | omega | rfl | (exfalso; simp_all; done), rfl, rfl, rfl⟩
      · refine go_iconst (z := 60) (v := 1) dX1_tell_59 rfl (by decide) ?_
        refine go_goto (z := 64) dX1_tell_60 (by decide) ?_
        refine go_iret dX1_tell_64 rfl ?_
        exact ⟨by unfold tellH; (repeat' split) <;> first | omega | rfl | (exfalso; simp_all; done), rfl, rfl, rfl⟩
    · refine go_tabIn (z := 65) 1 dX1_tell_1 h1 (by decide) (by decide) rfl (by decide) ?_
      refine go_aload_n (z := 66) dX1_tell_65 rfl rfl ?_
      refine go_getI (z := 69) dX1_tell_66 rfl fX1_21 (by assumption) rfl ?_
      refine go_iret dX1_tell_69 rfl ?_
      exact ⟨by unfold tellH; (repeat' split) <;> first | omega | rfl | (exfalso; simp_all; done), rfl, rfl, rfl⟩
    · refine go_tabIn (z := 70) 2 dX1_tell_1 h1 (by decide) (by decide) rfl (by decide) ?_
      refine go_aload_n (z := 71) dX1_tell_70 rfl rfl ?_
      refine go_getI (z := 74) dX1_tell_71 rfl fX1_25 (by assumption) rfl ?_
      refine go_iret dX1_tell_74 rfl ?_
      exact ⟨by unfold tellH; (repeat' split) <;> first | omega | rfl | (exfalso; simp_all; done), rfl, rfl, rfl⟩
    · refine go_tabIn (z := 75) 3 dX1_tell_1 h1 (by decide) (by decide) rfl (by decide) ?_
      refine go_aload_n (z := 76) dX1_tell_75 rfl rfl ?_
      refine go_getI (z := 79) dX1_tell_76 rfl fX1_28 (by assumption) rfl ?_
      refine go_iret dX1_tell_79 rfl ?_
      exact ⟨by unfold tellH; (repeat' split) <;> first | omega | rfl | (exfalso; simp_all; done), rfl, rfl, rfl⟩
    · refine go_tabIn (z := 80) 4 dX1_tell_1 h1 (by decide) (by decide) rfl (by decide) ?_
      refine go_aload_n (z := 81) dX1_tell_80 rfl rfl ?_
      refine go_getI (z := 84) dX1_tell_81 rfl fX1_31 (by assumption) rfl ?_
      refine go_if_eq (z := 91) (z2 := 87) dX1_tell_84 rfl (by decide) (fun h84 => ?_) (fun h84 => ?_)
      · refine go_iconst (z := 92) (v := 0) dX1_tell_91 rfl (by decide) ?_
        refine go_iret dX1_tell_92 rfl ?_
        exact ⟨by unfold tellH; (repeat' split) <;> first | omega | rfl | (exfalso; simp_all; done), rfl, rfl, rfl⟩
      · refine go_iconst (z := 88) (v := 1) dX1_tell_87 rfl (by decide) ?_
        refine go_goto (z := 92) dX1_tell_88 (by decide) ?_
        refine go_iret dX1_tell_92 rfl ?_
        exact ⟨by unfold tellH; (repeat' split) <;> first | omega | rfl | (exfalso; simp_all; done), rfl, rfl, rfl⟩
    · refine go_tabIn (z := 93) 5 dX1_tell_1 h1 (by decide) (by decide) rfl (by decide) ?_
      refine go_aload_n (z := 94) dX1_tell_93 rfl rfl ?_
      refine go_getI (z := 97) dX1_tell_94 rfl fX1_37 (by assumption) rfl ?_
      refine go_iret dX1_tell_97 rfl ?_
      exact ⟨by unfold tellH; (repeat' split) <;> first | omega | rfl | (exfalso; simp_all; done), rfl, rfl, rfl⟩
    · refine go_tabIn (z := 98) 6 dX1_tell_1 h1 (by decide) (by decide) rfl (by decide) ?_
      refine go_aload_n (z := 99) dX1_tell_98 rfl rfl ?_
      refine go_getI (z := 102) dX1_tell_99 rfl fX1_40 (by assumption) rfl ?_
      refine go_iret dX1_tell_102 rfl ?_
      exact ⟨by unfold tellH; (repeat' split) <;> first | omega | rfl | (exfalso; simp_all; done), rfl, rfl, rfl⟩
    · refine go_tabIn (z := 103) 7 dX1_tell_1 h1 (by decide) (by decide) rfl (by decide) ?_
      refine go_aload_n (z := 104) dX1_tell_103 rfl rfl ?_
      refine go_getI (z := 107) dX1_tell_104 rfl fX1_43 (by assumption) rfl ?_
      refine go_iret dX1_tell_107 rfl ?_
      exact ⟨by unfold tellH; (repeat' split) <;> first | omega | rfl | (exfalso; simp_all; done), rfl, rfl, rfl⟩
    · refine go_tabIn (z := 108) 8 dX1_tell_1 h1 (by decide) (by decide) rfl (by decide) ?_
      refine go_aload_n (z := 109) dX1_tell_108 rfl rfl ?_
      refine go_getI (z := 112) dX1_tell_109 rfl fX1_46 (by assumption) rfl ?_
      refine go_iret dX1_tell_112 rfl ?_
      exact ⟨by unfold tellH; (repeat' split) <;> first | omega | rfl | (exfalso; simp_all; done), rfl, rfl, rfl⟩
/-- a line of errands: the house, its line -/
theorem c_House_lineUp {a b c : Nat} {e : Nat} (ha : Ok G n a 1) (hb : OkA G n b 9 80) (hl : r a 10 = some b) (hc : i a 3 = nI c) (hc8 : c < 80) (he : Ok G n e 0) : Go l G mX1_lineUp 0 0 0 0 (lentry [.ref a, .ref e] 2) [] n i r (fun v n' i' r' => v = none ∧ n' = n ∧ i' = ups i a 3 (nI (c + 1)) ∧ r' = ups r b c (some e)) := by
  refine go_aload_n (z := 1) dX1_lineUp_0 rfl rfl ?_
  refine go_getI (z := 4) dX1_lineUp_1 rfl fX1_28 (by assumption) rfl ?_
  refine go_aload_n (z := 5) dX1_lineUp_4 rfl rfl ?_
  refine go_getR (z := 8) dX1_lineUp_5 rfl fX1_11 (by assumption) rfl (by assumption) ?_
  refine go_alen (z := 9) (by assumption) (by decide) dX1_lineUp_8 rfl ?_
  refine go_icmp_ge (z := 32) (z2 := 12) dX1_lineUp_9 rfl (by decide) (fun h => ?_) (fun h => ?_)
  · exact absurd h (by rw [hc]; exact nI_ge hc8 (by omega))
  · refine go_aload_n (z := 13) dX1_lineUp_12 rfl rfl ?_
    refine go_getR (z := 16) dX1_lineUp_13 rfl fX1_11 (by assumption) rfl (by assumption) ?_
    refine go_aload_n (z := 17) dX1_lineUp_16 rfl rfl ?_
    refine go_getI (z := 20) dX1_lineUp_17 rfl fX1_28 (by assumption) rfl ?_
    refine go_aload_n (z := 21) dX1_lineUp_20 rfl rfl ?_
    refine go_aastR (z := 22) c (by assumption) ⟨by decide, by decide⟩ (by decide) hc hc8 (by assumption) (by decide) rfl dX1_lineUp_21 rfl ?_
    refine go_aload_n (z := 23) dX1_lineUp_22 rfl rfl ?_
    refine go_dup (z := 24) dX1_lineUp_23 rfl rfl ?_
    refine go_getI (z := 27) dX1_lineUp_24 rfl fX1_28 (by assumption) rfl ?_
    refine go_iconst (z := 28) (v := 1) dX1_lineUp_27 rfl (by decide) ?_
    refine go_iadd (z := 29) dX1_lineUp_28 rfl ?_
    refine go_putI (z := 32) dX1_lineUp_29 rfl fX1_28 (by assumption) rfl (Or.inl rfl) rfl ?_
    exact go_vret dX1_lineUp_32 rfl ⟨rfl, rfl, by rw [hc]; exact congrArg _ (nI_1 c), rfl⟩
theorem c_House_waitingAt {a b c : Nat} {x : Int32} (ha : Ok G n a 1) (hb : OkA G n b 9 80) (hl : r a 10 = some b) (hc : i a 3 = nI c) (hc8 : c ≤ 80) : Go l G mX1_waitingAt 0 0 0 0 (lentry [.ref a, .int x] 2) [] n i r (Ret (some (va_rf (if 0 ≤ x ∧ x < nI c then r b x.toNatClampNeg else none))) n i r) := by
  refine go_iload_n (z := 1) dX1_waitingAt_0 rfl rfl ?_
  refine go_if_lt (z := 30) (z2 := 4) dX1_waitingAt_1 rfl (by decide) (fun h => ?_) (fun h => ?_)
  · refine go_null (z := 31) dX1_waitingAt_30 rfl ?_
    refine go_aret (o := none) dX1_waitingAt_31 rfl ?_
    rw [if_neg (fun q => absurd h (Int32.not_lt.mpr q.1))]
    exact ret_ok
  · refine go_iload_n (z := 5) dX1_waitingAt_4 rfl rfl ?_
    refine go_aload_n (z := 6) dX1_waitingAt_5 rfl rfl ?_
    refine go_getI (z := 9) dX1_waitingAt_6 rfl fX1_28 (by assumption) rfl ?_
    refine go_icmp_ge (z := 30) (z2 := 12) dX1_waitingAt_9 rfl (by decide) (fun h2 => ?_) (fun h2 => ?_)
    · refine go_null (z := 31) dX1_waitingAt_30 rfl ?_
      refine go_aret (o := none) dX1_waitingAt_31 rfl ?_
      rw [hc] at h2
      rw [if_neg (fun q => absurd q.2 (Int32.not_lt.mpr h2))]
      exact ret_ok
    · obtain ⟨q, hq, rfl⟩ := nI_of h
      rw [hc] at h2
      have hqc : q < c := by
        rcases Nat.lt_or_ge q c with w | w
        · exact w
        · exact absurd (nI_le w hq) h2
      refine go_iload_n (z := 13) dX1_waitingAt_12 rfl rfl ?_
      refine go_aload_n (z := 14) dX1_waitingAt_13 rfl rfl ?_
      refine go_getR (z := 17) dX1_waitingAt_14 rfl fX1_11 (by assumption) rfl (by assumption) ?_
      refine go_alen (z := 18) (by assumption) (by decide) dX1_waitingAt_17 rfl ?_
      refine go_icmp_ge (z := 30) (z2 := 21) dX1_waitingAt_18 rfl (by decide) (fun h3 => ?_) (fun h3 => ?_)
      · exact absurd h3 (nI_ge (by omega) (by omega))
      · refine go_aload_n (z := 22) dX1_waitingAt_21 rfl rfl ?_
        refine go_getR (z := 25) dX1_waitingAt_22 rfl fX1_11 (by assumption) rfl (by assumption) ?_
        refine go_iload_n (z := 26) dX1_waitingAt_25 rfl rfl ?_
        refine go_aald (z := 27) _ (by assumption) ⟨by decide, by decide⟩ (by decide) rfl (by omega) rfl dX1_waitingAt_26 rfl ?_
        refine go_goto (z := 31) dX1_waitingAt_27 (by decide) ?_
        refine go_aret dX1_waitingAt_31 rfl ?_
        rw [if_pos ⟨nI_pos' hq, nI_lt hqc (by omega)⟩, nI_clamp hq]
        exact ret_ok
end LEAF
