/-! sizes, drops, ranks, sums -/
def aliP (s : Nat → Int32) (e : Nat) : Bool := decide (0 < eF s e 4)
def subP (s : Nat → Int32) (o e : Nat) : Bool := aliP s e && wth s o (e + 1)
def fndF (p : Nat → Bool) : Nat → Nat → Option Nat
  | 0, _ => none
  | f + 1, m => if p m = true then some m else fndF p f (m + 1)
section MCOUNT
variable {l : Launch} {G : GG} {n : Nat} {i : IP} {r : RP} {M : Nat} {s : Nat → Int32}
theorem b2i_ne {b : Bool} (h : ¬ b2i b = 0) : b = true := by
  cases b with
  | true => rfl
  | false => exact absurd rfl h
theorem b2i_eq {b : Bool} (h : b2i b = 0) : b = false := by
  cases b with
  | true => exact absurd h (by decide)
  | false => rfl
theorem c_mSizeOf {o : Nat} (hX : MoX G n M r) (hU : upOk s) (ho : o < 80) : Go l G mX6_sizeOf 2 0 0 0 (lentry [.ref M, .int (nI o)] 4) [] n (upr i (M + 1) s) r (RetI (nI (cntF (subP s o) 80)) n (upr i (M + 1) s) r) := by
  obtain ⟨hM, -, -⟩ := id hX
  have loop : ∀ d c, c + d = 80 → Go l G mX6_sizeOf 2 0 0 4 [some (.ref M), some (.int (nI o)), some (.int (nI (cntF (subP s o) c))), some (.int (nI c))] [] n (upr i (M + 1) s) r (RetI (nI (cntF (subP s o) 80)) n (upr i (M + 1) s) r) := by
    intro d
    induction d with
    | zero =>
      intro c hc
      have hc : c = 80 := by omega
      subst hc
      refine go_iload_n (z := 5) dX6_sizeOf_4 rfl rfl ?_
      refine go_bipush (z := 7) (v := 80) dX6_sizeOf_5 rfl (by decide) ?_
      refine go_icmp_ge (z := 42) (z2 := 10) dX6_sizeOf_7 rfl (by decide) (fun _ => ?_) (fun h => absurd (by decide) h)
      refine go_iload_n (z := 43) dX6_sizeOf_42 rfl rfl ?_
      exact go_iret dX6_sizeOf_43 rfl ret_ok
    | succ d ih =>
      intro c hc
      have e : cntF (subP s o) (c + 1) = cntF (subP s o) c + if subP s o c = true then 1 else 0 := rfl
      have step : ∀ f : Option Value, Go l G mX6_sizeOf 2 0 0 35 [some (.ref M), some (.int (nI o)), f, some (.int (nI c))] [.int (nI (cntF (subP s o) (c + 1)))] n (upr i (M + 1) s) r (RetI (nI (cntF (subP s o) 80)) n (upr i (M + 1) s) r) := by
        intro f
        refine go_istore_n (z := 36) dX6_sizeOf_35 rfl (by decide) ?_
        refine go_iinc (z := 39) dX6_sizeOf_36 rfl rfl (nI_1 c) (by decide) ?_
        refine go_goto (z := 4) dX6_sizeOf_39 (by decide) ?_
        exact ih (c + 1) (by omega)
      have no : subP s o c = false → ∀ f, Go l G mX6_sizeOf 2 0 0 33 [some (.ref M), some (.int (nI o)), f, some (.int (nI c))] [.int (nI (cntF (subP s o) c))] n (upr i (M + 1) s) r (RetI (nI (cntF (subP s o) 80)) n (upr i (M + 1) s) r) := by
        intro h f
        refine go_iconst (z := 34) (v := 0) dX6_sizeOf_33 rfl (by decide) ?_
        refine go_iadd (z := 35) dX6_sizeOf_34 rfl ?_
        refine go_st ?_ (step f)
        rw [e, h, ← nI_add]
        rfl
      refine go_iload_n (z := 5) dX6_sizeOf_4 rfl rfl ?_
      refine go_bipush (z := 7) (v := 80) dX6_sizeOf_5 rfl (by decide) ?_
      refine go_icmp_ge (z := 42) (z2 := 10) dX6_sizeOf_7 rfl (by decide) (fun h => absurd ((nI_leI (a := 80) (by omega) (by omega)).mp h) (by omega)) (fun _ => ?_)
      refine go_iload_n (z := 11) dX6_sizeOf_10 rfl rfl ?_
      refine go_aload_n (z := 12) dX6_sizeOf_11 rfl rfl ?_
      refine go_iload_n (z := 13) dX6_sizeOf_12 rfl rfl ?_
      refine go_iconst (z := 14) (v := 4) dX6_sizeOf_13 rfl (by decide) ?_
      refine go_callV (z := 17) (t := 6) [.int (nI c), .int (nI 4)] dX6_sizeOf_14 rfl mlX6_ofErrand vX6_39 ⟨by decide, rfl⟩ hM rfl rfl (by decide) (cat_i (cat_i cat_nil)) (by simp) (by decide) (by first | decide | omega) (by first | decide | omega) (c_mOfErrand hX (by omega) (by omega)) ?_
      refine ret_elim ?_
      refine go_if_le (z := 33) (z2 := 20) dX6_sizeOf_17 rfl (by decide) (fun h1 => no ?_ _) (fun h1 => ?_)
      · unfold subP aliP
        rw [decide_eq_false (Int32.not_lt.mpr h1), Bool.false_and]
      · have h1 : 0 < eF s c 4 := Int32.not_le.mp h1
        refine go_aload_n (z := 21) dX6_sizeOf_20 rfl rfl ?_
        refine go_iload_n (z := 22) dX6_sizeOf_21 rfl rfl ?_
        refine go_iload_n (z := 23) dX6_sizeOf_22 rfl rfl ?_
        refine go_callV (z := 26) (t := 6) [.int (nI c), .int (nI o)] dX6_sizeOf_23 rfl mlX6_isWithin vX6_49 ⟨by decide, rfl⟩ hM rfl rfl (by decide) (cat_i (cat_i cat_nil)) (by simp) (by decide) (by first | decide | omega) (by first | decide | omega) (c_mWithin hX hU (by omega) ho) ?_
        refine ret_elim ?_
        refine go_if_eq (z := 33) (z2 := 29) dX6_sizeOf_26 rfl (by decide) (fun h2 => no ?_ _) (fun h2 => ?_)
        · unfold subP
          rw [b2i_eq h2, Bool.and_false]
        · refine go_iconst (z := 30) (v := 1) dX6_sizeOf_29 rfl (by decide) ?_
          refine go_goto (z := 34) dX6_sizeOf_30 (by decide) ?_
          refine go_iadd (z := 35) dX6_sizeOf_34 rfl ?_
          refine go_st ?_ (step _)
          have : subP s o c = true := by
            unfold subP aliP
            rw [decide_eq_true h1, b2i_ne h2, Bool.true_and]
          rw [e, this, ← nI_add]
          rfl
  refine go_iconst (z := 1) (v := 0) dX6_sizeOf_0 rfl (by decide) ?_
  refine go_istore_n (z := 2) dX6_sizeOf_1 rfl (by decide) ?_
  refine go_iconst (z := 3) (v := 0) dX6_sizeOf_2 rfl (by decide) ?_
  refine go_istore_n (z := 4) dX6_sizeOf_3 rfl (by decide) ?_
  exact loop 80 0 rfl
theorem c_mUnderWay (hX : MoX G n M r) : Go l G mX6_underWay 1 0 0 0 (lentry [.ref M] 3) [] n (upr i (M + 1) s) r (RetI (nI (cntF (aliP s) 80)) n (upr i (M + 1) s) r) := by
  obtain ⟨hM, -, -⟩ := id hX
  have loop : ∀ d c, c + d = 80 → Go l G mX6_underWay 1 0 0 4 [some (.ref M), some (.int (nI (cntF (aliP s) c))), some (.int (nI c))] [] n (upr i (M + 1) s) r (RetI (nI (cntF (aliP s) 80)) n (upr i (M + 1) s) r) := by
    intro d
    induction d with
    | zero =>
      intro c hc
      have hc : c = 80 := by omega
      subst hc
      refine go_iload_n (z := 5) dX6_underWay_4 rfl rfl ?_
      refine go_bipush (z := 7) (v := 80) dX6_underWay_5 rfl (by decide) ?_
      refine go_icmp_ge (z := 33) (z2 := 10) dX6_underWay_7 rfl (by decide) (fun _ => ?_) (fun h => absurd (by decide) h)
      refine go_iload_n (z := 34) dX6_underWay_33 rfl rfl ?_
      exact go_iret dX6_underWay_34 rfl ret_ok
    | succ d ih =>
      intro c hc
      have e : cntF (aliP s) (c + 1) = cntF (aliP s) c + if aliP s c = true then 1 else 0 := rfl
      have step : ∀ f : Option Value, Go l G mX6_underWay 1 0 0 26 [some (.ref M), f, some (.int (nI c))] [.int (nI (cntF (aliP s) (c + 1)))] n (upr i (M + 1) s) r (RetI (nI (cntF (aliP s) 80)) n (upr i (M + 1) s) r) := by
        intro f
        refine go_istore_n (z := 27) dX6_underWay_26 rfl (by decide) ?_
        refine go_iinc (z := 30) dX6_underWay_27 rfl rfl (nI_1 c) (by decide) ?_
        refine go_goto (z := 4) dX6_underWay_30 (by decide) ?_
        exact ih (c + 1) (by omega)
      refine go_iload_n (z := 5) dX6_underWay_4 rfl rfl ?_
      refine go_bipush (z := 7) (v := 80) dX6_underWay_5 rfl (by decide) ?_
      refine go_icmp_ge (z := 33) (z2 := 10) dX6_underWay_7 rfl (by decide) (fun h => absurd ((nI_leI (a := 80) (by omega) (by omega)).mp h) (by omega)) (fun _ => ?_)
      refine go_iload_n (z := 11) dX6_underWay_10 rfl rfl ?_
      refine go_aload_n (z := 12) dX6_underWay_11 rfl rfl ?_
      refine go_iload_n (z := 13) dX6_underWay_12 rfl rfl ?_
      refine go_iconst (z := 14) (v := 4) dX6_underWay_13 rfl (by decide) ?_
      refine go_callV (z := 17) (t := 6) [.int (nI c), .int (nI 4)] dX6_underWay_14 rfl mlX6_ofErrand vX6_39 ⟨by decide, rfl⟩ hM rfl rfl (by decide) (cat_i (cat_i cat_nil)) (by simp) (by decide) (by first | decide | omega) (by first | decide | omega) (c_mOfErrand hX (by omega) (by omega)) ?_
      refine ret_elim ?_
      refine go_if_le (z := 24) (z2 := 20) dX6_underWay_17 rfl (by decide) (fun h1 => ?_) (fun h1 => ?_)
      · refine go_iconst (z := 25) (v := 0) dX6_underWay_24 rfl (by decide) ?_
        refine go_iadd (z := 26) dX6_underWay_25 rfl ?_
        refine go_st ?_ (step _)
        rw [e, show aliP s c = false from decide_eq_false (Int32.not_lt.mpr h1), ← nI_add]
        rfl
      · refine go_iconst (z := 21) (v := 1) dX6_underWay_20 rfl (by decide) ?_
        refine go_goto (z := 25) dX6_underWay_21 (by decide) ?_
        refine go_iadd (z := 26) dX6_underWay_25 rfl ?_
        refine go_st ?_ (step _)
        rw [e, show aliP s c = true from decide_eq_true (Int32.not_le.mp h1), ← nI_add]
        rfl
  refine go_iconst (z := 1) (v := 0) dX6_underWay_0 rfl (by decide) ?_
  refine go_istore_n (z := 2) dX6_underWay_1 rfl (by decide) ?_
  refine go_iconst (z := 3) (v := 0) dX6_underWay_2 rfl (by decide) ?_
  refine go_istore_n (z := 4) dX6_underWay_3 rfl (by decide) ?_
  exact loop 80 0 rfl
theorem uE_o {e w e' w' : Nat} {x : Int32} (hw : w < 5) (hw' : w' < 5) (h : ¬ (e' = e ∧ w' = w)) : eF (uE s e w x) e' w' = eF s e' w' := up1_n (by omega)
theorem uE_s {e w : Nat} {x : Int32} : eF (uE s e w x) e w = x := up1_s
theorem uE_z {e w k : Nat} {x : Int32} (hk : k < 108) : uE s e w x k = s k := up1_n (by omega)
theorem wthF_congr {s' : Nat → Int32} (h : ∀ e, e < 80 → eF s' e 2 = eF s e 2) (hU : upOk s) {o : Nat} (f : Nat) : ∀ u, u ≤ 80 → wthF s' o f u = wthF s o f u := by
  induction f with
  | zero => intro u _; rfl
  | succ f ih =>
    intro u hu
    show (if u = 0 then false else if u - 1 = o then true else wthF s' o f (eF s' (u - 1) 2).toNatClampNeg) = (if u = 0 then false else if u - 1 = o then true else wthF s o f (eF s (u - 1) 2).toNatClampNeg)
    by_cases h0 : u = 0
    · rw [if_pos h0, if_pos h0]
    · obtain ⟨w, hw, e⟩ := hU (u - 1) (by omega)
      rw [h (u - 1) (by omega), e, nI_clamp (by omega), ih w (by omega)]
theorem wth_congr {s' : Nat → Int32} (h : ∀ e, e < 80 → eF s' e 2 = eF s e 2) (hU : upOk s) {o u : Nat} (hu : u ≤ 80) : wth s' o u = wth s o u := wthF_congr h hU u u hu
theorem upOk.congr {s' : Nat → Int32} (hU : upOk s) (h : ∀ e, e < 80 → eF s' e 2 = eF s e 2) : upOk s' := fun e he => by rw [h e he]; exact hU e he
def drpP (s : Nat → Int32) (o e : Nat) : Bool := decide (e ≠ o) && subP s o e
def drpF (s : Nat → Int32) (o : Nat) : Nat → Nat → Int32
  | 0 => s
  | c + 1 => if drpP s o c = true then uE (drpF s o c) c 4 0 else drpF s o c
def rDrop (s : Nat → Int32) (o : Nat) : Nat → Int32 := uE (drpF s o 80) o 4 0
theorem drp_same {o : Nat} (c : Nat) : (∀ e w, w < 4 → eF (drpF s o c) e w = eF s e w) ∧ (∀ e, c ≤ e → eF (drpF s o c) e 4 = eF s e 4) ∧ (∀ k, k < 108 ∨ 508 ≤ k → c ≤ 80 → drpF s o c k = s k) ∧ (∀ e, e < c → eF (drpF s o c) e 4 = if drpP s o e = true then 0 else eF s e 4) := by
  induction c with
  | zero => exact ⟨fun _ _ _ => rfl, fun _ _ => rfl, fun _ _ _ => rfl, fun e h => absurd h (Nat.not_lt_zero e)⟩
  | succ c ih =>
    obtain ⟨h1, h2, h3, h4⟩ := ih
    have e : drpF s o (c + 1) = if drpP s o c = true then uE (drpF s o c) c 4 0 else drpF s o c := rfl
    rw [e]
    by_cases hp : drpP s o c = true
    · rw [if_pos hp]
      refine ⟨fun q w hw => ?_, fun q hq => ?_, fun k hk hc => ?_, fun q hq => ?_⟩
      · rw [uE_o (by omega) (by omega) (by omega)]; exact h1 q w hw
      · rw [uE_o (by omega) (by omega) (by omega)]; exact h2 q (by omega)
      · show up1 (drpF s o c) (108 + 5 * c + 4) 0 k = s k
        rw [up1_n (by omega)]; exact h3 k hk (by omega)
      · by_cases hqc : q = c
        · subst hqc
          rw [uE_s, if_pos hp]
        · rw [uE_o (by omega) (by omega) (by omega)]; exact h4 q (by omega)
    · rw [if_neg hp]
      refine ⟨h1, fun q hq => h2 q (by omega), fun k hk hc => h3 k hk (by omega), fun q hq => ?_⟩
      by_cases hqc : q = c
      · subst hqc
        rw [if_neg hp]; exact h2 q (Nat.le_refl _)
      · exact h4 q (by omega)
theorem c_mDrop {o : Nat} (hX : MoX G n M r) (hU : upOk s) (ho : o < 80) : Go l G mX6_drop 2 0 0 0 (lentry [.ref M, .int (nI o)] 4) [] n (upr i (M + 1) s) r (Ret none n (upr i (M + 1) (rDrop s o)) r) := by
  obtain ⟨hM, -, -⟩ := id hX
  have loop : ∀ d c o3, c + d = 80 → Go l G mX6_drop 2 0 0 2 [some (.ref M), some (.int (nI o)), some (.int (nI c)), o3] [] n (upr i (M + 1) (drpF s o c)) r (Ret none n (upr i (M + 1) (rDrop s o)) r) := by
    intro d
    induction d with
    | zero =>
      intro c o3 hc
      have hc : c = 80 := by omega
      subst hc
      refine go_iload_n (z := 3) dX6_drop_2 rfl rfl ?_
      refine go_bipush (z := 5) (v := 80) dX6_drop_3 rfl (by decide) ?_
      refine go_icmp_ge (z := 54) (z2 := 8) dX6_drop_5 rfl (by decide) (fun _ => ?_) (fun h => absurd (by decide) h)
      refine go_aload_n (z := 55) dX6_drop_54 rfl rfl ?_
      refine go_iload_n (z := 56) dX6_drop_55 rfl rfl ?_
      refine go_iconst (z := 57) (v := 4) dX6_drop_56 rfl (by decide) ?_
      refine go_iconst (z := 58) (v := 0) dX6_drop_57 rfl (by decide) ?_
      refine go_callV (z := 61) (t := 6) [.int (nI o), .int (nI 4), .int 0] dX6_drop_58 rfl mlX6_setErrand vX6_53 ⟨by decide, rfl⟩ hM rfl rfl (by decide) (cat_i (cat_i (cat_i cat_nil))) (by simp) (by decide) (by first | decide | omega) (by first | decide | omega) (c_mSetErrand hX ho (by omega)) ?_
      refine ret_elim ?_
      exact go_vret dX6_drop_61 rfl ret_ok
    | succ d ih =>
      intro c o3 hc
      have e : drpF s o (c + 1) = if drpP s o c = true then uE (drpF s o c) c 4 0 else drpF s o c := rfl
      obtain ⟨d1, d2, d3, d4⟩ := drp_same (s := s) (o := o) c
      have hU' : upOk (drpF s o c) := hU.congr (fun q _ => d1 q 2 (by omega))
      have no : drpP s o c = false → ∀ f, Go l G mX6_drop 2 0 0 35 [some (.ref M), some (.int (nI o)), some (.int (nI c)), f] [] n (upr i (M + 1) (drpF s o c)) r (Ret none n (upr i (M + 1) (rDrop s o)) r) := by
        intro h f
        refine go_iconst (z := 36) (v := 0) dX6_drop_35 rfl (by decide) ?_
        refine go_istore_n (z := 37) dX6_drop_36 rfl (by decide) ?_
        refine go_iload_n (z := 38) dX6_drop_37 rfl rfl ?_
        refine go_if_eq (z := 48) (z2 := 41) dX6_drop_38 rfl (by decide) (fun _ => ?_) (fun h => absurd rfl h)
        refine go_iinc (z := 51) dX6_drop_48 rfl rfl (nI_1 c) (by decide) ?_
        refine go_goto (z := 2) dX6_drop_51 (by decide) ?_
        have := ih (c + 1) (some (.int 0)) (by omega)
        rw [e, h] at this
        exact this
      refine go_iload_n (z := 3) dX6_drop_2 rfl rfl ?_
      refine go_bipush (z := 5) (v := 80) dX6_drop_3 rfl (by decide) ?_
      refine go_icmp_ge (z := 54) (z2 := 8) dX6_drop_5 rfl (by decide) (fun h => absurd ((nI_leI (a := 80) (by omega) (by omega)).mp h) (by omega)) (fun _ => ?_)
      refine go_iload_n (z := 9) dX6_drop_8 rfl rfl ?_
      refine go_iload_n (z := 10) dX6_drop_9 rfl rfl ?_
      refine go_icmp_eq (z := 35) (z2 := 13) dX6_drop_10 rfl (by decide) (fun h => no ?_ _) (fun h => ?_)
      · have hq : c = o := (nI_eq (by omega) (by omega)).mp h
        unfold drpP
        rw [decide_eq_false (fun q => q hq), Bool.false_and]
      · have hq : c ≠ o := fun q => h (by rw [q])
        refine go_aload_n (z := 14) dX6_drop_13 rfl rfl ?_
        refine go_iload_n (z := 15) dX6_drop_14 rfl rfl ?_
        refine go_iconst (z := 16) (v := 4) dX6_drop_15 rfl (by decide) ?_
        refine go_callV (z := 19) (t := 6) [.int (nI c), .int (nI 4)] dX6_drop_16 rfl mlX6_ofErrand vX6_39 ⟨by decide, rfl⟩ hM rfl rfl (by decide) (cat_i (cat_i cat_nil)) (by simp) (by decide) (by first | decide | omega) (by first | decide | omega) (c_mOfErrand hX (by omega) (by omega)) ?_
        refine ret_elim ?_
        rw [d2 c (Nat.le_refl _)]
        refine go_if_le (z := 35) (z2 := 22) dX6_drop_19 rfl (by decide) (fun h1 => no ?_ _) (fun h1 => ?_)
        · unfold drpP subP aliP
          rw [decide_eq_false (Int32.not_lt.mpr h1), Bool.false_and, Bool.and_false]
        · have h1 : 0 < eF s c 4 := Int32.not_le.mp h1
          refine go_aload_n (z := 23) dX6_drop_22 rfl rfl ?_
          refine go_iload_n (z := 24) dX6_drop_23 rfl rfl ?_
          refine go_iload_n (z := 25) dX6_drop_24 rfl rfl ?_
          refine go_callV (z := 28) (t := 6) [.int (nI c), .int (nI o)] dX6_drop_25 rfl mlX6_isWithin vX6_49 ⟨by decide, rfl⟩ hM rfl rfl (by decide) (cat_i (cat_i cat_nil)) (by simp) (by decide) (by first | decide | omega) (by first | decide | omega) (c_mWithin hX hU' (by omega) ho) ?_
          refine ret_elim ?_
          rw [wth_congr (fun q _ => d1 q 2 (by omega)) hU (by omega)]
          refine go_if_eq (z := 35) (z2 := 31) dX6_drop_28 rfl (by decide) (fun h2 => no ?_ _) (fun h2 => ?_)
          · unfold drpP subP
            rw [b2i_eq h2, Bool.and_false, Bool.and_false]
          · have hp : drpP s o c = true := by
              unfold drpP subP aliP
              rw [decide_eq_true hq, decide_eq_true h1, b2i_ne h2]
              rfl
            rw [if_pos hp] at e
            refine go_iconst (z := 32) (v := 1) dX6_drop_31 rfl (by decide) ?_
            refine go_goto (z := 36) dX6_drop_32 (by decide) ?_
            refine go_istore_n (z := 37) dX6_drop_36 rfl (by decide) ?_
            refine go_iload_n (z := 38) dX6_drop_37 rfl rfl ?_
            refine go_if_eq (z := 48) (z2 := 41) dX6_drop_38 rfl (by decide) (fun h => absurd h (by decide)) (fun _ => ?_)
            refine go_aload_n (z := 42) dX6_drop_41 rfl rfl ?_
            refine go_iload_n (z := 43) dX6_drop_42 rfl rfl ?_
            refine go_iconst (z := 44) (v := 4) dX6_drop_43 rfl (by decide) ?_
            refine go_iconst (z := 45) (v := 0) dX6_drop_44 rfl (by decide) ?_
            refine go_callV (z := 48) (t := 6) [.int (nI c), .int (nI 4), .int 0] dX6_drop_45 rfl mlX6_setErrand vX6_53 ⟨by decide, rfl⟩ hM rfl rfl (by decide) (cat_i (cat_i (cat_i cat_nil))) (by simp) (by decide) (by first | decide | omega) (by first | decide | omega) (c_mSetErrand hX (by omega) (by omega)) ?_
            refine ret_elim ?_
            refine go_iinc (z := 51) dX6_drop_48 rfl rfl (nI_1 c) (by decide) ?_
            refine go_goto (z := 2) dX6_drop_51 (by decide) ?_
            have := ih (c + 1) (some (.int 1)) (by omega)
            rw [e] at this
            exact this
  refine go_iconst (z := 1) (v := 0) dX6_drop_0 rfl (by decide) ?_
  refine go_istore_n (z := 2) dX6_drop_1 rfl (by decide) ?_
  exact loop 80 0 _ rfl
def rkP (s : Nat → Int32) (m k : Nat) : Bool := decide (gF s k 4 - gF s m 4 < 0 ∨ (gF s k 4 - gF s m 4 = 0 ∧ k < m))
def rkd (s : Nat → Int32) (c : Nat) (x : Int32) : Option Nat := fndF (fun m => decide (nI (cntF (rkP s m) c) = x)) c 0
theorem c_mRanked {x : Int32} {c : Nat} (hX : MoX G n M r) (hc4 : s 4 = nI c) (hc : c ≤ 144) : Go l G mX6_ranked 1 0 0 0 (lentry [.ref M, .int x] 6) [] n (upr i (M + 1) s) r (RetI (o2i (rkd s c x)) n (upr i (M + 1) s) r) := by
  obtain ⟨hM, hr0, hs⟩ := id hX
  have loop : ∀ d m o3 o4 o5, m + d = c → Go l G mX6_ranked 1 0 0 2 [some (.ref M), some (.int x), some (.int (nI m)), o3, o4, o5] [] n (upr i (M + 1) s) r (RetI (o2i (fndF (fun m => decide (nI (cntF (rkP s m) c) = x)) d m)) n (upr i (M + 1) s) r) := by
    intro d
    induction d with
    | zero =>
      intro m o3 o4 o5 hm
      have hm : m = c := by omega
      subst hm
      refine go_iload_n (z := 3) dX6_ranked_2 rfl rfl ?_
      refine go_aload_n (z := 4) dX6_ranked_3 rfl rfl ?_
      refine go_getR (z := 7) dX6_ranked_4 rfl fX6_7 (by assumption) rfl (by assumption) ?_
      refine go_iconst (z := 8) (v := 4) dX6_ranked_7 rfl (by decide) ?_
      refine go_ialdM (z := 9) 4 (by assumption) (by decide) rfl (by omega) dX6_ranked_8 rfl ?_
      rw [hc4]
      refine go_icmp_ge (z := 87) (z2 := 12) dX6_ranked_9 rfl (by decide) (fun _ => ?_) (fun h => absurd (Int32.le_refl _) h)
      refine go_bipush (z := 89) (v := (-5)) dX6_ranked_87 rfl (by decide) ?_
      exact go_iret dX6_ranked_89 rfl ret_ok
    | succ d ih =>
      intro m o3 o4 o5 hm
      have e : fndF (fun m => decide (nI (cntF (rkP s m) c) = x)) (d + 1) m = if decide (nI (cntF (rkP s m) c) = x) = true then some m else fndF (fun m => decide (nI (cntF (rkP s m) c) = x)) d (m + 1) := rfl
      have inner : ∀ d' k o5, k + d' = c → Go l G mX6_ranked 1 0 0 17 [some (.ref M), some (.int x), some (.int (nI m)), some (.int (nI (cntF (rkP s m) k))), some (.int (nI k)), o5] [] n (upr i (M + 1) s) r (RetI (o2i (fndF (fun m => decide (nI (cntF (rkP s m) c) = x)) (d + 1) m)) n (upr i (M + 1) s) r) := by
        intro d'
        induction d' with
        | zero =>
          intro k o5 hk
          have hk : k = c := by omega
          subst hk
          refine go_iload (z := 19) dX6_ranked_17 rfl rfl ?_
          refine go_aload_n (z := 20) dX6_ranked_19 rfl rfl ?_
          refine go_getR (z := 23) dX6_ranked_20 rfl fX6_7 (by assumption) rfl (by assumption) ?_
          refine go_iconst (z := 24) (v := 4) dX6_ranked_23 rfl (by decide) ?_
          refine go_ialdM (z := 25) 4 (by assumption) (by decide) rfl (by omega) dX6_ranked_24 rfl ?_
          rw [hc4]
          refine go_icmp_ge (z := 74) (z2 := 28) dX6_ranked_25 rfl (by decide) (fun _ => ?_) (fun h => absurd (Int32.le_refl _) h)
          refine go_iload_n (z := 75) dX6_ranked_74 rfl rfl ?_
          refine go_iload_n (z := 76) dX6_ranked_75 rfl rfl ?_
          refine go_icmp_ne (z := 81) (z2 := 79) dX6_ranked_76 rfl (by decide) (fun h => ?_) (fun h => ?_)
          · rw [e, decide_eq_false h, if_neg (by decide)]
            refine go_iinc (z := 84) dX6_ranked_81 rfl rfl (nI_1 m) (by decide) ?_
            refine go_goto (z := 2) dX6_ranked_84 (by decide) ?_
            exact ih (m + 1) _ _ _ (by omega)
          · rw [e, decide_eq_true h, if_pos rfl]
            refine go_iload_n (z := 80) dX6_ranked_79 rfl rfl ?_
            exact go_iret dX6_ranked_80 rfl ret_ok
        | succ d' ih' =>
          intro k o5 hk
          have e' : cntF (rkP s m) (k + 1) = cntF (rkP s m) k + if rkP s m k = true then 1 else 0 := rfl
          have step : ∀ (f o5 : Option Value), Go l G mX6_ranked 1 0 0 67 [some (.ref M), some (.int x), some (.int (nI m)), f, some (.int (nI k)), o5] [.int (nI (cntF (rkP s m) (k + 1)))] n (upr i (M + 1) s) r (RetI (o2i (fndF (fun m => decide (nI (cntF (rkP s m) c) = x)) (d + 1) m)) n (upr i (M + 1) s) r) := by
            intro f o5
            refine go_istore_n (z := 68) dX6_ranked_67 rfl (by decide) ?_
            refine go_iinc (z := 71) dX6_ranked_68 rfl rfl (nI_1 k) (by decide) ?_
            refine go_goto (z := 17) dX6_ranked_71 (by decide) ?_
            exact ih' (k + 1) _ (by omega)
          have yes : rkP s m k = true → ∀ f o5, Go l G mX6_ranked 1 0 0 61 [some (.ref M), some (.int x), some (.int (nI m)), f, some (.int (nI k)), o5] [.int (nI (cntF (rkP s m) k))] n (upr i (M + 1) s) r (RetI (o2i (fndF (fun m => decide (nI (cntF (rkP s m) c) = x)) (d + 1) m)) n (upr i (M + 1) s) r) := by
            intro h f o5
            refine go_iconst (z := 62) (v := 1) dX6_ranked_61 rfl (by decide) ?_
            refine go_goto (z := 66) dX6_ranked_62 (by decide) ?_
            refine go_iadd (z := 67) dX6_ranked_66 rfl ?_
            refine go_st ?_ (step _ _)
            rw [e', h, ← nI_add]
            rfl
          have no : ¬ rkP s m k = true → ∀ f o5, Go l G mX6_ranked 1 0 0 65 [some (.ref M), some (.int x), some (.int (nI m)), f, some (.int (nI k)), o5] [.int (nI (cntF (rkP s m) k))] n (upr i (M + 1) s) r (RetI (o2i (fndF (fun m => decide (nI (cntF (rkP s m) c) = x)) (d + 1) m)) n (upr i (M + 1) s) r) := by
            intro h f o5
            refine go_iconst (z := 66) (v := 0) dX6_ranked_65 rfl (by decide) ?_
            refine go_iadd (z := 67) dX6_ranked_66 rfl ?_
            refine go_st ?_ (step _ _)
            rw [e', if_neg h, ← nI_add]
            rfl
          refine go_iload (z := 19) dX6_ranked_17 rfl rfl ?_
          refine go_aload_n (z := 20) dX6_ranked_19 rfl rfl ?_
          refine go_getR (z := 23) dX6_ranked_20 rfl fX6_7 (by assumption) rfl (by assumption) ?_
          refine go_iconst (z := 24) (v := 4) dX6_ranked_23 rfl (by decide) ?_
          refine go_ialdM (z := 25) 4 (by assumption) (by decide) rfl (by omega) dX6_ranked_24 rfl ?_
          rw [hc4]
          refine go_icmp_ge (z := 74) (z2 := 28) dX6_ranked_25 rfl (by decide) (fun h => absurd ((nI_leI (by omega) (by omega)).mp h) (by omega)) (fun _ => ?_)
          refine go_aload_n (z := 29) dX6_ranked_28 rfl rfl ?_
          refine go_iload (z := 31) dX6_ranked_29 rfl rfl ?_
          refine go_iconst (z := 32) (v := 4) dX6_ranked_31 rfl (by decide) ?_
          refine go_callV (z := 35) (t := 6) [.int (nI k), .int (nI 4)] dX6_ranked_32 rfl mlX6_ofMessage vX6_60 ⟨by decide, rfl⟩ hM rfl rfl (by decide) (cat_i (cat_i cat_nil)) (by simp) (by decide) (by first | decide | omega) (by first | decide | omega) (c_mOfMsg hX (by omega) (by omega)) ?_
          refine ret_elim ?_
          refine go_aload_n (z := 36) dX6_ranked_35 rfl rfl ?_
          refine go_iload_n (z := 37) dX6_ranked_36 rfl rfl ?_
          refine go_iconst (z := 38) (v := 4) dX6_ranked_37 rfl (by decide) ?_
          refine go_callV (z := 41) (t := 6) [.int (nI m), .int (nI 4)] dX6_ranked_38 rfl mlX6_ofMessage vX6_60 ⟨by decide, rfl⟩ hM rfl rfl (by decide) (cat_i (cat_i cat_nil)) (by simp) (by decide) (by first | decide | omega) (by first | decide | omega) (c_mOfMsg hX (by omega) (by omega)) ?_
          refine ret_elim ?_
          refine go_isub (z := 42) dX6_ranked_41 rfl ?_
          refine go_istore (z := 44) dX6_ranked_42 rfl (by decide) ?_
          refine go_iload_n (z := 45) dX6_ranked_44 rfl rfl ?_
          refine go_iload (z := 47) dX6_ranked_45 rfl rfl ?_
          refine go_if_lt (z := 61) (z2 := 50) dX6_ranked_47 rfl (by decide) (fun h1 => yes (decide_eq_true (Or.inl h1)) _ _) (fun h1 => ?_)
          refine go_iload (z := 52) dX6_ranked_50 rfl rfl ?_
          refine go_if_ne (z := 65) (z2 := 55) dX6_ranked_52 rfl (by decide) (fun h2 => no (fun q => by
            rcases of_decide_eq_true q with q | q
            · exact h1 q
            · exact h2 q.1) _ _) (fun h2 => ?_)
          refine go_iload (z := 57) dX6_ranked_55 rfl rfl ?_
          refine go_iload_n (z := 58) dX6_ranked_57 rfl rfl ?_
          refine go_icmp_ge (z := 65) (z2 := 61) dX6_ranked_58 rfl (by decide) (fun h3 => no (fun q => by
            rcases of_decide_eq_true q with q | q
            · exact h1 q
            · have := (nI_leI (by omega) (by omega)).mp h3
              omega) _ _) (fun h3 => yes (decide_eq_true (Or.inr ⟨h2, ?_⟩)) _ _)
          have := (nI_ltI (by omega) (by omega)).mp (Int32.not_le.mp h3)
          exact this
      refine go_iload_n (z := 3) dX6_ranked_2 rfl rfl ?_
      refine go_aload_n (z := 4) dX6_ranked_3 rfl rfl ?_
      refine go_getR (z := 7) dX6_ranked_4 rfl fX6_7 (by assumption) rfl (by assumption) ?_
      refine go_iconst (z := 8) (v := 4) dX6_ranked_7 rfl (by decide) ?_
      refine go_ialdM (z := 9) 4 (by assumption) (by decide) rfl (by omega) dX6_ranked_8 rfl ?_
      rw [hc4]
      refine go_icmp_ge (z := 87) (z2 := 12) dX6_ranked_9 rfl (by decide) (fun h => absurd ((nI_leI (by omega) (by omega)).mp h) (by omega)) (fun _ => ?_)
      refine go_iconst (z := 13) (v := 0) dX6_ranked_12 rfl (by decide) ?_
      refine go_istore_n (z := 14) dX6_ranked_13 rfl (by decide) ?_
      refine go_iconst (z := 15) (v := 0) dX6_ranked_14 rfl (by decide) ?_
      refine go_istore (z := 17) dX6_ranked_15 rfl (by decide) ?_
      exact inner c 0 _ (by omega)
  refine go_iconst (z := 1) (v := 0) dX6_ranked_0 rfl (by decide) ?_
  refine go_istore_n (z := 2) dX6_ranked_1 rfl (by decide) ?_
  exact loop c 0 _ _ _ (by omega)
def wtP (s : Nat → Int32) (w : Int32) (e k : Nat) : Bool := decide (eF s k 4 = w ∧ eF s k 3 < eF s e 3)
def wtE (s : Nat → Int32) (w x : Int32) (e : Nat) : Bool := decide (eF s e 4 = w ∧ nI (cntF (wtP s w e) 80) = x)
def wtd (s : Nat → Int32) (w x : Int32) : Option Nat := fndF (wtE s w x) 80 0
theorem c_mWaitAt {x : Int32} {h : Nat} (hX : MoX G n M r) : Go l G mX6_waitingAt 1 0 0 0 (lentry [.ref M, .int (nI h), .int x] 6) [] n (upr i (M + 1) s) r (RetI (o2i (wtd s (nI (h + 1)) x)) n (upr i (M + 1) s) r) := by
  obtain ⟨hM, hr0, hs⟩ := id hX
  have loop : ∀ d m o3 o4, m + d = 80 → Go l G mX6_waitingAt 1 0 0 2 [some (.ref M), some (.int (nI h)), some (.int x), some (.int (nI m)), o3, o4] [] n (upr i (M + 1) s) r (RetI (o2i (fndF (wtE s (nI (h + 1)) x) d m)) n (upr i (M + 1) s) r) := by
    intro d
    induction d with
    | zero =>
      intro m o3 o4 hm
      have hm : m = 80 := by omega
      subst hm
      refine go_iload_n (z := 3) dX6_waitingAt_2 rfl rfl ?_
      refine go_bipush (z := 5) (v := 80) dX6_waitingAt_3 rfl (by decide) ?_
      refine go_icmp_ge (z := 92) (z2 := 8) dX6_waitingAt_5 rfl (by decide) (fun _ => ?_) (fun h => absurd (by decide) h)
      refine go_bipush (z := 94) (v := (-5)) dX6_waitingAt_92 rfl (by decide) ?_
      exact go_iret dX6_waitingAt_94 rfl ret_ok
    | succ d ih =>
      intro m o3 o4 hm
      have e : fndF (wtE s (nI (h + 1)) x) (d + 1) m = if wtE s (nI (h + 1)) x m = true then some m else fndF (wtE s (nI (h + 1)) x) d (m + 1) := rfl
      have next : ¬ wtE s (nI (h + 1)) x m = true → ∀ o3 o4, Go l G mX6_waitingAt 1 0 0 86 [some (.ref M), some (.int (nI h)), some (.int x), some (.int (nI m)), o3, o4] [] n (upr i (M + 1) s) r (RetI (o2i (fndF (wtE s (nI (h + 1)) x) (d + 1) m)) n (upr i (M + 1) s) r) := by
        intro hn o3 o4
        rw [e, if_neg hn]
        refine go_iinc (z := 89) dX6_waitingAt_86 rfl rfl (nI_1 m) (by decide) ?_
        refine go_goto (z := 2) dX6_waitingAt_89 (by decide) ?_
        exact ih (m + 1) _ _ (by omega)
      have inner : eF s m 4 = nI (h + 1) → ∀ d' k, k + d' = 80 → Go l G mX6_waitingAt 1 0 0 26 [some (.ref M), some (.int (nI h)), some (.int x), some (.int (nI m)), some (.int (nI (cntF (wtP s (nI (h + 1)) m) k))), some (.int (nI k))] [] n (upr i (M + 1) s) r (RetI (o2i (fndF (wtE s (nI (h + 1)) x) (d + 1) m)) n (upr i (M + 1) s) r) := by
        intro hm4 d'
        induction d' with
        | zero =>
          intro k hk
          have hk : k = 80 := by omega
          subst hk
          refine go_iload (z := 28) dX6_waitingAt_26 rfl rfl ?_
          refine go_bipush (z := 30) (v := 80) dX6_waitingAt_28 rfl (by decide) ?_
          refine go_icmp_ge (z := 78) (z2 := 33) dX6_waitingAt_30 rfl (by decide) (fun _ => ?_) (fun h => absurd (by decide) h)
          refine go_iload (z := 80) dX6_waitingAt_78 rfl rfl ?_
          refine go_iload_n (z := 81) dX6_waitingAt_80 rfl rfl ?_
          refine go_icmp_ne (z := 86) (z2 := 84) dX6_waitingAt_81 rfl (by decide) (fun h => next (fun q => h (of_decide_eq_true q).2) _ _) (fun h => ?_)
          rw [e, if_pos (show wtE s (nI _) x m = true from decide_eq_true ⟨hm4, h⟩)]
          refine go_iload_n (z := 85) dX6_waitingAt_84 rfl rfl ?_
          exact go_iret dX6_waitingAt_85 rfl ret_ok
        | succ d' ih' =>
          intro k hk
          have e' : cntF (wtP s (nI (h + 1)) m) (k + 1) = cntF (wtP s (nI (h + 1)) m) k + if wtP s (nI (h + 1)) m k = true then 1 else 0 := rfl
          have step : ∀ (f : Option Value), Go l G mX6_waitingAt 1 0 0 70 [some (.ref M), some (.int (nI h)), some (.int x), some (.int (nI m)), f, some (.int (nI k))] [.int (nI (cntF (wtP s (nI (h + 1)) m) (k + 1)))] n (upr i (M + 1) s) r (RetI (o2i (fndF (wtE s (nI (h + 1)) x) (d + 1) m)) n (upr i (M + 1) s) r) := by
            intro f
            refine go_istore (z := 72) dX6_waitingAt_70 rfl (by decide) ?_
            refine go_iinc (z := 75) dX6_waitingAt_72 rfl rfl (nI_1 k) (by decide) ?_
            refine go_goto (z := 26) dX6_waitingAt_75 (by decide) ?_
            exact ih' (k + 1) (by omega)
          have no : ¬ wtP s (nI (h + 1)) m k = true → ∀ f, Go l G mX6_waitingAt 1 0 0 68 [some (.ref M), some (.int (nI h)), some (.int x), some (.int (nI m)), f, some (.int (nI k))] [.int (nI (cntF (wtP s (nI (h + 1)) m) k))] n (upr i (M + 1) s) r (RetI (o2i (fndF (wtE s (nI (h + 1)) x) (d + 1) m)) n (upr i (M + 1) s) r) := by
            intro hn f
            refine go_iconst (z := 69) (v := 0) dX6_waitingAt_68 rfl (by decide) ?_
            refine go_iadd (z := 70) dX6_waitingAt_69 rfl ?_
            refine go_st ?_ (step _)
            rw [e', if_neg hn]
            exact congrArg (fun v => [Value.int v]) (nI_add _ 0)
          refine go_iload (z := 28) dX6_waitingAt_26 rfl rfl ?_
          refine go_bipush (z := 30) (v := 80) dX6_waitingAt_28 rfl (by decide) ?_
          refine go_icmp_ge (z := 78) (z2 := 33) dX6_waitingAt_30 rfl (by decide) (fun h => absurd ((nI_leI (a := 80) (by omega) (by omega)).mp h) (by omega)) (fun _ => ?_)
          refine go_iload (z := 35) dX6_waitingAt_33 rfl rfl ?_
          refine go_aload_n (z := 36) dX6_waitingAt_35 rfl rfl ?_
          refine go_iload (z := 38) dX6_waitingAt_36 rfl rfl ?_
          refine go_iconst (z := 39) (v := 4) dX6_waitingAt_38 rfl (by decide) ?_
          refine go_callV (z := 42) (t := 6) [.int (nI k), .int (nI 4)] dX6_waitingAt_39 rfl mlX6_ofErrand vX6_39 ⟨by decide, rfl⟩ hM rfl rfl (by decide) (cat_i (cat_i cat_nil)) (by simp) (by decide) (by first | decide | omega) (by first | decide | omega) (c_mOfErrand hX (by omega) (by omega)) ?_
          refine ret_elim ?_
          refine go_iload_n (z := 43) dX6_waitingAt_42 rfl rfl ?_
          refine go_iconst (z := 44) (v := 1) dX6_waitingAt_43 rfl (by decide) ?_
          refine go_iadd (z := 45) dX6_waitingAt_44 rfl ?_
          refine go_st (st' := [.int (nI (h + 1)), .int (eF s k 4), .int (nI (cntF (wtP s (nI (h + 1)) m) k))]) (by rw [← nI_1]; rfl) ?_
          refine go_icmp_ne (z := 68) (z2 := 48) dX6_waitingAt_45 rfl (by decide) (fun h => no (fun q => h (of_decide_eq_true q).1) _) (fun h1 => ?_)
          refine go_aload_n (z := 49) dX6_waitingAt_48 rfl rfl ?_
          refine go_iload (z := 51) dX6_waitingAt_49 rfl rfl ?_
          refine go_iconst (z := 52) (v := 3) dX6_waitingAt_51 rfl (by decide) ?_
          refine go_callV (z := 55) (t := 6) [.int (nI k), .int (nI 3)] dX6_waitingAt_52 rfl mlX6_ofErrand vX6_39 ⟨by decide, rfl⟩ hM rfl rfl (by decide) (cat_i (cat_i cat_nil)) (by simp) (by decide) (by first | decide | omega) (by first | decide | omega) (c_mOfErrand hX (by omega) (by omega)) ?_
          refine ret_elim ?_
          refine go_aload_n (z := 56) dX6_waitingAt_55 rfl rfl ?_
          refine go_iload_n (z := 57) dX6_waitingAt_56 rfl rfl ?_
          refine go_iconst (z := 58) (v := 3) dX6_waitingAt_57 rfl (by decide) ?_
          refine go_callV (z := 61) (t := 6) [.int (nI m), .int (nI 3)] dX6_waitingAt_58 rfl mlX6_ofErrand vX6_39 ⟨by decide, rfl⟩ hM rfl rfl (by decide) (cat_i (cat_i cat_nil)) (by simp) (by decide) (by first | decide | omega) (by first | decide | omega) (c_mOfErrand hX (by omega) (by omega)) ?_
          refine ret_elim ?_
          refine go_icmp_ge (z := 68) (z2 := 64) dX6_waitingAt_61 rfl (by decide) (fun h => no (fun q => absurd (of_decide_eq_true q).2 (Int32.not_lt.mpr h)) _) (fun h2 => ?_)
          refine go_iconst (z := 65) (v := 1) dX6_waitingAt_64 rfl (by decide) ?_
          refine go_goto (z := 69) dX6_waitingAt_65 (by decide) ?_
          refine go_iadd (z := 70) dX6_waitingAt_69 rfl ?_
          refine go_st ?_ (step _)
          rw [e', if_pos (show wtP s (nI (h + 1)) m k = true from decide_eq_true ⟨h1, Int32.not_le.mp h2⟩)]
          exact congrArg (fun v => [Value.int v]) (nI_add _ 1)
      refine go_iload_n (z := 3) dX6_waitingAt_2 rfl rfl ?_
      refine go_bipush (z := 5) (v := 80) dX6_waitingAt_3 rfl (by decide) ?_
      refine go_icmp_ge (z := 92) (z2 := 8) dX6_waitingAt_5 rfl (by decide) (fun h => absurd ((nI_leI (a := 80) (by omega) (by omega)).mp h) (by omega)) (fun _ => ?_)
      refine go_aload_n (z := 9) dX6_waitingAt_8 rfl rfl ?_
      refine go_iload_n (z := 10) dX6_waitingAt_9 rfl rfl ?_
      refine go_iconst (z := 11) (v := 4) dX6_waitingAt_10 rfl (by decide) ?_
      refine go_callV (z := 14) (t := 6) [.int (nI m), .int (nI 4)] dX6_waitingAt_11 rfl mlX6_ofErrand vX6_39 ⟨by decide, rfl⟩ hM rfl rfl (by decide) (cat_i (cat_i cat_nil)) (by simp) (by decide) (by first | decide | omega) (by first | decide | omega) (c_mOfErrand hX (by omega) (by omega)) ?_
      refine ret_elim ?_
      refine go_iload_n (z := 15) dX6_waitingAt_14 rfl rfl ?_
      refine go_iconst (z := 16) (v := 1) dX6_waitingAt_15 rfl (by decide) ?_
      refine go_iadd (z := 17) dX6_waitingAt_16 rfl ?_
      refine go_st (st' := [.int (nI (h + 1)), .int (eF s m 4)]) (by rw [← nI_1]; rfl) ?_
      refine go_icmp_ne (z := 86) (z2 := 20) dX6_waitingAt_17 rfl (by decide) (fun h => next (fun q => h (of_decide_eq_true q).1) _ _) (fun h1 => ?_)
      refine go_iconst (z := 21) (v := 0) dX6_waitingAt_20 rfl (by decide) ?_
      refine go_istore (z := 23) dX6_waitingAt_21 rfl (by decide) ?_
      refine go_iconst (z := 24) (v := 0) dX6_waitingAt_23 rfl (by decide) ?_
      refine go_istore (z := 26) dX6_waitingAt_24 rfl (by decide) ?_
      exact inner h1 80 0 rfl
  refine go_iconst (z := 1) (v := 0) dX6_waitingAt_0 rfl (by decide) ?_
  refine go_istore_n (z := 2) dX6_waitingAt_1 rfl (by decide) ?_
  exact loop 80 0 _ _ rfl
end MCOUNT
