def gsum (ms : List Mg) : Int32 := ms.foldl (fun a x => a + x.1 3) 0
def hStuck (H : Nat → Int32) : Bool := decide (H 0 = 0 ∨ (H 2 = 0 ∧ ¬ H 4 = 0))
def allH (p : Nat → Bool) : Nat → Bool
  | 0 => true
  | c + 1 => allH p c && p c
def mStuck (m : MS) : Bool := allH (fun h => hStuck (m.2.2.1 h)) 6 && decide (m.2.2.2.2.length = 0)
def mAsked (m : MS) : Bool := !allH (fun h => decide (m.2.2.1 h 8 ≤ 0)) 6
def sumQ (E : EE) (Q : Nat → List Nat) : Nat → Nat
  | 0 => 0
  | c + 1 => sumQ E Q c + ((Q c).map E.2.2.1).sum
def sz (E : EE) : Option Nat → Nat
  | none => 0
  | some b => E.2.2.1 b
def sumM (E : EE) (ms : List Mg) : Nat := (ms.map (fun x => sz E x.2)).sum
def mAll (E : EE) (m : MS) : Nat := sumQ E m.2.2.2.1 6 + sumM E m.2.2.2.2
def tellS (m : MS) (x : Int32) : Int32 := if x.toInt = 0 then m.1 0 else if x.toInt = 1 then m.1 7 else if x.toInt = 2 then m.1 8 else if x.toInt = 3 then sumH m.2.2.1 1 6 else if x.toInt = 4 then gsum m.2.2.2.2 else if x.toInt = 5 then m.1 9 else if x.toInt = 6 then nI m.2.2.2.2.length else if x.toInt = 7 then cntB m.2.2.1 6 else if x.toInt = 8 then m.1 10 else if x.toInt = 9 then m.1 11 else if x.toInt = 10 then m.1 12 else if x.toInt = 11 then b2i (mQuiet m) else if x.toInt = 12 then b2i (mIdle m) else if x.toInt = 13 then m.1 1 else if x.toInt = 14 then m.1 2 else -2
theorem tellS_out {m : MS} {x : Int32} (h : x.toInt < 0 ∨ 14 < x.toInt) : tellS m x = -2 := by
  unfold tellS
  rw [if_neg (by omega), if_neg (by omega), if_neg (by omega), if_neg (by omega), if_neg (by omega), if_neg (by omega), if_neg (by omega), if_neg (by omega), if_neg (by omega), if_neg (by omega), if_neg (by omega), if_neg (by omega), if_neg (by omega), if_neg (by omega), if_neg (by omega)]
theorem eAll_sz (E : EE) (o : Option Nat) : eAll E o = nI (sz E o) := by cases o <;> rfl
theorem allH_false {p : Nat → Bool} {h : Nat} (hp : p h = false) : ∀ {n : Nat}, h < n → allH p n = false := by
  intro n
  induction n with
  | zero => intro q; omega
  | succ n ih =>
    intro q
    show (allH p n && p n) = false
    by_cases e : h = n
    · subst e; rw [hp]; simp
    · rw [ih (by omega)]; rfl
section STATE6
variable {l : Launch} {G : GG} {n : Nat} {i : IP} {r : RP} {S : Nat} {m : MS} {E : EE} {Gd : Nat → Prop}
theorem c_isQuiet (hL : StL G n S) (hR : Rep S m i r) : Go l G mX4_isQuiet 0 0 0 0 (lentry [.ref S] 1) [] n i r (RetI (b2i (mQuiet m)) n i r) := by
  have hs := hL.s
  have h7 : i S 7 = m.1 7 := hR.2.1 7 (by omega)
  have h8 : i S 8 = m.1 8 := hR.2.1 8 (by omega)
  refine go_aload_n (z := 1) dX4_isQuiet_0 rfl rfl ?_
  refine go_getI (z := 4) dX4_isQuiet_1 rfl fX4_61 (by assumption) rfl ?_
  refine go_aload_n (z := 5) dX4_isQuiet_4 rfl rfl ?_
  refine go_getI (z := 8) dX4_isQuiet_5 rfl fX4_64 (by assumption) rfl ?_
  refine go_icmp_ne (z := 15) (z2 := 11) dX4_isQuiet_8 rfl (by decide) (fun h8 => ?_) (fun h8 => ?_)
  · refine go_iconst (z := 16) (v := 0) dX4_isQuiet_15 rfl (by decide) ?_
    refine go_zret dX4_isQuiet_16 rfl (congrArg Value.int (by decide)) ?_
    exact ⟨by simp_all [b2i, mQuiet], rfl, rfl, rfl⟩
  · refine go_iconst (z := 12) (v := 1) dX4_isQuiet_11 rfl (by decide) ?_
    refine go_goto (z := 16) dX4_isQuiet_12 (by decide) ?_
    refine go_zret dX4_isQuiet_16 rfl (congrArg Value.int (by decide)) ?_
    exact ⟨by simp_all [b2i, mQuiet], rfl, rfl, rfl⟩
theorem c_busyHouses (hL : StL G n S) (hR : Rep S m i r) : Go l G mX4_busyHouses 0 0 0 0 (lentry [.ref S] 6) [] n i r (RetI (cntB m.2.2.1 6) n i r) := by
  have hs := hL.s
  have hhs := hL.hs
  have e4 := hR.1.2.1
  refine go_iconst (z := 1) (v := 0) dX4_busyHouses_0 rfl (by decide) ?_
  refine go_istore_n (z := 2) dX4_busyHouses_1 rfl (by decide) ?_
  refine go_aload_n (z := 3) dX4_busyHouses_2 rfl rfl ?_
  refine go_getR (z := 6) dX4_busyHouses_3 rfl fX4_24 (by assumption) rfl (by assumption) ?_
  refine go_astore_n (z := 7) dX4_busyHouses_6 rfl (by decide) ?_
  refine go_aload_n (z := 8) dX4_busyHouses_7 rfl rfl ?_
  refine go_alen (z := 9) (by assumption) (by decide) dX4_busyHouses_8 rfl ?_
  refine go_istore_n (z := 10) dX4_busyHouses_9 rfl (by decide) ?_
  refine go_iconst (z := 11) (v := 0) dX4_busyHouses_10 rfl (by decide) ?_
  refine go_istore (z := 13) dX4_busyHouses_11 rfl (by decide) ?_
  have loop : ∀ (d h : Nat) (lo5 : Option Value), h + d = 6 → Go l G mX4_busyHouses 0 0 0 13 [some (.ref S), some (.int (cntB m.2.2.1 h)), some (.ref (S + 2)), some (.int (nI 6)), some (.int (nI h)), lo5] [] n i r (RetI (cntB m.2.2.1 6) n i r) := by
    intro d
    induction d with
    | zero =>
      intro h lo5 hh
      have hh : h = 6 := by omega
      subst hh
      refine go_iload (z := 15) dX4_busyHouses_13 rfl rfl ?_
      refine go_iload_n (z := 16) dX4_busyHouses_15 rfl rfl ?_
      refine go_icmp_ge (z := 42) (z2 := 19) dX4_busyHouses_16 rfl (by decide) (fun _ => ?_) (fun h => absurd (by decide) h)
      refine go_iload_n (z := 43) dX4_busyHouses_42 rfl rfl ?_
      exact go_iret dX4_busyHouses_43 rfl ret_ok
    | succ d ih =>
      intro h lo5 hh
      have hh6 : h < 6 := by omega
      have eh := (hR.1.2.2.2 h hh6).1
      have hho := hL.ho hh6
      have hv0 : i (S + 4 + 2 * h) 0 = m.2.2.1 h 0 := hR.2.2.2.1 h hh6 0 (by omega)
      refine go_iload (z := 15) dX4_busyHouses_13 rfl rfl ?_
      refine go_iload_n (z := 16) dX4_busyHouses_15 rfl rfl ?_
      refine go_icmp_ge (z := 42) (z2 := 19) dX4_busyHouses_16 rfl (by decide) (fun q => absurd q (nI_ge hh6 (by omega))) (fun _ => ?_)
      refine go_aload_n (z := 20) dX4_busyHouses_19 rfl rfl ?_
      refine go_iload (z := 22) dX4_busyHouses_20 rfl rfl ?_
      refine go_aaldR (z := 23) _ (by assumption) ⟨by decide, by decide⟩ (by decide) rfl (by omega) (by assumption) dX4_busyHouses_22 rfl ?_
      refine go_astore (z := 25) dX4_busyHouses_23 rfl (by decide) ?_
      refine go_aload (z := 27) dX4_busyHouses_25 rfl rfl ?_
      refine go_getI (z := 30) dX4_busyHouses_27 rfl fX4_152 (by assumption) rfl ?_
      refine go_if_eq (z := 36) (z2 := 33) dX4_busyHouses_30 rfl (by decide) (fun hb => ?_) (fun hb => ?_)
      · rw [hv0] at hb
        refine go_iinc (z := 39) dX4_busyHouses_36 rfl rfl (nI_1 h) (by decide) ?_
        refine go_goto (z := 13) dX4_busyHouses_39 (by decide) ?_
        refine go_lo (lo' := [some (.ref S), some (.int (cntB m.2.2.1 (h + 1))), some (.ref (S + 2)), some (.int (nI 6)), some (.int (nI (h + 1))), some (.ref (S + 4 + 2 * h))]) ?_ (ih (h + 1) _ (by omega))
        have : cntB m.2.2.1 (h + 1) = cntB m.2.2.1 h := by show (if _ then _ else _) = _; rw [if_pos hb]
        rw [this]; rfl
      · rw [hv0] at hb
        refine go_iinc (z := 36) dX4_busyHouses_33 rfl rfl rfl (by decide) ?_
        refine go_iinc (z := 39) dX4_busyHouses_36 rfl rfl (nI_1 h) (by decide) ?_
        refine go_goto (z := 13) dX4_busyHouses_39 (by decide) ?_
        refine go_lo (lo' := [some (.ref S), some (.int (cntB m.2.2.1 (h + 1))), some (.ref (S + 2)), some (.int (nI 6)), some (.int (nI (h + 1))), some (.ref (S + 4 + 2 * h))]) ?_ (ih (h + 1) _ (by omega))
        have : cntB m.2.2.1 (h + 1) = cntB m.2.2.1 h + 1 := by show (if _ then _ else _) = _; rw [if_neg hb]
        rw [this]; rfl
  exact go_lo (lo' := [some (.ref S), some (.int (cntB m.2.2.1 0)), some (.ref (S + 2)), some (.int (nI 6)), some (.int (nI 0)), none]) rfl (loop 6 0 none (by omega))
theorem c_grainsInHouses (hL : StL G n S) (hR : Rep S m i r) : Go l G mX4_grainsInHouses 0 0 0 0 (lentry [.ref S] 6) [] n i r (RetI (sumH m.2.2.1 1 6) n i r) := by
  have hs := hL.s
  have hhs := hL.hs
  have e4 := hR.1.2.1
  refine go_iconst (z := 1) (v := 0) dX4_grainsInHouses_0 rfl (by decide) ?_
  refine go_istore_n (z := 2) dX4_grainsInHouses_1 rfl (by decide) ?_
  refine go_aload_n (z := 3) dX4_grainsInHouses_2 rfl rfl ?_
  refine go_getR (z := 6) dX4_grainsInHouses_3 rfl fX4_24 (by assumption) rfl (by assumption) ?_
  refine go_astore_n (z := 7) dX4_grainsInHouses_6 rfl (by decide) ?_
  refine go_aload_n (z := 8) dX4_grainsInHouses_7 rfl rfl ?_
  refine go_alen (z := 9) (by assumption) (by decide) dX4_grainsInHouses_8 rfl ?_
  refine go_istore_n (z := 10) dX4_grainsInHouses_9 rfl (by decide) ?_
  refine go_iconst (z := 11) (v := 0) dX4_grainsInHouses_10 rfl (by decide) ?_
  refine go_istore (z := 13) dX4_grainsInHouses_11 rfl (by decide) ?_
  have loop : ∀ (d h : Nat) (lo5 : Option Value), h + d = 6 → Go l G mX4_grainsInHouses 0 0 0 13 [some (.ref S), some (.int (sumH m.2.2.1 1 h)), some (.ref (S + 2)), some (.int (nI 6)), some (.int (nI h)), lo5] [] n i r (RetI (sumH m.2.2.1 1 6) n i r) := by
    intro d
    induction d with
    | zero =>
      intro h lo5 hh
      have hh : h = 6 := by omega
      subst hh
      refine go_iload (z := 15) dX4_grainsInHouses_13 rfl rfl ?_
      refine go_iload_n (z := 16) dX4_grainsInHouses_15 rfl rfl ?_
      refine go_icmp_ge (z := 39) (z2 := 19) dX4_grainsInHouses_16 rfl (by decide) (fun _ => ?_) (fun h => absurd (by decide) h)
      refine go_iload_n (z := 40) dX4_grainsInHouses_39 rfl rfl ?_
      exact go_iret dX4_grainsInHouses_40 rfl ret_ok
    | succ d ih =>
      intro h lo5 hh
      have hh6 : h < 6 := by omega
      have eh := (hR.1.2.2.2 h hh6).1
      have hho := hL.ho hh6
      have hv1 : i (S + 4 + 2 * h) 1 = m.2.2.1 h 1 := hR.2.2.2.1 h hh6 1 (by omega)
      refine go_iload (z := 15) dX4_grainsInHouses_13 rfl rfl ?_
      refine go_iload_n (z := 16) dX4_grainsInHouses_15 rfl rfl ?_
      refine go_icmp_ge (z := 39) (z2 := 19) dX4_grainsInHouses_16 rfl (by decide) (fun q => absurd q (nI_ge hh6 (by omega))) (fun _ => ?_)
      refine go_aload_n (z := 20) dX4_grainsInHouses_19 rfl rfl ?_
      refine go_iload (z := 22) dX4_grainsInHouses_20 rfl rfl ?_
      refine go_aaldR (z := 23) _ (by assumption) ⟨by decide, by decide⟩ (by decide) rfl (by omega) (by assumption) dX4_grainsInHouses_22 rfl ?_
      refine go_astore (z := 25) dX4_grainsInHouses_23 rfl (by decide) ?_
      refine go_iload_n (z := 26) dX4_grainsInHouses_25 rfl rfl ?_
      refine go_aload (z := 28) dX4_grainsInHouses_26 rfl rfl ?_
      refine go_getI (z := 31) dX4_grainsInHouses_28 rfl fX4_158 (by assumption) rfl ?_
      rw [hv1]
      refine go_iadd (z := 32) dX4_grainsInHouses_31 rfl ?_
      refine go_istore_n (z := 33) dX4_grainsInHouses_32 rfl (by decide) ?_
      refine go_iinc (z := 36) dX4_grainsInHouses_33 rfl rfl (nI_1 h) (by decide) ?_
      refine go_goto (z := 13) dX4_grainsInHouses_36 (by decide) ?_
      exact go_lo (lo' := [some (.ref S), some (.int (sumH m.2.2.1 1 (h + 1))), some (.ref (S + 2)), some (.int (nI 6)), some (.int (nI (h + 1))), some (.ref (S + 4 + 2 * h))]) rfl (ih (h + 1) _ (by omega))
  exact go_lo (lo' := [some (.ref S), some (.int (sumH m.2.2.1 1 0)), some (.ref (S + 2)), some (.int (nI 6)), some (.int (nI 0)), none]) rfl (loop 6 0 none (by omega))
theorem c_hasAsked (hL : StL G n S) (hR : Rep S m i r) : Go l G mX4_hasAsked 0 0 0 0 (lentry [.ref S] 5) [] n i r (RetI (b2i (mAsked m)) n i r) := by
  have hs := hL.s
  have hhs := hL.hs
  have e4 := hR.1.2.1
  refine go_aload_n (z := 1) dX4_hasAsked_0 rfl rfl ?_
  refine go_getR (z := 4) dX4_hasAsked_1 rfl fX4_24 (by assumption) rfl (by assumption) ?_
  refine go_astore_n (z := 5) dX4_hasAsked_4 rfl (by decide) ?_
  refine go_aload_n (z := 6) dX4_hasAsked_5 rfl rfl ?_
  refine go_alen (z := 7) (by assumption) (by decide) dX4_hasAsked_6 rfl ?_
  refine go_istore_n (z := 8) dX4_hasAsked_7 rfl (by decide) ?_
  refine go_iconst (z := 9) (v := 0) dX4_hasAsked_8 rfl (by decide) ?_
  refine go_istore_n (z := 10) dX4_hasAsked_9 rfl (by decide) ?_
  have loop : ∀ (d h : Nat) (lo5 : Option Value), h + d = 6 → allH (fun h => decide (m.2.2.1 h 8 ≤ 0)) h = true → Go l G mX4_hasAsked 0 0 0 10 [some (.ref S), some (.ref (S + 2)), some (.int (nI 6)), some (.int (nI h)), lo5] [] n i r (RetI (b2i (mAsked m)) n i r) := by
    intro d
    induction d with
    | zero =>
      intro h lo5 hh hp
      have hh : h = 6 := by omega
      subst hh
      refine go_iload_n (z := 11) dX4_hasAsked_10 rfl rfl ?_
      refine go_iload_n (z := 12) dX4_hasAsked_11 rfl rfl ?_
      refine go_icmp_ge (z := 36) (z2 := 15) dX4_hasAsked_12 rfl (by decide) (fun _ => ?_) (fun h => absurd (by decide) h)
      refine go_iconst (z := 37) (v := 0) dX4_hasAsked_36 rfl (by decide) ?_
      refine go_zret dX4_hasAsked_37 rfl (congrArg Value.int (by decide)) ?_
      unfold mAsked
      rw [hp]
      exact ret_ok
    | succ d ih =>
      intro h lo5 hh hp
      have hh6 : h < 6 := by omega
      have eh := (hR.1.2.2.2 h hh6).1
      have hho := hL.ho hh6
      have hv8 : i (S + 4 + 2 * h) 8 = m.2.2.1 h 8 := hR.2.2.2.1 h hh6 8 (by omega)
      refine go_iload_n (z := 11) dX4_hasAsked_10 rfl rfl ?_
      refine go_iload_n (z := 12) dX4_hasAsked_11 rfl rfl ?_
      refine go_icmp_ge (z := 36) (z2 := 15) dX4_hasAsked_12 rfl (by decide) (fun q => absurd q (nI_ge hh6 (by omega))) (fun _ => ?_)
      refine go_aload_n (z := 16) dX4_hasAsked_15 rfl rfl ?_
      refine go_iload_n (z := 17) dX4_hasAsked_16 rfl rfl ?_
      refine go_aaldR (z := 18) _ (by assumption) ⟨by decide, by decide⟩ (by decide) rfl (by omega) (by assumption) dX4_hasAsked_17 rfl ?_
      refine go_astore (z := 20) dX4_hasAsked_18 rfl (by decide) ?_
      refine go_aload (z := 22) dX4_hasAsked_20 rfl rfl ?_
      refine go_getI (z := 25) dX4_hasAsked_22 rfl fX4_170 (by assumption) rfl ?_
      rw [hv8]
      refine go_if_le (z := 30) (z2 := 28) dX4_hasAsked_25 rfl (by decide) (fun hb => ?_) (fun hb => ?_)
      · refine go_iinc (z := 33) dX4_hasAsked_30 rfl rfl (nI_1 h) (by decide) ?_
        refine go_goto (z := 10) dX4_hasAsked_33 (by decide) ?_
        refine go_lo (lo' := [some (.ref S), some (.ref (S + 2)), some (.int (nI 6)), some (.int (nI (h + 1))), some (.ref (S + 4 + 2 * h))]) rfl (ih (h + 1) _ (by omega) ?_)
        show (allH _ h && decide _) = true
        rw [hp, decide_eq_true hb]; rfl
      · refine go_iconst (z := 29) (v := 1) dX4_hasAsked_28 rfl (by decide) ?_
        refine go_zret dX4_hasAsked_29 rfl (congrArg Value.int (by decide)) ?_
        unfold mAsked
        rw [allH_false (h := h) (decide_eq_false hb) hh6]
        exact ret_ok
  exact go_lo (lo' := [some (.ref S), some (.ref (S + 2)), some (.int (nI 6)), some (.int (nI 0)), none]) rfl (loop 6 0 none (by omega) rfl)
theorem c_isStuck (hL : StL G n S) (hR : Rep S m i r) : Go l G mX4_isStuck 1 0 0 0 (lentry [.ref S] 5) [] n i r (RetI (b2i (mStuck m)) n i r) := by
  have hs := hL.s
  have hhs := hL.hs
  have e4 := hR.1.2.1
  have h6 : i S 6 = nI m.2.2.2.2.length ∧ m.2.2.2.2.length ≤ 141 := by obtain ⟨-, -, -, -, -, -, -, h, h', -⟩ := hR; exact ⟨h', h⟩
  refine go_aload_n (z := 1) dX4_isStuck_0 rfl rfl ?_
  refine go_getR (z := 4) dX4_isStuck_1 rfl fX4_24 (by assumption) rfl (by assumption) ?_
  refine go_astore_n (z := 5) dX4_isStuck_4 rfl (by decide) ?_
  refine go_aload_n (z := 6) dX4_isStuck_5 rfl rfl ?_
  refine go_alen (z := 7) (by assumption) (by decide) dX4_isStuck_6 rfl ?_
  refine go_istore_n (z := 8) dX4_isStuck_7 rfl (by decide) ?_
  refine go_iconst (z := 9) (v := 0) dX4_isStuck_8 rfl (by decide) ?_
  refine go_istore_n (z := 10) dX4_isStuck_9 rfl (by decide) ?_
  have loop : ∀ (d h : Nat) (lo5 : Option Value), h + d = 6 → allH (fun h => hStuck (m.2.2.1 h)) h = true → Go l G mX4_isStuck 1 0 0 10 [some (.ref S), some (.ref (S + 2)), some (.int (nI 6)), some (.int (nI h)), lo5] [] n i r (RetI (b2i (mStuck m)) n i r) := by
    intro d
    induction d with
    | zero =>
      intro h lo5 hh hp
      have hh : h = 6 := by omega
      subst hh
      refine go_iload_n (z := 11) dX4_isStuck_10 rfl rfl ?_
      refine go_iload_n (z := 12) dX4_isStuck_11 rfl rfl ?_
      refine go_icmp_ge (z := 36) (z2 := 15) dX4_isStuck_12 rfl (by decide) (fun _ => ?_) (fun h => absurd (by decide) h)
      refine go_aload_n (z := 37) dX4_isStuck_36 rfl rfl ?_
      refine go_getI (z := 40) dX4_isStuck_37 rfl fX4_51 (by assumption) rfl ?_
      rw [h6.1]
      refine go_if_ne (z := 47) (z2 := 43) dX4_isStuck_40 rfl (by decide) (fun hb => ?_) (fun hb => ?_)
      · have hl : ¬ m.2.2.2.2.length = 0 := fun q => hb (by rw [q]; rfl)
        refine go_iconst (z := 48) (v := 0) dX4_isStuck_47 rfl (by decide) ?_
        refine go_zret dX4_isStuck_48 rfl (congrArg Value.int (by decide)) ?_
        unfold mStuck
        rw [hp, decide_eq_false hl]
        exact ret_ok
      · have hl : m.2.2.2.2.length = 0 := (nI_eq (by omega) (by omega)).mp (show nI _ = nI 0 from hb)
        refine go_iconst (z := 44) (v := 1) dX4_isStuck_43 rfl (by decide) ?_
        refine go_goto (z := 48) dX4_isStuck_44 (by decide) ?_
        refine go_zret dX4_isStuck_48 rfl (congrArg Value.int (by decide)) ?_
        unfold mStuck
        rw [hp, decide_eq_true hl]
        exact ret_ok
    | succ d ih =>
      intro h lo5 hh hp
      have hh6 : h < 6 := by omega
      have eh := (hR.1.2.2.2 h hh6).1
      have hho := hL.ho hh6
      have hv : ∀ f, f < 10 → i (S + 4 + 2 * h) f = m.2.2.1 h f := hR.2.2.2.1 h hh6
      have hcs := c_House_isStuck (l := l) (i := i) (r := r) hho
      rw [hv 0 (by omega), hv 2 (by omega), hv 4 (by omega)] at hcs
      refine go_iload_n (z := 11) dX4_isStuck_10 rfl rfl ?_
      refine go_iload_n (z := 12) dX4_isStuck_11 rfl rfl ?_
      refine go_icmp_ge (z := 36) (z2 := 15) dX4_isStuck_12 rfl (by decide) (fun q => absurd q (nI_ge hh6 (by omega))) (fun _ => ?_)
      refine go_aload_n (z := 16) dX4_isStuck_15 rfl rfl ?_
      refine go_iload_n (z := 17) dX4_isStuck_16 rfl rfl ?_
      refine go_aaldR (z := 18) _ (by assumption) ⟨by decide, by decide⟩ (by decide) rfl (by omega) (by assumption) dX4_isStuck_17 rfl ?_
      refine go_astore (z := 20) dX4_isStuck_18 rfl (by decide) ?_
      refine go_aload (z := 22) dX4_isStuck_20 rfl rfl ?_
      refine go_callV (z := 25) (t := 1) [] dX4_isStuck_22 rfl mlX1_isStuck vX4_196 ⟨by decide, rfl⟩ (by assumption) rfl rfl (by decide) cat_nil (by simp) (by decide) (by first | decide | omega) (by first | decide | omega) (hcs) ?_
      refine ret_elim ?_
      refine go_if_ne (z := 30) (z2 := 28) dX4_isStuck_25 rfl (by decide) (fun hb => ?_) (fun hb => ?_)
      · have hb : m.2.2.1 h 0 = 0 ∨ (m.2.2.1 h 2 = 0 ∧ ¬ m.2.2.1 h 4 = 0) := by
          rcases Classical.em (m.2.2.1 h 0 = 0 ∨ (m.2.2.1 h 2 = 0 ∧ ¬ m.2.2.1 h 4 = 0)) with q | q
          · exact q
          · rw [if_neg q] at hb; exact absurd rfl hb
        refine go_iinc (z := 33) dX4_isStuck_30 rfl rfl (nI_1 h) (by decide) ?_
        refine go_goto (z := 10) dX4_isStuck_33 (by decide) ?_
        refine go_lo (lo' := [some (.ref S), some (.ref (S + 2)), some (.int (nI 6)), some (.int (nI (h + 1))), some (.ref (S + 4 + 2 * h))]) rfl (ih (h + 1) _ (by omega) ?_)
        show (allH _ h && hStuck (m.2.2.1 h)) = true
        unfold hStuck
        rw [decide_eq_true hb, Bool.and_true]
        exact hp
      · have hb : ¬ (m.2.2.1 h 0 = 0 ∨ (m.2.2.1 h 2 = 0 ∧ ¬ m.2.2.1 h 4 = 0)) := fun q => by rw [if_pos q] at hb; exact absurd hb (by decide)
        refine go_iconst (z := 29) (v := 0) dX4_isStuck_28 rfl (by decide) ?_
        refine go_zret dX4_isStuck_29 rfl (congrArg Value.int (by decide)) ?_
        unfold mStuck
        rw [allH_false (h := h) (p := fun h => hStuck (m.2.2.1 h)) (decide_eq_false hb) hh6]
        exact ret_ok
  exact go_lo (lo' := [some (.ref S), some (.ref (S + 2)), some (.int (nI 6)), some (.int (nI 0)), none]) rfl (loop 6 0 none (by omega) rfl)
theorem c_isMore (hL : StL G n S) (hR : Rep S m i r) : Go l G mX4_isMoreThanGrainsOnItsWay 0 0 0 0 (lentry [.ref S] 2) [] n i r (RetI (b2i (!mIdleM m.2.2.2.2)) n i r) := by
  obtain ⟨h1, h2, h3, h4, h5, mx, hX, hlen, h6, hM⟩ := hR
  generalize m.2.2.2.2 = ms at hlen h6 hM ⊢
  have hs := hL.s
  have hmm := hL.ms
  have e5 := h1.2.2.1
  refine go_iconst (z := 1) (v := 0) dX4_isMoreThanGrainsOnItsWay_0 rfl (by decide) ?_
  refine go_istore_n (z := 2) dX4_isMoreThanGrainsOnItsWay_1 rfl (by decide) ?_
  have loop : ∀ d c, c + d = ms.length → (∀ j x, j < c → ms[j]? = some x → x.1 0 = 3) → Go l G mX4_isMoreThanGrainsOnItsWay 0 0 0 2 [some (.ref S), some (.int (nI c))] [] n i r (RetI (b2i (!mIdleM ms)) n i r) := by
    intro d
    induction d with
    | zero =>
      intro c hc hp
      refine go_iload_n (z := 3) dX4_isMoreThanGrainsOnItsWay_2 rfl rfl ?_
      refine go_aload_n (z := 4) dX4_isMoreThanGrainsOnItsWay_3 rfl rfl ?_
      refine go_getI (z := 7) dX4_isMoreThanGrainsOnItsWay_4 rfl fX4_51 (by assumption) rfl ?_
      refine go_icmp_ge (z := 40) (z2 := 10) dX4_isMoreThanGrainsOnItsWay_7 rfl (by decide) (fun _ => ?_) (fun h => ?_)
      · refine go_iconst (z := 41) (v := 0) dX4_isMoreThanGrainsOnItsWay_40 rfl (by decide) ?_
        refine go_zret dX4_isMoreThanGrainsOnItsWay_41 rfl (congrArg Value.int (by decide)) ?_
        have : mIdleM ms = true := by
          unfold mIdleM
          rw [List.all_eq_true]
          intro x hx
          obtain ⟨j, hj⟩ := List.getElem?_of_mem hx
          exact decide_eq_true (hp j x (by have := (List.getElem?_eq_some_iff.mp hj).1; omega) hj)
        rw [this]
        exact ret_ok
      · exact absurd (by rw [h6]; exact nI_le (by omega) (by omega)) h
    | succ d ih =>
      intro c hc hp
      have hxc := hX.1 c (by omega)
      have hrc := hxc.1
      have hMc := hL.me hxc.2.1 hxc.2.2
      obtain ⟨x, hx⟩ : ∃ x, ms[c]? = some x := ⟨ms[c], List.getElem?_eq_getElem (by omega)⟩
      refine go_iload_n (z := 3) dX4_isMoreThanGrainsOnItsWay_2 rfl rfl ?_
      refine go_aload_n (z := 4) dX4_isMoreThanGrainsOnItsWay_3 rfl rfl ?_
      refine go_getI (z := 7) dX4_isMoreThanGrainsOnItsWay_4 rfl fX4_51 (by assumption) rfl ?_
      refine go_icmp_ge (z := 40) (z2 := 10) dX4_isMoreThanGrainsOnItsWay_7 rfl (by decide) (fun h => ?_) (fun _ => ?_)
      · exact absurd h (by rw [h6]; exact nI_ge (by omega) (by omega))
      · refine go_iload_n (z := 11) dX4_isMoreThanGrainsOnItsWay_10 rfl rfl ?_
        refine go_aload_n (z := 12) dX4_isMoreThanGrainsOnItsWay_11 rfl rfl ?_
        refine go_getR (z := 15) dX4_isMoreThanGrainsOnItsWay_12 rfl fX4_30 (by assumption) rfl (by assumption) ?_
        refine go_alen (z := 16) (by assumption) (by decide) dX4_isMoreThanGrainsOnItsWay_15 rfl ?_
        refine go_icmp_ge (z := 40) (z2 := 19) dX4_isMoreThanGrainsOnItsWay_16 rfl (by decide) (fun h => ?_) (fun _ => ?_)
        · exact absurd h (nI_ge (by omega) (by omega))
        · refine go_aload_n (z := 20) dX4_isMoreThanGrainsOnItsWay_19 rfl rfl ?_
          refine go_getR (z := 23) dX4_isMoreThanGrainsOnItsWay_20 rfl fX4_30 (by assumption) rfl (by assumption) ?_
          refine go_iload_n (z := 24) dX4_isMoreThanGrainsOnItsWay_23 rfl rfl ?_
          refine go_aaldR (z := 25) c (by assumption) ⟨by decide, by decide⟩ (by decide) rfl (by omega) (by assumption) dX4_isMoreThanGrainsOnItsWay_24 rfl ?_
          refine go_getI (z := 28) dX4_isMoreThanGrainsOnItsWay_25 rfl fX4_108 hMc rfl ?_
          refine go_iconst (z := 29) (v := 3) dX4_isMoreThanGrainsOnItsWay_28 rfl (by decide) ?_
          rw [(hM c x hx).1 0 (by omega)]
          refine go_icmp_eq (z := 34) (z2 := 32) dX4_isMoreThanGrainsOnItsWay_29 rfl (by decide) (fun h => ?_) (fun h => ?_)
          · refine go_iinc (z := 37) dX4_isMoreThanGrainsOnItsWay_34 rfl rfl (nI_1 c) (by decide) ?_
            refine go_goto (z := 2) dX4_isMoreThanGrainsOnItsWay_37 (by decide) ?_
            refine go_lo (lo' := [some (.ref S), some (.int (nI (c + 1)))]) rfl (ih (c + 1) (by omega) (fun j y hj hy => ?_))
            by_cases a1 : j = c
            · subst a1; rw [hx] at hy; cases hy; exact h
            · exact hp j y (by omega) hy
          · refine go_iconst (z := 33) (v := 1) dX4_isMoreThanGrainsOnItsWay_32 rfl (by decide) ?_
            refine go_zret dX4_isMoreThanGrainsOnItsWay_33 rfl (congrArg Value.int (by decide)) ?_
            have : mIdleM ms = false := by
              unfold mIdleM
              rw [List.all_eq_false]
              exact ⟨x, List.mem_of_getElem? hx, by simp [h]⟩
            rw [this]
            exact ret_ok
  exact go_lo (lo' := [some (.ref S), some (.int (nI 0))]) rfl (loop ms.length 0 (by omega) (fun j x hj => absurd hj (Nat.not_lt_zero j)))
theorem c_isIdle (hL : StL G n S) (hR : Rep S m i r) : Go l G mX4_isIdle 1 0 0 0 (lentry [.ref S] 1) [] n i r (RetI (b2i (mIdle m)) n i r) := by
  have hs := hL.s
  refine go_aload_n (z := 1) dX4_isIdle_0 rfl rfl ?_
  refine go_callV (z := 4) (t := 4) [] dX4_isIdle_1 rfl mlX4_busyHouses vX4_189 ⟨by decide, rfl⟩ (by assumption) rfl rfl (by decide) cat_nil (by simp) (by decide) (by first | decide | omega) (by first | decide | omega) (c_busyHouses hL hR) ?_
  refine ret_elim ?_
  refine go_if_ne (z := 18) (z2 := 7) dX4_isIdle_4 rfl (by decide) (fun hb => ?_) (fun hb => ?_)
  · refine go_iconst (z := 19) (v := 0) dX4_isIdle_18 rfl (by decide) ?_
    refine go_zret dX4_isIdle_19 rfl (congrArg Value.int (by decide)) ?_
    unfold mIdle
    rw [decide_eq_false hb]
    exact ret_ok
  · refine go_aload_n (z := 8) dX4_isIdle_7 rfl rfl ?_
    refine go_callV (z := 11) (t := 4) [] dX4_isIdle_8 rfl mlX4_isMoreThanGrainsOnItsWay vX4_192 ⟨by decide, rfl⟩ (by assumption) rfl rfl (by decide) cat_nil (by simp) (by decide) (by first | decide | omega) (by first | decide | omega) (c_isMore hL hR) ?_
    refine ret_elim ?_
    refine go_if_ne (z := 18) (z2 := 14) dX4_isIdle_11 rfl (by decide) (fun hc => ?_) (fun hc => ?_)
    · refine go_iconst (z := 19) (v := 0) dX4_isIdle_18 rfl (by decide) ?_
      refine go_zret dX4_isIdle_19 rfl (congrArg Value.int (by decide)) ?_
      unfold mIdle
      have : mIdleM m.2.2.2.2 = false := by
        cases q : mIdleM m.2.2.2.2 with
        | false => rfl
        | true => rw [q] at hc; exact absurd rfl hc
      rw [this, Bool.and_false]
      exact ret_ok
    · refine go_iconst (z := 15) (v := 1) dX4_isIdle_14 rfl (by decide) ?_
      refine go_goto (z := 19) dX4_isIdle_15 (by decide) ?_
      refine go_zret dX4_isIdle_19 rfl (congrArg Value.int (by decide)) ?_
      unfold mIdle
      have : mIdleM m.2.2.2.2 = true := by
        cases q : mIdleM m.2.2.2.2 with
        | true => rfl
        | false => rw [q] at hc; exact absurd hc (by decide)
      rw [this, decide_eq_true hb]
      exact ret_ok
theorem gsum_take (ms : List Mg) {c : Nat} {x : Mg} (h : ms[c]? = some x) : gsum (ms.take (c + 1)) = gsum (ms.take c) + x.1 3 := by
  unfold gsum
  rw [List.take_succ, h]
  simp
theorem c_grainsOnTheirWay (hL : StL G n S) (hR : Rep S m i r) : Go l G mX4_grainsOnTheirWay 0 0 0 0 (lentry [.ref S] 3) [] n i r (RetI (gsum m.2.2.2.2) n i r) := by
  obtain ⟨h1, h2, h3, h4, h5, mx, hX, hlen, h6, hM⟩ := hR
  generalize m.2.2.2.2 = ms at hlen h6 hM ⊢
  have hs := hL.s
  have hmm := hL.ms
  have e5 := h1.2.2.1
  refine go_iconst (z := 1) (v := 0) dX4_grainsOnTheirWay_0 rfl (by decide) ?_
  refine go_istore_n (z := 2) dX4_grainsOnTheirWay_1 rfl (by decide) ?_
  refine go_iconst (z := 3) (v := 0) dX4_grainsOnTheirWay_2 rfl (by decide) ?_
  refine go_istore_n (z := 4) dX4_grainsOnTheirWay_3 rfl (by decide) ?_
  have loop : ∀ d c, c + d = ms.length → Go l G mX4_grainsOnTheirWay 0 0 0 4 [some (.ref S), some (.int (gsum (ms.take c))), some (.int (nI c))] [] n i r (RetI (gsum ms) n i r) := by
    intro d
    induction d with
    | zero =>
      intro c hc
      refine go_iload_n (z := 5) dX4_grainsOnTheirWay_4 rfl rfl ?_
      refine go_aload_n (z := 6) dX4_grainsOnTheirWay_5 rfl rfl ?_
      refine go_getI (z := 9) dX4_grainsOnTheirWay_6 rfl fX4_51 (by assumption) rfl ?_
      refine go_icmp_ge (z := 39) (z2 := 12) dX4_grainsOnTheirWay_9 rfl (by decide) (fun _ => ?_) (fun h => ?_)
      · refine go_iload_n (z := 40) dX4_grainsOnTheirWay_39 rfl rfl ?_
        refine go_iret dX4_grainsOnTheirWay_40 rfl ?_
        rw [List.take_of_length_le (by omega)]
        exact ret_ok
      · exact absurd (by rw [h6]; exact nI_le (by omega) (by omega)) h
    | succ d ih =>
      intro c hc
      have hxc := hX.1 c (by omega)
      have hrc := hxc.1
      have hMc := hL.me hxc.2.1 hxc.2.2
      obtain ⟨x, hx⟩ : ∃ x, ms[c]? = some x := ⟨ms[c], List.getElem?_eq_getElem (by omega)⟩
      refine go_iload_n (z := 5) dX4_grainsOnTheirWay_4 rfl rfl ?_
      refine go_aload_n (z := 6) dX4_grainsOnTheirWay_5 rfl rfl ?_
      refine go_getI (z := 9) dX4_grainsOnTheirWay_6 rfl fX4_51 (by assumption) rfl ?_
      refine go_icmp_ge (z := 39) (z2 := 12) dX4_grainsOnTheirWay_9 rfl (by decide) (fun h => ?_) (fun _ => ?_)
      · exact absurd h (by rw [h6]; exact nI_ge (by omega) (by omega))
      · refine go_iload_n (z := 13) dX4_grainsOnTheirWay_12 rfl rfl ?_
        refine go_aload_n (z := 14) dX4_grainsOnTheirWay_13 rfl rfl ?_
        refine go_getR (z := 17) dX4_grainsOnTheirWay_14 rfl fX4_30 (by assumption) rfl (by assumption) ?_
        refine go_alen (z := 18) (by assumption) (by decide) dX4_grainsOnTheirWay_17 rfl ?_
        refine go_icmp_ge (z := 39) (z2 := 21) dX4_grainsOnTheirWay_18 rfl (by decide) (fun h => ?_) (fun _ => ?_)
        · exact absurd h (nI_ge (by omega) (by omega))
        · refine go_iload_n (z := 22) dX4_grainsOnTheirWay_21 rfl rfl ?_
          refine go_aload_n (z := 23) dX4_grainsOnTheirWay_22 rfl rfl ?_
          refine go_getR (z := 26) dX4_grainsOnTheirWay_23 rfl fX4_30 (by assumption) rfl (by assumption) ?_
          refine go_iload_n (z := 27) dX4_grainsOnTheirWay_26 rfl rfl ?_
          refine go_aaldR (z := 28) c (by assumption) ⟨by decide, by decide⟩ (by decide) rfl (by omega) (by assumption) dX4_grainsOnTheirWay_27 rfl ?_
          refine go_getI (z := 31) dX4_grainsOnTheirWay_28 rfl fX4_117 hMc rfl ?_
          rw [(hM c x hx).1 3 (by omega)]
          refine go_iadd (z := 32) dX4_grainsOnTheirWay_31 rfl ?_
          refine go_istore_n (z := 33) dX4_grainsOnTheirWay_32 rfl (by decide) ?_
          refine go_iinc (z := 36) dX4_grainsOnTheirWay_33 rfl rfl (nI_1 c) (by decide) ?_
          refine go_goto (z := 4) dX4_grainsOnTheirWay_36 (by decide) ?_
          exact go_lo (lo' := [some (.ref S), some (.int (gsum (ms.take (c + 1)))), some (.int (nI (c + 1)))]) (by rw [gsum_take ms hx]; rfl) (ih (c + 1) (by omega))
  exact go_lo (lo' := [some (.ref S), some (.int (gsum (ms.take 0))), some (.int (nI 0))]) rfl (loop ms.length 0 (by omega))
theorem c_errandsInAll (hL : StL G n S) (hR : Rep S m i r) (hE : RepE G n E Gd i r) (hg : ∀ h, h < 6 → ∀ e ∈ m.2.2.2.1 h, Gd e) (hg2 : ∀ x ∈ m.2.2.2.2, ∀ b, x.2 = some b → Gd b) : Go l G mX4_errandsInAll 1 0 0 0 (lentry [.ref S] 6) [] n i r (RetI (nI (mAll E m)) n i r) := by
  have hs := hL.s
  have hhs := hL.hs
  have e4 := hR.1.2.1
  have second : ∀ (lo3 lo4 lo5 : Option Value), Go l G mX4_errandsInAll 1 0 0 41 [some (.ref S), some (.int (nI (sumQ E m.2.2.2.1 6))), some (.int (nI 0)), lo3, lo4, lo5] [] n i r (RetI (nI (mAll E m)) n i r) := by
    intro lo3 lo4 lo5
    obtain ⟨h1, h2, h3, h4, h5, mx, hX, hlen, h6, hM⟩ := hR
    unfold mAll
    generalize m.2.2.2.2 = ms at hlen h6 hM hg2 ⊢
    have hmm := hL.ms
    have e5 := h1.2.2.1
    have loop : ∀ d c (lo3 lo4 lo5 : Option Value), c + d = ms.length → Go l G mX4_errandsInAll 1 0 0 41 [some (.ref S), some (.int (nI (sumQ E m.2.2.2.1 6 + sumM E (ms.take c)))), some (.int (nI c)), lo3, lo4, lo5] [] n i r (RetI (nI (sumQ E m.2.2.2.1 6 + sumM E ms)) n i r) := by
      intro d
      induction d with
      | zero =>
        intro c lo3 lo4 lo5 hc
        refine go_iload_n (z := 42) dX4_errandsInAll_41 rfl rfl ?_
        refine go_aload_n (z := 43) dX4_errandsInAll_42 rfl rfl ?_
        refine go_getI (z := 46) dX4_errandsInAll_43 rfl fX4_51 (by assumption) rfl ?_
        refine go_icmp_ge (z := 76) (z2 := 49) dX4_errandsInAll_46 rfl (by decide) (fun _ => ?_) (fun h => ?_)
        · refine go_iload_n (z := 77) dX4_errandsInAll_76 rfl rfl ?_
          refine go_iret dX4_errandsInAll_77 rfl ?_
          rw [List.take_of_length_le (by omega)]
          exact ret_ok
        · exact absurd (by rw [h6]; exact nI_le (by omega) (by omega)) h
      | succ d ih =>
        intro c lo3 lo4 lo5 hc
        have hxc := hX.1 c (by omega)
        have hrc := hxc.1
        have hMc := hL.me hxc.2.1 hxc.2.2
        obtain ⟨x, hx⟩ : ∃ x, ms[c]? = some x := ⟨ms[c], List.getElem?_eq_getElem (by omega)⟩
        refine go_iload_n (z := 42) dX4_errandsInAll_41 rfl rfl ?_
        refine go_aload_n (z := 43) dX4_errandsInAll_42 rfl rfl ?_
        refine go_getI (z := 46) dX4_errandsInAll_43 rfl fX4_51 (by assumption) rfl ?_
        refine go_icmp_ge (z := 76) (z2 := 49) dX4_errandsInAll_46 rfl (by decide) (fun h => ?_) (fun _ => ?_)
        · exact absurd h (by rw [h6]; exact nI_ge (by omega) (by omega))
        · refine go_iload_n (z := 50) dX4_errandsInAll_49 rfl rfl ?_
          refine go_aload_n (z := 51) dX4_errandsInAll_50 rfl rfl ?_
          refine go_getR (z := 54) dX4_errandsInAll_51 rfl fX4_30 (by assumption) rfl (by assumption) ?_
          refine go_alen (z := 55) (by assumption) (by decide) dX4_errandsInAll_54 rfl ?_
          refine go_icmp_ge (z := 76) (z2 := 58) dX4_errandsInAll_55 rfl (by decide) (fun h => ?_) (fun _ => ?_)
          · exact absurd h (nI_ge (by omega) (by omega))
          · refine go_iload_n (z := 59) dX4_errandsInAll_58 rfl rfl ?_
            refine go_aload_n (z := 60) dX4_errandsInAll_59 rfl rfl ?_
            refine go_getR (z := 63) dX4_errandsInAll_60 rfl fX4_30 (by assumption) rfl (by assumption) ?_
            refine go_iload_n (z := 64) dX4_errandsInAll_63 rfl rfl ?_
            refine go_aaldR (z := 65) c (by assumption) ⟨by decide, by decide⟩ (by decide) rfl (by omega) (by assumption) dX4_errandsInAll_64 rfl ?_
            refine go_callV (z := 68) (t := 2) [] dX4_errandsInAll_65 rfl mlX2_errands vX4_202 ⟨by decide, rfl⟩ hMc rfl rfl (by decide) cat_nil (by simp) (by decide) (by first | decide | omega) (by first | decide | omega) (c_Message_errands hMc hE (hM c x hx).2 (hg2 x (List.mem_of_getElem? hx))) ?_
            refine ret_elim ?_
            refine go_iadd (z := 69) dX4_errandsInAll_68 rfl ?_
            refine go_istore_n (z := 70) dX4_errandsInAll_69 rfl (by decide) ?_
            refine go_iinc (z := 73) dX4_errandsInAll_70 rfl rfl (nI_1 c) (by decide) ?_
            refine go_goto (z := 41) dX4_errandsInAll_73 (by decide) ?_
            refine go_lo (lo' := [some (.ref S), some (.int (nI (sumQ E m.2.2.2.1 6 + sumM E (ms.take (c + 1))))), some (.int (nI (c + 1))), lo3, lo4, lo5]) ?_ (ih (c + 1) _ _ _ (by omega))
            have e : sumM E (ms.take (c + 1)) = sumM E (ms.take c) + sz E x.2 := by unfold sumM; rw [List.take_succ, hx]; simp
            rw [e, ← Nat.add_assoc, ← nI_add _ (sz E x.2), ← eAll_sz]
            rfl
    exact loop ms.length 0 lo3 lo4 lo5 (by omega)
  refine go_iconst (z := 1) (v := 0) dX4_errandsInAll_0 rfl (by decide) ?_
  refine go_istore_n (z := 2) dX4_errandsInAll_1 rfl (by decide) ?_
  refine go_aload_n (z := 3) dX4_errandsInAll_2 rfl rfl ?_
  refine go_getR (z := 6) dX4_errandsInAll_3 rfl fX4_24 (by assumption) rfl (by assumption) ?_
  refine go_astore_n (z := 7) dX4_errandsInAll_6 rfl (by decide) ?_
  refine go_aload_n (z := 8) dX4_errandsInAll_7 rfl rfl ?_
  refine go_alen (z := 9) (by assumption) (by decide) dX4_errandsInAll_8 rfl ?_
  refine go_istore_n (z := 10) dX4_errandsInAll_9 rfl (by decide) ?_
  refine go_iconst (z := 11) (v := 0) dX4_errandsInAll_10 rfl (by decide) ?_
  refine go_istore (z := 13) dX4_errandsInAll_11 rfl (by decide) ?_
  have loop : ∀ (d h : Nat) (lo5 : Option Value), h + d = 6 → Go l G mX4_errandsInAll 1 0 0 13 [some (.ref S), some (.int (nI (sumQ E m.2.2.2.1 h))), some (.ref (S + 2)), some (.int (nI 6)), some (.int (nI h)), lo5] [] n i r (RetI (nI (mAll E m)) n i r) := by
    intro d
    induction d with
    | zero =>
      intro h lo5 hh
      have hh : h = 6 := by omega
      subst hh
      refine go_iload (z := 15) dX4_errandsInAll_13 rfl rfl ?_
      refine go_iload_n (z := 16) dX4_errandsInAll_15 rfl rfl ?_
      refine go_icmp_ge (z := 39) (z2 := 19) dX4_errandsInAll_16 rfl (by decide) (fun _ => ?_) (fun h => absurd (by decide) h)
      refine go_iconst (z := 40) (v := 0) dX4_errandsInAll_39 rfl (by decide) ?_
      refine go_istore_n (z := 41) dX4_errandsInAll_40 rfl (by decide) ?_
      exact second _ _ _
    | succ d ih =>
      intro h lo5 hh
      have hh6 : h < 6 := by omega
      have eh := (hR.1.2.2.2 h hh6).1
      have hho := hL.ho hh6
      have h5 := hR.2.2.2.2.1 h hh6
      refine go_iload (z := 15) dX4_errandsInAll_13 rfl rfl ?_
      refine go_iload_n (z := 16) dX4_errandsInAll_15 rfl rfl ?_
      refine go_icmp_ge (z := 39) (z2 := 19) dX4_errandsInAll_16 rfl (by decide) (fun q => absurd q (nI_ge hh6 (by omega))) (fun _ => ?_)
      refine go_aload_n (z := 20) dX4_errandsInAll_19 rfl rfl ?_
      refine go_iload (z := 22) dX4_errandsInAll_20 rfl rfl ?_
      refine go_aaldR (z := 23) _ (by assumption) ⟨by decide, by decide⟩ (by decide) rfl (by omega) (by assumption) dX4_errandsInAll_22 rfl ?_
      refine go_astore (z := 25) dX4_errandsInAll_23 rfl (by decide) ?_
      refine go_iload_n (z := 26) dX4_errandsInAll_25 rfl rfl ?_
      refine go_aload (z := 28) dX4_errandsInAll_26 rfl rfl ?_
      refine go_callV (z := 31) (t := 1) [] dX4_errandsInAll_28 rfl mlX1_errandsWithin vX4_199 ⟨by decide, rfl⟩ (by assumption) rfl rfl (by decide) cat_nil (by simp) (by decide) (by first | decide | omega) (by first | decide | omega) (c_House_errandsWithin hho (hL.li hh6) (hR.1.2.2.2 h hh6).2 ((hR.2.2.2.1 h hh6 3 (by omega)).trans h5.1) h5.2.1 h5.2.2 hE (hg h hh6)) ?_
      refine ret_elim ?_
      refine go_iadd (z := 32) dX4_errandsInAll_31 rfl ?_
      refine go_istore_n (z := 33) dX4_errandsInAll_32 rfl (by decide) ?_
      refine go_iinc (z := 36) dX4_errandsInAll_33 rfl rfl (nI_1 h) (by decide) ?_
      refine go_goto (z := 13) dX4_errandsInAll_36 (by decide) ?_
      refine go_lo (lo' := [some (.ref S), some (.int (nI (sumQ E m.2.2.2.1 (h + 1)))), some (.ref (S + 2)), some (.int (nI 6)), some (.int (nI (h + 1))), some (.ref (S + 4 + 2 * h))]) ?_ (ih (h + 1) _ (by omega))
      have e : sumQ E m.2.2.2.1 (h + 1) = sumQ E m.2.2.2.1 h + ((m.2.2.2.1 h).map E.2.2.1).sum := rfl
      rw [e, ← nI_add (sumQ E m.2.2.2.1 h)]
      rfl
  exact go_lo (lo' := [some (.ref S), some (.int (nI (sumQ E m.2.2.2.1 0))), some (.ref (S + 2)), some (.int (nI 6)), some (.int (nI 0)), none]) rfl (loop 6 0 none (by omega))
theorem c_State_tell {x : Int32} (hL : StL G n S) (hR : Rep S m i r) : Go l G mX4_tell 2 0 0 0 (lentry [.ref S, .int x] 2) [] n i r (RetI (tellS m x) n i r) := by
  have hs := hL.s
  have z : ∀ k, k < 3 ∨ (7 ≤ k ∧ k < 14) → i S k = m.1 k := hR.2.1
  have h6 : i S 6 = nI m.2.2.2.2.length := by obtain ⟨-, -, -, -, -, -, -, h, h', -⟩ := hR; exact h'
  have zb : ∀ b : Bool, ¬ b2i b = 0 → b2i b = 1 := by intro b; cases b <;> decide
  refine go_iload_n (z := 1) dX4_tell_0 rfl rfl ?_
  refine go_tabS (z := 167) dX4_tell_1 (by decide) (fun h1 => ?_) (fun q1 h1 ha1 hb1 => ?_)
  · refine go_bipush (z := 169) (v := (-2)) dX4_tell_167 rfl (by decide) ?_
    refine go_iret dX4_tell_169 rfl ?_
    exact ⟨congrArg (fun w => some (Value.int w)) (by first | (simp only [tellS, h1]; first | exact z _ (by omega) | exact h6 | exact (zb _ (by assumption)).symm | exact Eq.symm (by assumption) | rfl) | exact (tellS_out h1).symm), rfl, rfl, rfl⟩
  · rcases (show q1 = 0 ∨ q1 = 1 ∨ q1 = 2 ∨ q1 = 3 ∨ q1 = 4 ∨ q1 = 5 ∨ q1 = 6 ∨ q1 = 7 ∨ q1 = 8 ∨ q1 = 9 ∨ q1 = 10 ∨ q1 = 11 ∨ q1 = 12 ∨ q1 = 13 ∨ q1 = 14 by omega) with rfl | rfl | rfl | rfl | rfl | rfl | rfl | rfl | rfl | rfl | rfl | rfl | rfl | rfl | rfl
    · refine go_tabIn (z := 76) 0 dX4_tell_1 h1 (by decide) (by decide) rfl (by decide) ?_
      refine go_aload_n (z := 77) dX4_tell_76 rfl rfl ?_
      refine go_getI (z := 80) dX4_tell_77 rfl fX4_40 (by assumption) rfl ?_
      refine go_iret dX4_tell_80 rfl ?_
      exact ⟨congrArg (fun w => some (Value.int w)) (by first | (simp only [tellS, h1]; first | exact z _ (by omega) | exact h6 | exact (zb _ (by assumption)).symm | exact Eq.symm (by assumption) | rfl) | exact (tellS_out h1).symm), rfl, rfl, rfl⟩
    · refine go_tabIn (z := 81) 1 dX4_tell_1 h1 (by decide) (by decide) rfl (by decide) ?_
      refine go_aload_n (z := 82) dX4_tell_81 rfl rfl ?_
      refine go_getI (z := 85) dX4_tell_82 rfl fX4_61 (by assumption) rfl ?_
      refine go_iret dX4_tell_85 rfl ?_
      exact ⟨congrArg (fun w => some (Value.int w)) (by first | (simp only [tellS, h1]; first | exact z _ (by omega) | exact h6 | exact (zb _ (by assumption)).symm | exact Eq.symm (by assumption) | rfl) | exact (tellS_out h1).symm), rfl, rfl, rfl⟩
    · refine go_tabIn (z := 86) 2 dX4_tell_1 h1 (by decide) (by decide) rfl (by decide) ?_
      refine go_aload_n (z := 87) dX4_tell_86 rfl rfl ?_
      refine go_getI (z := 90) dX4_tell_87 rfl fX4_64 (by assumption) rfl ?_
      refine go_iret dX4_tell_90 rfl ?_
      exact ⟨congrArg (fun w => some (Value.int w)) (by first | (simp only [tellS, h1]; first | exact z _ (by omega) | exact h6 | exact (zb _ (by assumption)).symm | exact Eq.symm (by assumption) | rfl) | exact (tellS_out h1).symm), rfl, rfl, rfl⟩
    · refine go_tabIn (z := 91) 3 dX4_tell_1 h1 (by decide) (by decide) rfl (by decide) ?_
      refine go_aload_n (z := 92) dX4_tell_91 rfl rfl ?_
      refine go_callV (z := 95) (t := 4) [] dX4_tell_92 rfl mlX4_grainsInHouses vX4_205 ⟨by decide, rfl⟩ (by assumption) rfl rfl (by decide) cat_nil (by simp) (by decide) (by first | decide | omega) (by first | decide | omega) (c_grainsInHouses hL hR) ?_
      refine ret_elim ?_
      refine go_iret dX4_tell_95 rfl ?_
      exact ⟨congrArg (fun w => some (Value.int w)) (by first | (simp only [tellS, h1]; first | exact z _ (by omega) | exact h6 | exact (zb _ (by assumption)).symm | exact Eq.symm (by assumption) | rfl) | exact (tellS_out h1).symm), rfl, rfl, rfl⟩
    · refine go_tabIn (z := 96) 4 dX4_tell_1 h1 (by decide) (by decide) rfl (by decide) ?_
      refine go_aload_n (z := 97) dX4_tell_96 rfl rfl ?_
      refine go_callV (z := 100) (t := 4) [] dX4_tell_97 rfl mlX4_grainsOnTheirWay vX4_208 ⟨by decide, rfl⟩ (by assumption) rfl rfl (by decide) cat_nil (by simp) (by decide) (by first | decide | omega) (by first | decide | omega) (c_grainsOnTheirWay hL hR) ?_
      refine ret_elim ?_
      refine go_iret dX4_tell_100 rfl ?_
      exact ⟨congrArg (fun w => some (Value.int w)) (by first | (simp only [tellS, h1]; first | exact z _ (by omega) | exact h6 | exact (zb _ (by assumption)).symm | exact Eq.symm (by assumption) | rfl) | exact (tellS_out h1).symm), rfl, rfl, rfl⟩
    · refine go_tabIn (z := 101) 5 dX4_tell_1 h1 (by decide) (by decide) rfl (by decide) ?_
      refine go_aload_n (z := 102) dX4_tell_101 rfl rfl ?_
      refine go_getI (z := 105) dX4_tell_102 rfl fX4_67 (by assumption) rfl ?_
      refine go_iret dX4_tell_105 rfl ?_
      exact ⟨congrArg (fun w => some (Value.int w)) (by first | (simp only [tellS, h1]; first | exact z _ (by omega) | exact h6 | exact (zb _ (by assumption)).symm | exact Eq.symm (by assumption) | rfl) | exact (tellS_out h1).symm), rfl, rfl, rfl⟩
    · refine go_tabIn (z := 106) 6 dX4_tell_1 h1 (by decide) (by decide) rfl (by decide) ?_
      refine go_aload_n (z := 107) dX4_tell_106 rfl rfl ?_
      refine go_getI (z := 110) dX4_tell_107 rfl fX4_51 (by assumption) rfl ?_
      refine go_iret dX4_tell_110 rfl ?_
      exact ⟨congrArg (fun w => some (Value.int w)) (by first | (simp only [tellS, h1]; first | exact z _ (by omega) | exact h6 | exact (zb _ (by assumption)).symm | exact Eq.symm (by assumption) | rfl) | exact (tellS_out h1).symm), rfl, rfl, rfl⟩
    · refine go_tabIn (z := 111) 7 dX4_tell_1 h1 (by decide) (by decide) rfl (by decide) ?_
      refine go_aload_n (z := 112) dX4_tell_111 rfl rfl ?_
      refine go_callV (z := 115) (t := 4) [] dX4_tell_112 rfl mlX4_busyHouses vX4_189 ⟨by decide, rfl⟩ (by assumption) rfl rfl (by decide) cat_nil (by simp) (by decide) (by first | decide | omega) (by first | decide | omega) (c_busyHouses hL hR) ?_
      refine ret_elim ?_
      refine go_iret dX4_tell_115 rfl ?_
      exact ⟨congrArg (fun w => some (Value.int w)) (by first | (simp only [tellS, h1]; first | exact z _ (by omega) | exact h6 | exact (zb _ (by assumption)).symm | exact Eq.symm (by assumption) | rfl) | exact (tellS_out h1).symm), rfl, rfl, rfl⟩
    · refine go_tabIn (z := 116) 8 dX4_tell_1 h1 (by decide) (by decide) rfl (by decide) ?_
      refine go_aload_n (z := 117) dX4_tell_116 rfl rfl ?_
      refine go_getI (z := 120) dX4_tell_117 rfl fX4_70 (by assumption) rfl ?_
      refine go_iret dX4_tell_120 rfl ?_
      exact ⟨congrArg (fun w => some (Value.int w)) (by first | (simp only [tellS, h1]; first | exact z _ (by omega) | exact h6 | exact (zb _ (by assumption)).symm | exact Eq.symm (by assumption) | rfl) | exact (tellS_out h1).symm), rfl, rfl, rfl⟩
    · refine go_tabIn (z := 121) 9 dX4_tell_1 h1 (by decide) (by decide) rfl (by decide) ?_
      refine go_aload_n (z := 122) dX4_tell_121 rfl rfl ?_
      refine go_getI (z := 125) dX4_tell_122 rfl fX4_73 (by assumption) rfl ?_
      refine go_iret dX4_tell_125 rfl ?_
      exact ⟨congrArg (fun w => some (Value.int w)) (by first | (simp only [tellS, h1]; first | exact z _ (by omega) | exact h6 | exact (zb _ (by assumption)).symm | exact Eq.symm (by assumption) | rfl) | exact (tellS_out h1).symm), rfl, rfl, rfl⟩
    · refine go_tabIn (z := 126) 10 dX4_tell_1 h1 (by decide) (by decide) rfl (by decide) ?_
      refine go_aload_n (z := 127) dX4_tell_126 rfl rfl ?_
      refine go_getI (z := 130) dX4_tell_127 rfl fX4_76 (by assumption) rfl ?_
      refine go_iret dX4_tell_130 rfl ?_
      exact ⟨congrArg (fun w => some (Value.int w)) (by first | (simp only [tellS, h1]; first | exact z _ (by omega) | exact h6 | exact (zb _ (by assumption)).symm | exact Eq.symm (by assumption) | rfl) | exact (tellS_out h1).symm), rfl, rfl, rfl⟩
    · refine go_tabIn (z := 131) 11 dX4_tell_1 h1 (by decide) (by decide) rfl (by decide) ?_
      refine go_aload_n (z := 132) dX4_tell_131 rfl rfl ?_
      refine go_callV (z := 135) (t := 4) [] dX4_tell_132 rfl mlX4_isQuiet vX4_211 ⟨by decide, rfl⟩ (by assumption) rfl rfl (by decide) cat_nil (by simp) (by decide) (by first | decide | omega) (by first | decide | omega) (c_isQuiet hL hR) ?_
      refine ret_elim ?_
      refine go_if_eq (z := 142) (z2 := 138) dX4_tell_135 rfl (by decide) (fun h135 => ?_) (fun h135 => ?_)
      · refine go_iconst (z := 143) (v := 0) dX4_tell_142 rfl (by decide) ?_
        refine go_iret dX4_tell_143 rfl ?_
        exact ⟨congrArg (fun w => some (Value.int w)) (by first | (simp only [tellS, h1]; first | exact z _ (by omega) | exact h6 | exact (zb _ (by assumption)).symm | exact Eq.symm (by assumption) | rfl) | exact (tellS_out h1).symm), rfl, rfl, rfl⟩
      · refine go_iconst (z := 139) (v := 1) dX4_tell_138 rfl (by decide) ?_
        refine go_goto (z := 143) dX4_tell_139 (by decide) ?_
        refine go_iret dX4_tell_143 rfl ?_
        exact ⟨congrArg (fun w => some (Value.int w)) (by first | (simp only [tellS, h1]; first | exact z _ (by omega) | exact h6 | exact (zb _ (by assumption)).symm | exact Eq.symm (by assumption) | rfl) | exact (tellS_out h1).symm), rfl, rfl, rfl⟩
    · refine go_tabIn (z := 144) 12 dX4_tell_1 h1 (by decide) (by decide) rfl (by decide) ?_
      refine go_aload_n (z := 145) dX4_tell_144 rfl rfl ?_
      refine go_callV (z := 148) (t := 4) [] dX4_tell_145 rfl mlX4_isIdle vX4_214 ⟨by decide, rfl⟩ (by assumption) rfl rfl (by decide) cat_nil (by simp) (by decide) (by first | decide | omega) (by first | decide | omega) (c_isIdle hL hR) ?_
      refine ret_elim ?_
      refine go_if_eq (z := 155) (z2 := 151) dX4_tell_148 rfl (by decide) (fun h148 => ?_) (fun h148 => ?_)
      · refine go_iconst (z := 156) (v := 0) dX4_tell_155 rfl (by decide) ?_
        refine go_iret dX4_tell_156 rfl ?_
        exact ⟨congrArg (fun w => some (Value.int w)) (by first | (simp only [tellS, h1]; first | exact z _ (by omega) | exact h6 | exact (zb _ (by assumption)).symm | exact Eq.symm (by assumption) | rfl) | exact (tellS_out h1).symm), rfl, rfl, rfl⟩
      · refine go_iconst (z := 152) (v := 1) dX4_tell_151 rfl (by decide) ?_
        refine go_goto (z := 156) dX4_tell_152 (by decide) ?_
        refine go_iret dX4_tell_156 rfl ?_
        exact ⟨congrArg (fun w => some (Value.int w)) (by first | (simp only [tellS, h1]; first | exact z _ (by omega) | exact h6 | exact (zb _ (by assumption)).symm | exact Eq.symm (by assumption) | rfl) | exact (tellS_out h1).symm), rfl, rfl, rfl⟩
    · refine go_tabIn (z := 157) 13 dX4_tell_1 h1 (by decide) (by decide) rfl (by decide) ?_
      refine go_aload_n (z := 158) dX4_tell_157 rfl rfl ?_
      refine go_getI (z := 161) dX4_tell_158 rfl fX4_9 (by assumption) rfl ?_
      refine go_iret dX4_tell_161 rfl ?_
      exact ⟨congrArg (fun w => some (Value.int w)) (by first | (simp only [tellS, h1]; first | exact z _ (by omega) | exact h6 | exact (zb _ (by assumption)).symm | exact Eq.symm (by assumption) | rfl) | exact (tellS_out h1).symm), rfl, rfl, rfl⟩
    · refine go_tabIn (z := 162) 14 dX4_tell_1 h1 (by decide) (by decide) rfl (by decide) ?_
      refine go_aload_n (z := 163) dX4_tell_162 rfl rfl ?_
      refine go_getI (z := 166) dX4_tell_163 rfl fX4_15 (by assumption) rfl ?_
      refine go_iret dX4_tell_166 rfl ?_
      exact ⟨congrArg (fun w => some (Value.int w)) (by first | (simp only [tellS, h1]; first | exact z _ (by omega) | exact h6 | exact (zb _ (by assumption)).symm | exact Eq.symm (by assumption) | rfl) | exact (tellS_out h1).symm), rfl, rfl, rfl⟩
end STATE6
