/-! sums; messages sent and taken away; errands added -/
def smF (s : Nat → Int32) (w : Nat) : Nat → Int32
  | 0 => 0
  | c + 1 => smF s w c + hF s c w
def gwF (s : Nat → Int32) : Nat → Int32
  | 0 => 0
  | c + 1 => gwF s c + gF s c 3
def idF (s : Nat → Int32) : Nat → Bool
  | 0 => decide (smF s 0 6 = 0)
  | c + 1 => idF s c && decide (gF s c 0 = 3)
section MSEND
variable {l : Launch} {G : GG} {n : Nat} {i : IP} {r : RP} {M : Nat} {s : Nat → Int32}
theorem c_mSumH {w : Nat} (hX : MoX G n M r) (hw : w < 9) : Go l G mX6_sumOfHouses 1 0 0 0 (lentry [.ref M, .int (nI w)] 4) [] n (upr i (M + 1) s) r (RetI (smF s w 6) n (upr i (M + 1) s) r) := by
  obtain ⟨hM, -, -⟩ := id hX
  have loop : ∀ d c, c + d = 6 → Go l G mX6_sumOfHouses 1 0 0 4 [some (.ref M), some (.int (nI w)), some (.int (smF s w c)), some (.int (nI c))] [] n (upr i (M + 1) s) r (RetI (smF s w 6) n (upr i (M + 1) s) r) := by
    intro d
    induction d with
    | zero =>
      intro c hc
      have hc : c = 6 := by omega
      subst hc
      refine go_iload_n (z := 5) dX6_sumOfHouses_4 rfl rfl ?_
      refine go_bipush (z := 7) (v := 6) dX6_sumOfHouses_5 rfl (by decide) ?_
      refine go_icmp_ge (z := 25) (z2 := 10) dX6_sumOfHouses_7 rfl (by decide) (fun _ => ?_) (fun h => absurd (by decide) h)
      refine go_iload_n (z := 26) dX6_sumOfHouses_25 rfl rfl ?_
      exact go_iret dX6_sumOfHouses_26 rfl ret_ok
    | succ d ih =>
      intro c hc
      refine go_iload_n (z := 5) dX6_sumOfHouses_4 rfl rfl ?_
      refine go_bipush (z := 7) (v := 6) dX6_sumOfHouses_5 rfl (by decide) ?_
      refine go_icmp_ge (z := 25) (z2 := 10) dX6_sumOfHouses_7 rfl (by decide) (fun h => absurd ((nI_leI (a := 6) (by omega) (by omega)).mp h) (by omega)) (fun _ => ?_)
      refine go_iload_n (z := 11) dX6_sumOfHouses_10 rfl rfl ?_
      refine go_aload_n (z := 12) dX6_sumOfHouses_11 rfl rfl ?_
      refine go_iload_n (z := 13) dX6_sumOfHouses_12 rfl rfl ?_
      refine go_iload_n (z := 14) dX6_sumOfHouses_13 rfl rfl ?_
      refine go_callV (z := 17) (t := 6) [.int (nI c), .int (nI w)] dX6_sumOfHouses_14 rfl mlX6_ofHouse vX6_67 ⟨by decide, rfl⟩ hM rfl rfl (by decide) (cat_i (cat_i cat_nil)) (by simp) (by decide) (by first | decide | omega) (by first | decide | omega) (c_mOfHouse hX (by omega) hw) ?_
      refine ret_elim ?_
      refine go_iadd (z := 18) dX6_sumOfHouses_17 rfl ?_
      refine go_istore_n (z := 19) dX6_sumOfHouses_18 rfl (by decide) ?_
      refine go_iinc (z := 22) dX6_sumOfHouses_19 rfl rfl (nI_1 c) (by decide) ?_
      refine go_goto (z := 4) dX6_sumOfHouses_22 (by decide) ?_
      exact ih (c + 1) (by omega)
  refine go_iconst (z := 1) (v := 0) dX6_sumOfHouses_0 rfl (by decide) ?_
  refine go_istore_n (z := 2) dX6_sumOfHouses_1 rfl (by decide) ?_
  refine go_iconst (z := 3) (v := 0) dX6_sumOfHouses_2 rfl (by decide) ?_
  refine go_istore_n (z := 4) dX6_sumOfHouses_3 rfl (by decide) ?_
  exact loop 6 0 rfl
theorem c_mGrainsW {c : Nat} (hX : MoX G n M r) (hc4 : s 4 = nI c) (hc : c ≤ 144) : Go l G mX6_grainsOnWay 1 0 0 0 (lentry [.ref M] 3) [] n (upr i (M + 1) s) r (RetI (gwF s c) n (upr i (M + 1) s) r) := by
  obtain ⟨hM, hr0, hs⟩ := id hX
  have loop : ∀ d m, m + d = c → Go l G mX6_grainsOnWay 1 0 0 4 [some (.ref M), some (.int (gwF s m)), some (.int (nI m))] [] n (upr i (M + 1) s) r (RetI (gwF s c) n (upr i (M + 1) s) r) := by
    intro d
    induction d with
    | zero =>
      intro m hm
      have hm : m = c := by omega
      subst hm
      refine go_iload_n (z := 5) dX6_grainsOnWay_4 rfl rfl ?_
      refine go_aload_n (z := 6) dX6_grainsOnWay_5 rfl rfl ?_
      refine go_getR (z := 9) dX6_grainsOnWay_6 rfl fX6_7 (by assumption) rfl (by assumption) ?_
      refine go_iconst (z := 10) (v := 4) dX6_grainsOnWay_9 rfl (by decide) ?_
      refine go_ialdM (z := 11) 4 (by assumption) (by decide) rfl (by omega) dX6_grainsOnWay_10 rfl ?_
      rw [hc4]
      refine go_icmp_ge (z := 29) (z2 := 14) dX6_grainsOnWay_11 rfl (by decide) (fun _ => ?_) (fun h => absurd (Int32.le_refl _) h)
      refine go_iload_n (z := 30) dX6_grainsOnWay_29 rfl rfl ?_
      exact go_iret dX6_grainsOnWay_30 rfl ret_ok
    | succ d ih =>
      intro m hm
      refine go_iload_n (z := 5) dX6_grainsOnWay_4 rfl rfl ?_
      refine go_aload_n (z := 6) dX6_grainsOnWay_5 rfl rfl ?_
      refine go_getR (z := 9) dX6_grainsOnWay_6 rfl fX6_7 (by assumption) rfl (by assumption) ?_
      refine go_iconst (z := 10) (v := 4) dX6_grainsOnWay_9 rfl (by decide) ?_
      refine go_ialdM (z := 11) 4 (by assumption) (by decide) rfl (by omega) dX6_grainsOnWay_10 rfl ?_
      rw [hc4]
      refine go_icmp_ge (z := 29) (z2 := 14) dX6_grainsOnWay_11 rfl (by decide) (fun h => absurd ((nI_leI (by omega) (by omega)).mp h) (by omega)) (fun _ => ?_)
      refine go_iload_n (z := 15) dX6_grainsOnWay_14 rfl rfl ?_
      refine go_aload_n (z := 16) dX6_grainsOnWay_15 rfl rfl ?_
      refine go_iload_n (z := 17) dX6_grainsOnWay_16 rfl rfl ?_
      refine go_iconst (z := 18) (v := 3) dX6_grainsOnWay_17 rfl (by decide) ?_
      refine go_callV (z := 21) (t := 6) [.int (nI m), .int (nI 3)] dX6_grainsOnWay_18 rfl mlX6_ofMessage vX6_60 ⟨by decide, rfl⟩ hM rfl rfl (by decide) (cat_i (cat_i cat_nil)) (by simp) (by decide) (by first | decide | omega) (by first | decide | omega) (c_mOfMsg hX (by omega) (by omega)) ?_
      refine ret_elim ?_
      refine go_iadd (z := 22) dX6_grainsOnWay_21 rfl ?_
      refine go_istore_n (z := 23) dX6_grainsOnWay_22 rfl (by decide) ?_
      refine go_iinc (z := 26) dX6_grainsOnWay_23 rfl rfl (nI_1 m) (by decide) ?_
      refine go_goto (z := 4) dX6_grainsOnWay_26 (by decide) ?_
      exact ih (m + 1) (by omega)
  refine go_iconst (z := 1) (v := 0) dX6_grainsOnWay_0 rfl (by decide) ?_
  refine go_istore_n (z := 2) dX6_grainsOnWay_1 rfl (by decide) ?_
  refine go_iconst (z := 3) (v := 0) dX6_grainsOnWay_2 rfl (by decide) ?_
  refine go_istore_n (z := 4) dX6_grainsOnWay_3 rfl (by decide) ?_
  exact loop c 0 (by omega)
theorem c_mQuiet (hX : MoX G n M r) : Go l G mX6_isQuiet 0 0 0 0 (lentry [.ref M] 1) [] n (upr i (M + 1) s) r (RetI (b2i (decide (s 1 = s 2))) n (upr i (M + 1) s) r) := by
  obtain ⟨hM, hr0, hs⟩ := id hX
  refine go_aload_n (z := 1) dX6_isQuiet_0 rfl rfl ?_
  refine go_getR (z := 4) dX6_isQuiet_1 rfl fX6_7 (by assumption) rfl (by assumption) ?_
  refine go_iconst (z := 5) (v := 1) dX6_isQuiet_4 rfl (by decide) ?_
  refine go_ialdM (z := 6) 1 (by assumption) (by decide) rfl (by omega) dX6_isQuiet_5 rfl ?_
  refine go_aload_n (z := 7) dX6_isQuiet_6 rfl rfl ?_
  refine go_getR (z := 10) dX6_isQuiet_7 rfl fX6_7 (by assumption) rfl (by assumption) ?_
  refine go_iconst (z := 11) (v := 2) dX6_isQuiet_10 rfl (by decide) ?_
  refine go_ialdM (z := 12) 2 (by assumption) (by decide) rfl (by omega) dX6_isQuiet_11 rfl ?_
  refine go_icmp_ne (z := 19) (z2 := 15) dX6_isQuiet_12 rfl (by decide) (fun h => ?_) (fun h => ?_)
  · refine go_iconst (z := 20) (v := 0) dX6_isQuiet_19 rfl (by decide) ?_
    refine go_zret dX6_isQuiet_20 rfl (congrArg Value.int (by decide)) ?_
    rw [decide_eq_false h]
    exact ret_ok
  · refine go_iconst (z := 16) (v := 1) dX6_isQuiet_15 rfl (by decide) ?_
    refine go_goto (z := 20) dX6_isQuiet_16 (by decide) ?_
    refine go_zret dX6_isQuiet_20 rfl (congrArg Value.int (by decide)) ?_
    rw [decide_eq_true h]
    exact ret_ok
theorem c_mIdle {c : Nat} (hX : MoX G n M r) (hc4 : s 4 = nI c) (hc : c ≤ 144) : Go l G mX6_isIdle 2 0 0 0 (lentry [.ref M] 3) [] n (upr i (M + 1) s) r (RetI (b2i (idF s c)) n (upr i (M + 1) s) r) := by
  obtain ⟨hM, hr0, hs⟩ := id hX
  have loop : ∀ d m, m + d = c → Go l G mX6_isIdle 2 0 0 16 [some (.ref M), some (.int (b2i (idF s m))), some (.int (nI m))] [] n (upr i (M + 1) s) r (RetI (b2i (idF s c)) n (upr i (M + 1) s) r) := by
    intro d
    induction d with
    | zero =>
      intro m hm
      have hm : m = c := by omega
      subst hm
      refine go_iload_n (z := 17) dX6_isIdle_16 rfl rfl ?_
      refine go_aload_n (z := 18) dX6_isIdle_17 rfl rfl ?_
      refine go_getR (z := 21) dX6_isIdle_18 rfl fX6_7 (by assumption) rfl (by assumption) ?_
      refine go_iconst (z := 22) (v := 4) dX6_isIdle_21 rfl (by decide) ?_
      refine go_ialdM (z := 23) 4 (by assumption) (by decide) rfl (by omega) dX6_isIdle_22 rfl ?_
      rw [hc4]
      refine go_icmp_ge (z := 52) (z2 := 26) dX6_isIdle_23 rfl (by decide) (fun _ => ?_) (fun h => absurd (Int32.le_refl _) h)
      refine go_iload_n (z := 53) dX6_isIdle_52 rfl rfl ?_
      exact go_zret dX6_isIdle_53 rfl (by cases idF s m <;> exact congrArg Value.int (by decide)) ret_ok
    | succ d ih =>
      intro m hm
      have e : idF s (m + 1) = (idF s m && decide (gF s m 0 = 3)) := rfl
      have no : idF s (m + 1) = false → ∀ f, Go l G mX6_isIdle 2 0 0 44 [some (.ref M), f, some (.int (nI m))] [] n (upr i (M + 1) s) r (RetI (b2i (idF s c)) n (upr i (M + 1) s) r) := by
        intro h f
        refine go_iconst (z := 45) (v := 0) dX6_isIdle_44 rfl (by decide) ?_
        refine go_istore_n (z := 46) dX6_isIdle_45 rfl (by decide) ?_
        refine go_iinc (z := 49) dX6_isIdle_46 rfl rfl (nI_1 m) (by decide) ?_
        refine go_goto (z := 16) dX6_isIdle_49 (by decide) ?_
        have := ih (m + 1) (by omega)
        rw [h] at this
        exact this
      refine go_iload_n (z := 17) dX6_isIdle_16 rfl rfl ?_
      refine go_aload_n (z := 18) dX6_isIdle_17 rfl rfl ?_
      refine go_getR (z := 21) dX6_isIdle_18 rfl fX6_7 (by assumption) rfl (by assumption) ?_
      refine go_iconst (z := 22) (v := 4) dX6_isIdle_21 rfl (by decide) ?_
      refine go_ialdM (z := 23) 4 (by assumption) (by decide) rfl (by omega) dX6_isIdle_22 rfl ?_
      rw [hc4]
      refine go_icmp_ge (z := 52) (z2 := 26) dX6_isIdle_23 rfl (by decide) (fun h => absurd ((nI_leI (by omega) (by omega)).mp h) (by omega)) (fun _ => ?_)
      refine go_iload_n (z := 27) dX6_isIdle_26 rfl rfl ?_
      refine go_if_eq (z := 44) (z2 := 30) dX6_isIdle_27 rfl (by decide) (fun h => no (by rw [e, b2i_eq h, Bool.false_and]) _) (fun h => ?_)
      refine go_aload_n (z := 31) dX6_isIdle_30 rfl rfl ?_
      refine go_iload_n (z := 32) dX6_isIdle_31 rfl rfl ?_
      refine go_iconst (z := 33) (v := 0) dX6_isIdle_32 rfl (by decide) ?_
      refine go_callV (z := 36) (t := 6) [.int (nI m), .int (nI 0)] dX6_isIdle_33 rfl mlX6_ofMessage vX6_60 ⟨by decide, rfl⟩ hM rfl rfl (by decide) (cat_i (cat_i cat_nil)) (by simp) (by decide) (by first | decide | omega) (by first | decide | omega) (c_mOfMsg hX (by omega) (by omega)) ?_
      refine ret_elim ?_
      refine go_iconst (z := 37) (v := 3) dX6_isIdle_36 rfl (by decide) ?_
      refine go_icmp_ne (z := 44) (z2 := 40) dX6_isIdle_37 rfl (by decide) (fun h2 => no (by rw [e, decide_eq_false h2, Bool.and_false]) _) (fun h2 => ?_)
      refine go_iconst (z := 41) (v := 1) dX6_isIdle_40 rfl (by decide) ?_
      refine go_goto (z := 45) dX6_isIdle_41 (by decide) ?_
      refine go_istore_n (z := 46) dX6_isIdle_45 rfl (by decide) ?_
      refine go_iinc (z := 49) dX6_isIdle_46 rfl rfl (nI_1 m) (by decide) ?_
      refine go_goto (z := 16) dX6_isIdle_49 (by decide) ?_
      have := ih (m + 1) (by omega)
      rw [show idF s (m + 1) = true by rw [e, b2i_ne h, decide_eq_true h2]; rfl] at this
      exact this
  refine go_aload_n (z := 1) dX6_isIdle_0 rfl rfl ?_
  refine go_iconst (z := 2) (v := 0) dX6_isIdle_1 rfl (by decide) ?_
  refine go_callV (z := 5) (t := 6) [.int (nI 0)] dX6_isIdle_2 rfl mlX6_sumOfHouses vX6_100 ⟨by decide, rfl⟩ hM rfl rfl (by decide) (cat_i cat_nil) (by simp) (by decide) (by first | decide | omega) (by first | decide | omega) (c_mSumH hX (by omega)) ?_
  refine ret_elim ?_
  refine go_if_ne (z := 12) (z2 := 8) dX6_isIdle_5 rfl (by decide) (fun h => ?_) (fun h => ?_)
  · refine go_iconst (z := 13) (v := 0) dX6_isIdle_12 rfl (by decide) ?_
    refine go_istore_n (z := 14) dX6_isIdle_13 rfl (by decide) ?_
    refine go_iconst (z := 15) (v := 0) dX6_isIdle_14 rfl (by decide) ?_
    refine go_istore_n (z := 16) dX6_isIdle_15 rfl (by decide) ?_
    have := loop c 0 (by omega)
    rw [show idF s 0 = false from decide_eq_false h] at this
    exact this
  · refine go_iconst (z := 9) (v := 1) dX6_isIdle_8 rfl (by decide) ?_
    refine go_goto (z := 13) dX6_isIdle_9 (by decide) ?_
    refine go_istore_n (z := 14) dX6_isIdle_13 rfl (by decide) ?_
    refine go_iconst (z := 15) (v := 0) dX6_isIdle_14 rfl (by decide) ?_
    refine go_istore_n (z := 16) dX6_isIdle_15 rfl (by decide) ?_
    have := loop c 0 (by omega)
    rw [show idF s 0 = true from decide_eq_true h] at this
    exact this
/-! a message sent -/
def rPut (s : Nat → Int32) (c : Nat) (k f t g a b : Int32) : Nat → Int32 := up1 (up1 (up1 (up1 (up1 (up1 s (508 + 6 * c + 0) k) (508 + 6 * c + 1) f) (508 + 6 * c + 2) t) (508 + 6 * c + 3) g) (508 + 6 * c + 4) a) (508 + 6 * c + 5) b
def rSend (s : Nat → Int32) (c : Nat) (k : Int32) (f t : Nat) (g b : Int32) : Nat → Int32 := up1 (rPut s c k (nI f) (nI t) g (s 0 + rTB s f t) b) 4 (nI (c + 1))
theorem rTB_congr {s s' : Nat → Int32} {f t : Nat} (h : ∀ k, k < 54 → s' k = s k) (hf : f < 7) (ht : t < 7) (hft : f < 6 ∨ t < 6) : rTB s' f t = rTB s f t := by
  unfold rTB
  split
  · exact h _ (by omega)
  · split
    · exact h _ (by omega)
    · exact h _ (by omega)
theorem c_mSendM {c : Nat} {k g b : Int32} {f t : Nat} (hX : MoX G n M r) (hc4 : s 4 = nI c) (hc : c < 144) (hf : f < 7) (ht : t < 7) (hft : f < 6 ∨ t < 6) : Go l G mX6_send 1 0 0 0 (lentry [.ref M, .int k, .int (nI f), .int (nI t), .int g, .int b] 7) [] n (upr i (M + 1) s) r (Ret none n (upr i (M + 1) (rSend s c k f t g b)) r) := by
  obtain ⟨hM, hr0, hs⟩ := id hX
  refine go_sipush (z := 3) (v := 508) dX6_send_0 rfl (by decide) ?_
  refine go_bipush (z := 5) (v := 6) dX6_send_3 rfl (by decide) ?_
  refine go_aload_n (z := 6) dX6_send_5 rfl rfl ?_
  refine go_getR (z := 9) dX6_send_6 rfl fX6_7 (by assumption) rfl (by assumption) ?_
  refine go_iconst (z := 10) (v := 4) dX6_send_9 rfl (by decide) ?_
  refine go_ialdM (z := 11) 4 (by assumption) (by decide) rfl (by omega) dX6_send_10 rfl ?_
  refine go_imul (z := 12) dX6_send_11 rfl ?_
  refine go_iadd (z := 13) dX6_send_12 rfl ?_
  refine go_istore (z := 15) dX6_send_13 rfl (by decide) ?_
  rw [hc4]
  refine go_aload_n (z := 16) dX6_send_15 rfl rfl ?_
  refine go_getR (z := 19) dX6_send_16 rfl fX6_7 (by assumption) rfl (by assumption) ?_
  refine go_iload (z := 21) dX6_send_19 rfl rfl ?_
  refine go_iconst (z := 22) (v := 0) dX6_send_21 rfl (by decide) ?_
  refine go_iadd (z := 23) dX6_send_22 rfl ?_
  refine go_iload_n (z := 24) dX6_send_23 rfl rfl ?_
  refine go_iastM (z := 25) (508 + 6 * c + 0) (by assumption) (by decide) (ixG c 0) (by omega) dX6_send_24 rfl ?_
  refine go_aload_n (z := 26) dX6_send_25 rfl rfl ?_
  refine go_getR (z := 29) dX6_send_26 rfl fX6_7 (by assumption) rfl (by assumption) ?_
  refine go_iload (z := 31) dX6_send_29 rfl rfl ?_
  refine go_iconst (z := 32) (v := 1) dX6_send_31 rfl (by decide) ?_
  refine go_iadd (z := 33) dX6_send_32 rfl ?_
  refine go_iload_n (z := 34) dX6_send_33 rfl rfl ?_
  refine go_iastM (z := 35) (508 + 6 * c + 1) (by assumption) (by decide) (ixG c 1) (by omega) dX6_send_34 rfl ?_
  refine go_aload_n (z := 36) dX6_send_35 rfl rfl ?_
  refine go_getR (z := 39) dX6_send_36 rfl fX6_7 (by assumption) rfl (by assumption) ?_
  refine go_iload (z := 41) dX6_send_39 rfl rfl ?_
  refine go_iconst (z := 42) (v := 2) dX6_send_41 rfl (by decide) ?_
  refine go_iadd (z := 43) dX6_send_42 rfl ?_
  refine go_iload_n (z := 44) dX6_send_43 rfl rfl ?_
  refine go_iastM (z := 45) (508 + 6 * c + 2) (by assumption) (by decide) (ixG c 2) (by omega) dX6_send_44 rfl ?_
  refine go_aload_n (z := 46) dX6_send_45 rfl rfl ?_
  refine go_getR (z := 49) dX6_send_46 rfl fX6_7 (by assumption) rfl (by assumption) ?_
  refine go_iload (z := 51) dX6_send_49 rfl rfl ?_
  refine go_iconst (z := 52) (v := 3) dX6_send_51 rfl (by decide) ?_
  refine go_iadd (z := 53) dX6_send_52 rfl ?_
  refine go_iload (z := 55) dX6_send_53 rfl rfl ?_
  refine go_iastM (z := 56) (508 + 6 * c + 3) (by assumption) (by decide) (ixG c 3) (by omega) dX6_send_55 rfl ?_
  refine go_aload_n (z := 57) dX6_send_56 rfl rfl ?_
  refine go_getR (z := 60) dX6_send_57 rfl fX6_7 (by assumption) rfl (by assumption) ?_
  refine go_iload (z := 62) dX6_send_60 rfl rfl ?_
  refine go_iconst (z := 63) (v := 4) dX6_send_62 rfl (by decide) ?_
  refine go_iadd (z := 64) dX6_send_63 rfl ?_
  generalize hs1 : up1 (up1 (up1 (up1 s _ _) _ _) _ _) _ _ = s1
  have h1 : ∀ k, k < 508 → s1 k = s k := fun k hk => by
    rw [← hs1, up1_n (by omega), up1_n (by omega), up1_n (by omega), up1_n (by omega)]
  refine go_aload_n (z := 65) dX6_send_64 rfl rfl ?_
  refine go_getR (z := 68) dX6_send_65 rfl fX6_7 (by assumption) rfl (by assumption) ?_
  refine go_iconst (z := 69) (v := 0) dX6_send_68 rfl (by decide) ?_
  refine go_ialdM (z := 70) 0 (by assumption) (by decide) rfl (by omega) dX6_send_69 rfl ?_
  refine go_aload_n (z := 71) dX6_send_70 rfl rfl ?_
  refine go_iload_n (z := 72) dX6_send_71 rfl rfl ?_
  refine go_iload_n (z := 73) dX6_send_72 rfl rfl ?_
  refine go_callV (z := 76) (t := 6) [.int (nI f), .int (nI t)] dX6_send_73 rfl mlX6_timeBetween vX6_57 ⟨by decide, rfl⟩ hM rfl rfl (by decide) (cat_i (cat_i cat_nil)) (by simp) (by decide) (by first | decide | omega) (by first | decide | omega) (c_mTB hX hf ht hft) ?_
  refine ret_elim ?_
  refine go_iadd (z := 77) dX6_send_76 rfl ?_
  rw [h1 0 (by omega), rTB_congr (fun k hk => h1 k (by omega)) hf ht hft]
  refine go_iastM (z := 78) (508 + 6 * c + 4) (by assumption) (by decide) (ixG c 4) (by omega) dX6_send_77 rfl ?_
  refine go_aload_n (z := 79) dX6_send_78 rfl rfl ?_
  refine go_getR (z := 82) dX6_send_79 rfl fX6_7 (by assumption) rfl (by assumption) ?_
  refine go_iload (z := 84) dX6_send_82 rfl rfl ?_
  refine go_iconst (z := 85) (v := 5) dX6_send_84 rfl (by decide) ?_
  refine go_iadd (z := 86) dX6_send_85 rfl ?_
  refine go_iload (z := 88) dX6_send_86 rfl rfl ?_
  refine go_iastM (z := 89) (508 + 6 * c + 5) (by assumption) (by decide) (ixG c 5) (by omega) dX6_send_88 rfl ?_
  refine go_aload_n (z := 90) dX6_send_89 rfl rfl ?_
  refine go_getR (z := 93) dX6_send_90 rfl fX6_7 (by assumption) rfl (by assumption) ?_
  refine go_iconst (z := 94) (v := 4) dX6_send_93 rfl (by decide) ?_
  refine go_dup2 (z := 95) dX6_send_94 rfl rfl rfl ?_
  refine go_ialdM (z := 96) 4 (by assumption) (by decide) rfl (by omega) dX6_send_95 rfl ?_
  rw [up1_n (show 4 ≠ 508 + 6 * c + 5 by omega), up1_n (show 4 ≠ 508 + 6 * c + 4 by omega), h1 4 (by omega), hc4]
  refine go_iconst (z := 97) (v := 1) dX6_send_96 rfl (by decide) ?_
  refine go_iadd (z := 98) dX6_send_97 rfl ?_
  rw [nI_1]
  refine go_iastM (z := 99) 4 (by assumption) (by decide) rfl (by omega) dX6_send_98 rfl ?_
  refine go_vret dX6_send_99 rfl ?_
  rw [← hs1]
  exact ret_ok
/-! a message taken away -/
theorem ixG0 (c : Nat) : (508 : Int32) + 6 * nI c = nI (508 + 6 * c) := by
  rw [show (508 : Int32) = nI 508 from rfl, show (6 : Int32) = nI 6 from rfl, pk_mul, nI_add]
def rTake (s : Nat → Int32) (c m : Nat) : Nat → Int32 := fun k => if k = 4 then nI c else if 508 + 6 * m ≤ k ∧ k < 508 + 6 * c then s (k + 6) else s k
def rTakeK (s : Nat → Int32) (c m q : Nat) : Nat → Int32 := fun k => if k = 4 then nI c else if 508 + 6 * m ≤ k ∧ k < q then s (k + 6) else s k
theorem rTakeK_s {s : Nat → Int32} {c m q : Nat} (h : 508 + 6 * m ≤ q) : up1 (rTakeK s c m q) q (s (q + 6)) = rTakeK s c m (q + 1) := by
  funext k
  by_cases e : k = q
  · subst e
    rw [up1_s]
    unfold rTakeK
    rw [if_neg (by omega), if_pos (by omega)]
  · rw [up1_n e]
    unfold rTakeK
    by_cases e4 : k = 4
    · rw [if_pos e4, if_pos e4]
    · rw [if_neg e4, if_neg e4]
      by_cases e5 : 508 + 6 * m ≤ k ∧ k < q
      · rw [if_pos e5, if_pos (by omega)]
      · rw [if_neg e5, if_neg (by omega)]
theorem rTakeK_0 {s : Nat → Int32} {c m : Nat} : up1 s 4 (nI c) = rTakeK s c m (508 + 6 * m) := by
  funext k
  unfold rTakeK
  by_cases e4 : k = 4
  · subst e4; rw [up1_s, if_pos rfl]
  · rw [up1_n e4, if_neg e4, if_neg (by omega)]
theorem c_mTake {c m : Nat} (hX : MoX G n M r) (hc4 : s 4 = nI (c + 1)) (hc : c < 144) (hm : m ≤ c) : Go l G mX6_takeAway 0 0 0 0 (lentry [.ref M, .int (nI m)] 3) [] n (upr i (M + 1) s) r (Ret none n (upr i (M + 1) (rTake s c m)) r) := by
  obtain ⟨hM, hr0, hs⟩ := id hX
  have loop : ∀ d q, q + d = 508 + 6 * c → 508 + 6 * m ≤ q → Go l G mX6_takeAway 0 0 0 19 [some (.ref M), some (.int (nI m)), some (.int (nI q))] [] n (upr i (M + 1) (rTakeK s c m q)) r (Ret none n (upr i (M + 1) (rTake s c m)) r) := by
    intro d
    have h4 : ∀ q, rTakeK s c m q 4 = nI c := fun q => if_pos rfl
    have hix := ixG0 c
    induction d with
    | zero =>
      intro q hq hm2
      have hq : q = 508 + 6 * c := by omega
      subst hq
      refine go_iload_n (z := 20) dX6_takeAway_19 rfl rfl ?_
      refine go_sipush (z := 23) (v := 508) dX6_takeAway_20 rfl (by decide) ?_
      refine go_bipush (z := 25) (v := 6) dX6_takeAway_23 rfl (by decide) ?_
      refine go_aload_n (z := 26) dX6_takeAway_25 rfl rfl ?_
      refine go_getR (z := 29) dX6_takeAway_26 rfl fX6_7 (by assumption) rfl (by assumption) ?_
      refine go_iconst (z := 30) (v := 4) dX6_takeAway_29 rfl (by decide) ?_
      refine go_ialdM (z := 31) 4 (by assumption) (by decide) rfl (by omega) dX6_takeAway_30 rfl ?_
      refine go_imul (z := 32) dX6_takeAway_31 rfl ?_
      refine go_iadd (z := 33) dX6_takeAway_32 rfl ?_
      rw [h4, hix]
      refine go_icmp_ge (z := 57) (z2 := 36) dX6_takeAway_33 rfl (by decide) (fun _ => ?_) (fun h => absurd (Int32.le_refl _) h)
      exact go_vret dX6_takeAway_57 rfl ret_ok
    | succ d ih =>
      intro q hq hm2
      refine go_iload_n (z := 20) dX6_takeAway_19 rfl rfl ?_
      refine go_sipush (z := 23) (v := 508) dX6_takeAway_20 rfl (by decide) ?_
      refine go_bipush (z := 25) (v := 6) dX6_takeAway_23 rfl (by decide) ?_
      refine go_aload_n (z := 26) dX6_takeAway_25 rfl rfl ?_
      refine go_getR (z := 29) dX6_takeAway_26 rfl fX6_7 (by assumption) rfl (by assumption) ?_
      refine go_iconst (z := 30) (v := 4) dX6_takeAway_29 rfl (by decide) ?_
      refine go_ialdM (z := 31) 4 (by assumption) (by decide) rfl (by omega) dX6_takeAway_30 rfl ?_
      refine go_imul (z := 32) dX6_takeAway_31 rfl ?_
      refine go_iadd (z := 33) dX6_takeAway_32 rfl ?_
      rw [h4, hix]
      refine go_icmp_ge (z := 57) (z2 := 36) dX6_takeAway_33 rfl (by decide) (fun h => absurd ((nI_leI (by omega) (by omega)).mp h) (by omega)) (fun _ => ?_)
      refine go_aload_n (z := 37) dX6_takeAway_36 rfl rfl ?_
      refine go_getR (z := 40) dX6_takeAway_37 rfl fX6_7 (by assumption) rfl (by assumption) ?_
      refine go_iload_n (z := 41) dX6_takeAway_40 rfl rfl ?_
      refine go_aload_n (z := 42) dX6_takeAway_41 rfl rfl ?_
      refine go_getR (z := 45) dX6_takeAway_42 rfl fX6_7 (by assumption) rfl (by assumption) ?_
      refine go_iload_n (z := 46) dX6_takeAway_45 rfl rfl ?_
      refine go_bipush (z := 48) (v := 6) dX6_takeAway_46 rfl (by decide) ?_
      refine go_iadd (z := 49) dX6_takeAway_48 rfl ?_
      refine go_ialdM (z := 50) (q + 6) (by assumption) (by decide) (nI_add q 6) (by omega) dX6_takeAway_49 rfl ?_
      have e6 : rTakeK s c m q (q + 6) = s (q + 6) := by
        unfold rTakeK
        rw [if_neg (by omega), if_neg (by omega)]
      rw [e6]
      refine go_iastM (z := 51) q (by assumption) (by decide) rfl (by omega) dX6_takeAway_50 rfl ?_
      refine go_iinc (z := 54) dX6_takeAway_51 rfl rfl (nI_1 q) (by decide) ?_
      refine go_goto (z := 19) dX6_takeAway_54 (by decide) ?_
      rw [rTakeK_s hm2]
      exact ih (q + 1) (by omega) (by omega)
  refine go_aload_n (z := 1) dX6_takeAway_0 rfl rfl ?_
  refine go_getR (z := 4) dX6_takeAway_1 rfl fX6_7 (by assumption) rfl (by assumption) ?_
  refine go_iconst (z := 5) (v := 4) dX6_takeAway_4 rfl (by decide) ?_
  refine go_dup2 (z := 6) dX6_takeAway_5 rfl rfl rfl ?_
  refine go_ialdM (z := 7) 4 (by assumption) (by decide) rfl (by omega) dX6_takeAway_6 rfl ?_
  refine go_iconst (z := 8) (v := 1) dX6_takeAway_7 rfl (by decide) ?_
  rw [hc4]
  refine go_isub (z := 9) dX6_takeAway_8 rfl ?_
  rw [nI_pred]
  refine go_iastM (z := 10) 4 (by assumption) (by decide) rfl (by omega) dX6_takeAway_9 rfl ?_
  refine go_sipush (z := 13) (v := 508) dX6_takeAway_10 rfl (by decide) ?_
  refine go_bipush (z := 15) (v := 6) dX6_takeAway_13 rfl (by decide) ?_
  refine go_iload_n (z := 16) dX6_takeAway_15 rfl rfl ?_
  refine go_imul (z := 17) dX6_takeAway_16 rfl ?_
  refine go_iadd (z := 18) dX6_takeAway_17 rfl ?_
  refine go_st (st' := [.int (nI (508 + 6 * m))]) (by rw [ixG0]) ?_
  refine go_istore_n (z := 19) dX6_takeAway_18 rfl (by decide) ?_
  rw [rTakeK_0 (m := m)]
  exact loop (6 * (c - m)) (508 + 6 * m) (by omega) (Nat.le_refl _)
/-! an errand added at the first place that is free -/
def rAdd (s : Nat → Int32) (e : Nat) (g w x : Int32) : Nat → Int32 := uE (uE (uE (uE (uE (up1 s 10 (s 10 + 1)) e 0 g) e 1 w) e 2 x) e 3 (s 10 + 1)) e 4 (if x = 0 then 7 else 8)
theorem c_mAdd {e : Nat} {g w x : Int32} (hX : MoX G n M r) (he : e < 80) (h1 : ¬ 0 < eF s e 4) (h2 : ∀ e', e' < e → 0 < eF s e' 4) : Go l G mX6_add 1 0 0 0 (lentry [.ref M, .int g, .int w, .int x] 5) [] n (upr i (M + 1) s) r (RetI (nI e) n (upr i (M + 1) (rAdd s e g w x)) r) := by
  obtain ⟨hM, hr0, hs⟩ := id hX
  have loop : ∀ d c, c + d = e → Go l G mX6_add 1 0 0 3 [some (.ref M), some (.int g), some (.int w), some (.int x), some (.int (nI c))] [] n (upr i (M + 1) s) r (RetI (nI e) n (upr i (M + 1) (rAdd s e g w x)) r) := by
    intro d
    induction d with
    | zero =>
      intro c hc
      have hc : c = e := by omega
      subst hc
      refine go_aload_n (z := 4) dX6_add_3 rfl rfl ?_
      refine go_iload (z := 6) dX6_add_4 rfl rfl ?_
      refine go_iconst (z := 7) (v := 4) dX6_add_6 rfl (by decide) ?_
      refine go_callV (z := 10) (t := 6) [.int (nI c), .int (nI 4)] dX6_add_7 rfl mlX6_ofErrand vX6_39 ⟨by decide, rfl⟩ hM rfl rfl (by decide) (cat_i (cat_i cat_nil)) (by simp) (by decide) (by first | decide | omega) (by first | decide | omega) (c_mOfErrand hX (by omega) (by omega)) ?_
      refine ret_elim ?_
      refine go_if_le (z := 19) (z2 := 13) dX6_add_10 rfl (by decide) (fun _ => ?_) (fun h => absurd (Int32.not_le.mp h) h1)
      refine go_aload_n (z := 20) dX6_add_19 rfl rfl ?_
      refine go_getR (z := 23) dX6_add_20 rfl fX6_7 (by assumption) rfl (by assumption) ?_
      refine go_bipush (z := 25) (v := 10) dX6_add_23 rfl (by decide) ?_
      refine go_dup2 (z := 26) dX6_add_25 rfl rfl rfl ?_
      refine go_ialdM (z := 27) 10 (by assumption) (by decide) rfl (by omega) dX6_add_26 rfl ?_
      refine go_iconst (z := 28) (v := 1) dX6_add_27 rfl (by decide) ?_
      refine go_iadd (z := 29) dX6_add_28 rfl ?_
      refine go_iastM (z := 30) 10 (by assumption) (by decide) rfl (by omega) dX6_add_29 rfl ?_
      refine go_aload_n (z := 31) dX6_add_30 rfl rfl ?_
      refine go_iload (z := 33) dX6_add_31 rfl rfl ?_
      refine go_iconst (z := 34) (v := 0) dX6_add_33 rfl (by decide) ?_
      refine go_iload_n (z := 35) dX6_add_34 rfl rfl ?_
      refine go_callV (z := 38) (t := 6) [.int (nI c), .int (nI 0), .int g] dX6_add_35 rfl mlX6_setErrand vX6_53 ⟨by decide, rfl⟩ hM rfl rfl (by decide) (cat_i (cat_i (cat_i cat_nil))) (by simp) (by decide) (by first | decide | omega) (by first | decide | omega) (c_mSetErrand hX he (by omega)) ?_
      refine ret_elim ?_
      refine go_aload_n (z := 39) dX6_add_38 rfl rfl ?_
      refine go_iload (z := 41) dX6_add_39 rfl rfl ?_
      refine go_iconst (z := 42) (v := 1) dX6_add_41 rfl (by decide) ?_
      refine go_iload_n (z := 43) dX6_add_42 rfl rfl ?_
      refine go_callV (z := 46) (t := 6) [.int (nI c), .int (nI 1), .int w] dX6_add_43 rfl mlX6_setErrand vX6_53 ⟨by decide, rfl⟩ hM rfl rfl (by decide) (cat_i (cat_i (cat_i cat_nil))) (by simp) (by decide) (by first | decide | omega) (by first | decide | omega) (c_mSetErrand hX he (by omega)) ?_
      refine ret_elim ?_
      refine go_aload_n (z := 47) dX6_add_46 rfl rfl ?_
      refine go_iload (z := 49) dX6_add_47 rfl rfl ?_
      refine go_iconst (z := 50) (v := 2) dX6_add_49 rfl (by decide) ?_
      refine go_iload_n (z := 51) dX6_add_50 rfl rfl ?_
      refine go_callV (z := 54) (t := 6) [.int (nI c), .int (nI 2), .int x] dX6_add_51 rfl mlX6_setErrand vX6_53 ⟨by decide, rfl⟩ hM rfl rfl (by decide) (cat_i (cat_i (cat_i cat_nil))) (by simp) (by decide) (by first | decide | omega) (by first | decide | omega) (c_mSetErrand hX he (by omega)) ?_
      refine ret_elim ?_
      refine go_aload_n (z := 55) dX6_add_54 rfl rfl ?_
      refine go_iload (z := 57) dX6_add_55 rfl rfl ?_
      refine go_iconst (z := 58) (v := 3) dX6_add_57 rfl (by decide) ?_
      refine go_aload_n (z := 59) dX6_add_58 rfl rfl ?_
      refine go_getR (z := 62) dX6_add_59 rfl fX6_7 (by assumption) rfl (by assumption) ?_
      refine go_bipush (z := 64) (v := 10) dX6_add_62 rfl (by decide) ?_
      refine go_ialdM (z := 65) 10 (by assumption) (by decide) rfl (by omega) dX6_add_64 rfl ?_
      rw [show uE (uE (uE (up1 s 10 (s 10 + 1)) c 0 g) c 1 w) c 2 x 10 = s 10 + 1 from by rw [uE_z (by omega), uE_z (by omega), uE_z (by omega), up1_s]]
      refine go_callV (z := 68) (t := 6) [.int (nI c), .int (nI 3), .int (s 10 + 1)] dX6_add_65 rfl mlX6_setErrand vX6_53 ⟨by decide, rfl⟩ hM rfl rfl (by decide) (cat_i (cat_i (cat_i cat_nil))) (by simp) (by decide) (by first | decide | omega) (by first | decide | omega) (c_mSetErrand hX he (by omega)) ?_
      refine ret_elim ?_
      refine go_aload_n (z := 69) dX6_add_68 rfl rfl ?_
      refine go_iload (z := 71) dX6_add_69 rfl rfl ?_
      refine go_iconst (z := 72) (v := 4) dX6_add_71 rfl (by decide) ?_
      refine go_iload_n (z := 73) dX6_add_72 rfl rfl ?_
      refine go_if_ne (z := 81) (z2 := 76) dX6_add_73 rfl (by decide) (fun h => ?_) (fun h => ?_)
      · refine go_bipush (z := 83) (v := 8) dX6_add_81 rfl (by decide) ?_
        refine go_callV (z := 86) (t := 6) [.int (nI c), .int (nI 4), .int 8] dX6_add_83 rfl mlX6_setErrand vX6_53 ⟨by decide, rfl⟩ hM rfl rfl (by decide) (cat_i (cat_i (cat_i cat_nil))) (by simp) (by decide) (by first | decide | omega) (by first | decide | omega) (c_mSetErrand hX he (by omega)) ?_
        refine ret_elim ?_
        refine go_iload (z := 88) dX6_add_86 rfl rfl ?_
        refine go_iret dX6_add_88 rfl ?_
        unfold rAdd
        rw [if_neg h]
        exact ret_ok
      · refine go_bipush (z := 78) (v := 7) dX6_add_76 rfl (by decide) ?_
        refine go_goto (z := 83) dX6_add_78 (by decide) ?_
        refine go_callV (z := 86) (t := 6) [.int (nI c), .int (nI 4), .int 7] dX6_add_83 rfl mlX6_setErrand vX6_53 ⟨by decide, rfl⟩ hM rfl rfl (by decide) (cat_i (cat_i (cat_i cat_nil))) (by simp) (by decide) (by first | decide | omega) (by first | decide | omega) (c_mSetErrand hX he (by omega)) ?_
        refine ret_elim ?_
        refine go_iload (z := 88) dX6_add_86 rfl rfl ?_
        refine go_iret dX6_add_88 rfl ?_
        unfold rAdd
        rw [if_pos h]
        exact ret_ok
    | succ d ih =>
      intro c hc
      refine go_aload_n (z := 4) dX6_add_3 rfl rfl ?_
      refine go_iload (z := 6) dX6_add_4 rfl rfl ?_
      refine go_iconst (z := 7) (v := 4) dX6_add_6 rfl (by decide) ?_
      refine go_callV (z := 10) (t := 6) [.int (nI c), .int (nI 4)] dX6_add_7 rfl mlX6_ofErrand vX6_39 ⟨by decide, rfl⟩ hM rfl rfl (by decide) (cat_i (cat_i cat_nil)) (by simp) (by decide) (by first | decide | omega) (by first | decide | omega) (c_mOfErrand hX (by omega) (by omega)) ?_
      refine ret_elim ?_
      refine go_if_le (z := 19) (z2 := 13) dX6_add_10 rfl (by decide) (fun h => absurd (h2 c (by omega)) (Int32.not_lt.mpr h)) (fun _ => ?_)
      refine go_iinc (z := 16) dX6_add_13 rfl rfl (nI_1 c) (by decide) ?_
      refine go_goto (z := 3) dX6_add_16 (by decide) ?_
      exact ih (c + 1) (by omega)
  refine go_iconst (z := 1) (v := 0) dX6_add_0 rfl (by decide) ?_
  refine go_istore (z := 3) dX6_add_1 rfl (by decide) ?_
  exact loop e 0 (by omega)
end MSEND
