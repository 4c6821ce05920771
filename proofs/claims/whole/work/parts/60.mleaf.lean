/-! THE REFERENCE: its int row lies at M + 1; what its methods do to it, as functions of the row -/
def upr {α : Type} (f : Nat → Nat → α) (a : Nat) (t : Nat → α) : Nat → Nat → α := fun a' => if a' = a then t else f a'
theorem upr_s {α : Type} {f : Nat → Nat → α} {a : Nat} {t : Nat → α} : upr f a t a = t := by simp [upr]
theorem upr_n {α : Type} {f : Nat → Nat → α} {a b : Nat} {t : Nat → α} (h : b ≠ a) : upr f a t b = f b := by simp [upr, h]
theorem upr_upr {α : Type} {f : Nat → Nat → α} {a : Nat} {t t' : Nat → α} : upr (upr f a t) a t' = upr f a t' := by
  funext b
  by_cases h : b = a
  · subst h; rw [upr_s, upr_s]
  · rw [upr_n h, upr_n h, upr_n h]
theorem upr_id {α : Type} {f : Nat → Nat → α} {a : Nat} : upr f a (f a) = f := by
  funext b
  by_cases h : b = a
  · subst h; rw [upr_s]
  · rw [upr_n h]
theorem ups_upr {α : Type} {f : Nat → Nat → α} {a k : Nat} {t : Nat → α} {x : α} : ups (upr f a t) a k x = upr f a (up1 t k x) := by
  funext b q
  by_cases h : b = a
  · subst h
    rw [upr_s]
    by_cases e : q = k
    · subst e; rw [ups_s, up1_s]
    · rw [ups_k e, up1_n e, upr_s]
  · rw [ups_a h, upr_n h, upr_n h]
section MROWS
variable {l : Launch} {G : GG} {Y : AM} {D k j pc z : Nat} {lo : List (Option Value)} {st : List Value} {n : Nat} {i : IP} {r : RP} {Q : QP}
theorem go_ialdM {a len : Nat} {s : Nat → Int32} {x : Int32} (q : Nat) (ha : OkA G n a 7 len) (hl : len < 2 ^ 31) (hx : x = nI q) (hq : q < len) (hd : decode Y.2.1 pc = .ok (.iaload, 1)) (hz : pc + 1 = z) (K : Go l G Y D k j z lo (.int (s q) :: st) n (upr i a s) r Q) : Go l G Y D k j pc lo (.int x :: .ref a :: st) n (upr i a s) r Q := by
  refine go_iald q ha hl hx hq hd hz ?_
  rw [upr_s]
  exact K
theorem go_iastM {a len : Nat} {s : Nat → Int32} {x y : Int32} (q : Nat) (ha : OkA G n a 7 len) (hl : len < 2 ^ 31) (hx : x = nI q) (hq : q < len) (hd : decode Y.2.1 pc = .ok (.iastore, 1)) (hz : pc + 1 = z) (K : Go l G Y D k j z lo st n (upr i a (up1 s q y)) r Q) : Go l G Y D k j pc lo (.int y :: .int x :: .ref a :: st) n (upr i a s) r Q := by
  refine go_iast q ha hl hx hq hd hz ?_
  rw [ups_upr]
  exact K
end MROWS
/-- the object and its row -/
def MoX (G : GG) (n M : Nat) (r : RP) : Prop := Ok G n M 6 ∧ r M 0 = some (M + 1) ∧ OkA G n (M + 1) 7 1372
theorem ixH (h w : Nat) : (54 : Int32) + 9 * nI h + nI w = nI (54 + 9 * h + w) := by
  rw [show (54 : Int32) = nI 54 from rfl, show (9 : Int32) = nI 9 from rfl, pk_mul, nI_add, nI_add]
theorem ixE (e w : Nat) : (108 : Int32) + 5 * nI e + nI w = nI (108 + 5 * e + w) := by
  rw [show (108 : Int32) = nI 108 from rfl, show (5 : Int32) = nI 5 from rfl, pk_mul, nI_add, nI_add]
theorem ixG (e w : Nat) : (508 : Int32) + 6 * nI e + nI w = nI (508 + 6 * e + w) := by
  rw [show (508 : Int32) = nI 508 from rfl, show (6 : Int32) = nI 6 from rfl, pk_mul, nI_add, nI_add]
def hF (s : Nat → Int32) (h w : Nat) : Int32 := s (54 + 9 * h + w)
def eF (s : Nat → Int32) (e w : Nat) : Int32 := s (108 + 5 * e + w)
def gF (s : Nat → Int32) (m w : Nat) : Int32 := s (508 + 6 * m + w)
def uH (s : Nat → Int32) (h w : Nat) (x : Int32) : Nat → Int32 := up1 s (54 + 9 * h + w) x
def uE (s : Nat → Int32) (e w : Nat) (x : Int32) : Nat → Int32 := up1 s (108 + 5 * e + w) x
section MLEAF
variable {l : Launch} {G : GG} {n : Nat} {i : IP} {r : RP} {M : Nat} {s : Nat → Int32}
theorem c_mIn {x a b : Int32} : Go l G mX6_in 0 0 0 0 (lentry [.int x, .int a, .int b] 3) [] n i r (RetI (b2i (decide (a ≤ x ∧ x ≤ b))) n i r) := by
  refine go_iload_n (z := 1) dX6_in_0 rfl rfl ?_
  refine go_iload_n (z := 2) dX6_in_1 rfl rfl ?_
  refine go_icmp_lt (z := 14) (z2 := 5) dX6_in_2 rfl (by decide) (fun h => ?_) (fun h => ?_)
  · refine go_iconst (z := 15) (v := 0) dX6_in_14 rfl (by decide) ?_
    refine go_zret dX6_in_15 rfl (congrArg Value.int (by decide)) ?_
    rw [decide_eq_false (fun q => absurd h (Int32.not_lt.mpr q.1))]
    exact ret_ok
  · refine go_iload_n (z := 6) dX6_in_5 rfl rfl ?_
    refine go_iload_n (z := 7) dX6_in_6 rfl rfl ?_
    refine go_icmp_gt (z := 14) (z2 := 10) dX6_in_7 rfl (by decide) (fun h2 => ?_) (fun h2 => ?_)
    · refine go_iconst (z := 15) (v := 0) dX6_in_14 rfl (by decide) ?_
      refine go_zret dX6_in_15 rfl (congrArg Value.int (by decide)) ?_
      rw [decide_eq_false (fun q => absurd h2 (Int32.not_lt.mpr q.2))]
      exact ret_ok
    · refine go_iconst (z := 11) (v := 1) dX6_in_10 rfl (by decide) ?_
      refine go_goto (z := 15) dX6_in_11 (by decide) ?_
      refine go_zret dX6_in_15 rfl (congrArg Value.int (by decide)) ?_
      rw [decide_eq_true ⟨Int32.not_lt.mp h, Int32.not_lt.mp h2⟩]
      exact ret_ok
theorem isH_in (x : Int32) : decide ((0 : Int32) ≤ x ∧ x ≤ 5) = isH x := by
  unfold isH
  by_cases h1 : 0 ≤ x
  · rw [decide_eq_true h1, Bool.true_and]
    obtain ⟨c, hc, hx⟩ := nI_of (Int32.not_lt.mpr h1)
    subst hx
    by_cases h2 : nI c < 6
    · rw [decide_eq_true h2]
      exact decide_eq_true ⟨h1, (nI_leI (b := 5) hc (by omega)).mpr (by have := (nI_ltI (b := 6) hc (by omega)).mp h2; omega)⟩
    · rw [decide_eq_false h2]
      exact decide_eq_false (fun q => h2 ((nI_ltI (b := 6) hc (by omega)).mpr (by have := (nI_leI (b := 5) hc (by omega)).mp q.2; omega)))
  · rw [decide_eq_false h1, Bool.false_and]
    exact decide_eq_false (fun q => h1 q.1)
theorem c_mIsHouse {x : Int32} : Go l G mX6_isHouse 1 0 0 0 (lentry [.int x] 1) [] n i r (RetI (b2i (isH x)) n i r) := by
  refine go_iload_n (z := 1) dX6_isHouse_0 rfl rfl ?_
  refine go_iconst (z := 2) (v := 0) dX6_isHouse_1 rfl (by decide) ?_
  refine go_iconst (z := 3) (v := 5) dX6_isHouse_2 rfl (by decide) ?_
  refine go_callS (z := 6) [.int x, .int 0, .int 5] dX6_isHouse_3 rfl mlX6_in sX6_31 rfl rfl (by decide) (cat_i (cat_i (cat_i cat_nil))) (by simp) (by decide) (by first | decide | omega) (by first | decide | omega) (c_mIn) ?_
  refine ret_elim ?_
  refine go_zret dX6_isHouse_6 rfl ?_ ?_
  · rw [isH_in]
    cases isH x <;> exact congrArg Value.int (by decide)
  · rw [isH_in]
    exact ret_ok
theorem c_mOfHouse {h w : Nat} (hX : MoX G n M r) (hh : h < 6) (hw : w < 9) : Go l G mX6_ofHouse 0 0 0 0 (lentry [.ref M, .int (nI h), .int (nI w)] 3) [] n (upr i (M + 1) s) r (RetI (hF s h w) n (upr i (M + 1) s) r) := by
  obtain ⟨hM, hr0, hs⟩ := hX
  refine go_aload_n (z := 1) dX6_ofHouse_0 rfl rfl ?_
  refine go_getR (z := 4) dX6_ofHouse_1 rfl fX6_7 (by assumption) rfl (by assumption) ?_
  refine go_bipush (z := 6) (v := 54) dX6_ofHouse_4 rfl (by decide) ?_
  refine go_bipush (z := 8) (v := 9) dX6_ofHouse_6 rfl (by decide) ?_
  refine go_iload_n (z := 9) dX6_ofHouse_8 rfl rfl ?_
  refine go_imul (z := 10) dX6_ofHouse_9 rfl ?_
  refine go_iadd (z := 11) dX6_ofHouse_10 rfl ?_
  refine go_iload_n (z := 12) dX6_ofHouse_11 rfl rfl ?_
  refine go_iadd (z := 13) dX6_ofHouse_12 rfl ?_
  refine go_ialdM (z := 14) (54 + 9 * h + w) (by assumption) (by decide) (ixH h w) (by omega) dX6_ofHouse_13 rfl ?_
  exact go_iret dX6_ofHouse_14 rfl ret_ok
theorem c_mSetHouse {h w : Nat} {x : Int32} (hX : MoX G n M r) (hh : h < 6) (hw : w < 9) : Go l G mX6_setHouse 0 0 0 0 (lentry [.ref M, .int (nI h), .int (nI w), .int x] 4) [] n (upr i (M + 1) s) r (Ret none n (upr i (M + 1) (uH s h w x)) r) := by
  obtain ⟨hM, hr0, hs⟩ := hX
  refine go_aload_n (z := 1) dX6_setHouse_0 rfl rfl ?_
  refine go_getR (z := 4) dX6_setHouse_1 rfl fX6_7 (by assumption) rfl (by assumption) ?_
  refine go_bipush (z := 6) (v := 54) dX6_setHouse_4 rfl (by decide) ?_
  refine go_bipush (z := 8) (v := 9) dX6_setHouse_6 rfl (by decide) ?_
  refine go_iload_n (z := 9) dX6_setHouse_8 rfl rfl ?_
  refine go_imul (z := 10) dX6_setHouse_9 rfl ?_
  refine go_iadd (z := 11) dX6_setHouse_10 rfl ?_
  refine go_iload_n (z := 12) dX6_setHouse_11 rfl rfl ?_
  refine go_iadd (z := 13) dX6_setHouse_12 rfl ?_
  refine go_iload_n (z := 14) dX6_setHouse_13 rfl rfl ?_
  refine go_iastM (z := 15) (54 + 9 * h + w) (by assumption) (by decide) (ixH h w) (by omega) dX6_setHouse_14 rfl ?_
  exact go_vret dX6_setHouse_15 rfl ret_ok
theorem c_mAddHouse {h w : Nat} {x : Int32} (hX : MoX G n M r) (hh : h < 6) (hw : w < 9) : Go l G mX6_addToHouse 0 0 0 0 (lentry [.ref M, .int (nI h), .int (nI w), .int x] 4) [] n (upr i (M + 1) s) r (Ret none n (upr i (M + 1) (uH s h w (hF s h w + x))) r) := by
  obtain ⟨hM, hr0, hs⟩ := hX
  refine go_aload_n (z := 1) dX6_addToHouse_0 rfl rfl ?_
  refine go_getR (z := 4) dX6_addToHouse_1 rfl fX6_7 (by assumption) rfl (by assumption) ?_
  refine go_bipush (z := 6) (v := 54) dX6_addToHouse_4 rfl (by decide) ?_
  refine go_bipush (z := 8) (v := 9) dX6_addToHouse_6 rfl (by decide) ?_
  refine go_iload_n (z := 9) dX6_addToHouse_8 rfl rfl ?_
  refine go_imul (z := 10) dX6_addToHouse_9 rfl ?_
  refine go_iadd (z := 11) dX6_addToHouse_10 rfl ?_
  refine go_iload_n (z := 12) dX6_addToHouse_11 rfl rfl ?_
  refine go_iadd (z := 13) dX6_addToHouse_12 rfl ?_
  refine go_dup2 (z := 14) dX6_addToHouse_13 rfl rfl rfl ?_
  refine go_ialdM (z := 15) (54 + 9 * h + w) (by assumption) (by decide) (ixH h w) (by omega) dX6_addToHouse_14 rfl ?_
  refine go_iload_n (z := 16) dX6_addToHouse_15 rfl rfl ?_
  refine go_iadd (z := 17) dX6_addToHouse_16 rfl ?_
  refine go_iastM (z := 18) (54 + 9 * h + w) (by assumption) (by decide) (ixH h w) (by omega) dX6_addToHouse_17 rfl ?_
  exact go_vret dX6_addToHouse_18 rfl ret_ok
theorem c_mOfErrand {e w : Nat} (hX : MoX G n M r) (he : e < 80) (hw : w < 5) : Go l G mX6_ofErrand 0 0 0 0 (lentry [.ref M, .int (nI e), .int (nI w)] 3) [] n (upr i (M + 1) s) r (RetI (eF s e w) n (upr i (M + 1) s) r) := by
  obtain ⟨hM, hr0, hs⟩ := hX
  refine go_aload_n (z := 1) dX6_ofErrand_0 rfl rfl ?_
  refine go_getR (z := 4) dX6_ofErrand_1 rfl fX6_7 (by assumption) rfl (by assumption) ?_
  refine go_bipush (z := 6) (v := 108) dX6_ofErrand_4 rfl (by decide) ?_
  refine go_iconst (z := 7) (v := 5) dX6_ofErrand_6 rfl (by decide) ?_
  refine go_iload_n (z := 8) dX6_ofErrand_7 rfl rfl ?_
  refine go_imul (z := 9) dX6_ofErrand_8 rfl ?_
  refine go_iadd (z := 10) dX6_ofErrand_9 rfl ?_
  refine go_iload_n (z := 11) dX6_ofErrand_10 rfl rfl ?_
  refine go_iadd (z := 12) dX6_ofErrand_11 rfl ?_
  refine go_ialdM (z := 13) (108 + 5 * e + w) (by assumption) (by decide) (ixE e w) (by omega) dX6_ofErrand_12 rfl ?_
  exact go_iret dX6_ofErrand_13 rfl ret_ok
theorem c_mSetErrand {e w : Nat} {x : Int32} (hX : MoX G n M r) (he : e < 80) (hw : w < 5) : Go l G mX6_setErrand 0 0 0 0 (lentry [.ref M, .int (nI e), .int (nI w), .int x] 4) [] n (upr i (M + 1) s) r (Ret none n (upr i (M + 1) (uE s e w x)) r) := by
  obtain ⟨hM, hr0, hs⟩ := hX
  refine go_aload_n (z := 1) dX6_setErrand_0 rfl rfl ?_
  refine go_getR (z := 4) dX6_setErrand_1 rfl fX6_7 (by assumption) rfl (by assumption) ?_
  refine go_bipush (z := 6) (v := 108) dX6_setErrand_4 rfl (by decide) ?_
  refine go_iconst (z := 7) (v := 5) dX6_setErrand_6 rfl (by decide) ?_
  refine go_iload_n (z := 8) dX6_setErrand_7 rfl rfl ?_
  refine go_imul (z := 9) dX6_setErrand_8 rfl ?_
  refine go_iadd (z := 10) dX6_setErrand_9 rfl ?_
  refine go_iload_n (z := 11) dX6_setErrand_10 rfl rfl ?_
  refine go_iadd (z := 12) dX6_setErrand_11 rfl ?_
  refine go_iload_n (z := 13) dX6_setErrand_12 rfl rfl ?_
  refine go_iastM (z := 14) (108 + 5 * e + w) (by assumption) (by decide) (ixE e w) (by omega) dX6_setErrand_13 rfl ?_
  exact go_vret dX6_setErrand_14 rfl ret_ok
theorem c_mOfMsg {m w : Nat} (hX : MoX G n M r) (hm : m < 144) (hw : w < 6) : Go l G mX6_ofMessage 0 0 0 0 (lentry [.ref M, .int (nI m), .int (nI w)] 3) [] n (upr i (M + 1) s) r (RetI (gF s m w) n (upr i (M + 1) s) r) := by
  obtain ⟨hM, hr0, hs⟩ := hX
  refine go_aload_n (z := 1) dX6_ofMessage_0 rfl rfl ?_
  refine go_getR (z := 4) dX6_ofMessage_1 rfl fX6_7 (by assumption) rfl (by assumption) ?_
  refine go_sipush (z := 7) (v := 508) dX6_ofMessage_4 rfl (by decide) ?_
  refine go_bipush (z := 9) (v := 6) dX6_ofMessage_7 rfl (by decide) ?_
  refine go_iload_n (z := 10) dX6_ofMessage_9 rfl rfl ?_
  refine go_imul (z := 11) dX6_ofMessage_10 rfl ?_
  refine go_iadd (z := 12) dX6_ofMessage_11 rfl ?_
  refine go_iload_n (z := 13) dX6_ofMessage_12 rfl rfl ?_
  refine go_iadd (z := 14) dX6_ofMessage_13 rfl ?_
  refine go_ialdM (z := 15) (508 + 6 * m + w) (by assumption) (by decide) (ixG m w) (by omega) dX6_ofMessage_14 rfl ?_
  exact go_iret dX6_ofMessage_15 rfl ret_ok
/-- the time between two places -/
def rTB (s : Nat → Int32) (f t : Nat) : Int32 := if f = 6 then s (48 + t) else if t = 6 then s (48 + f) else s (12 + 6 * f + t)
theorem c_mTB {f t : Nat} (hX : MoX G n M r) (hf : f < 7) (ht : t < 7) (hft : f < 6 ∨ t < 6) : Go l G mX6_timeBetween 0 0 0 0 (lentry [.ref M, .int (nI f), .int (nI t)] 3) [] n (upr i (M + 1) s) r (RetI (rTB s f t) n (upr i (M + 1) s) r) := by
  obtain ⟨hM, hr0, hs⟩ := hX
  refine go_iload_n (z := 1) dX6_timeBetween_0 rfl rfl ?_
  refine go_bipush (z := 3) (v := 6) dX6_timeBetween_1 rfl (by decide) ?_
  refine go_icmp_ne (z := 18) (z2 := 6) dX6_timeBetween_3 rfl (by decide) (fun h => ?_) (fun h => ?_)
  · have hf6 : ¬ f = 6 := fun q => h (by rw [q]; rfl)
    refine go_iload_n (z := 19) dX6_timeBetween_18 rfl rfl ?_
    refine go_bipush (z := 21) (v := 6) dX6_timeBetween_19 rfl (by decide) ?_
    refine go_icmp_ne (z := 36) (z2 := 24) dX6_timeBetween_21 rfl (by decide) (fun h2 => ?_) (fun h2 => ?_)
    · have ht6 : ¬ t = 6 := fun q => h2 (by rw [q]; rfl)
      refine go_aload_n (z := 37) dX6_timeBetween_36 rfl rfl ?_
      refine go_getR (z := 40) dX6_timeBetween_37 rfl fX6_7 (by assumption) rfl (by assumption) ?_
      refine go_bipush (z := 42) (v := 12) dX6_timeBetween_40 rfl (by decide) ?_
      refine go_bipush (z := 44) (v := 6) dX6_timeBetween_42 rfl (by decide) ?_
      refine go_iload_n (z := 45) dX6_timeBetween_44 rfl rfl ?_
      refine go_imul (z := 46) dX6_timeBetween_45 rfl ?_
      refine go_iadd (z := 47) dX6_timeBetween_46 rfl ?_
      refine go_iload_n (z := 48) dX6_timeBetween_47 rfl rfl ?_
      refine go_iadd (z := 49) dX6_timeBetween_48 rfl ?_
      refine go_ialdM (z := 50) (12 + 6 * f + t) (by assumption) (by decide) (by rw [show (12 : Int32) = nI 12 from rfl, show (6 : Int32) = nI 6 from rfl, pk_mul, nI_add, nI_add]) (by omega) dX6_timeBetween_49 rfl ?_
      refine go_iret dX6_timeBetween_50 rfl ?_
      unfold rTB
      rw [if_neg hf6, if_neg ht6]
      exact ret_ok
    · have ht6 : t = 6 := (nI_eq (b := 6) (by omega) (by omega)).mp h2
      refine go_aload_n (z := 25) dX6_timeBetween_24 rfl rfl ?_
      refine go_getR (z := 28) dX6_timeBetween_25 rfl fX6_7 (by assumption) rfl (by assumption) ?_
      refine go_bipush (z := 30) (v := 48) dX6_timeBetween_28 rfl (by decide) ?_
      refine go_iload_n (z := 31) dX6_timeBetween_30 rfl rfl ?_
      refine go_iadd (z := 32) dX6_timeBetween_31 rfl ?_
      refine go_ialdM (z := 33) (48 + f) (by assumption) (by decide) (by rw [show (48 : Int32) = nI 48 from rfl, nI_add]) (by omega) dX6_timeBetween_32 rfl ?_
      refine go_goto (z := 50) dX6_timeBetween_33 (by decide) ?_
      refine go_iret dX6_timeBetween_50 rfl ?_
      unfold rTB
      rw [if_neg hf6, if_pos ht6]
      exact ret_ok
  · have hf6 : f = 6 := (nI_eq (b := 6) (by omega) (by omega)).mp h
    refine go_aload_n (z := 7) dX6_timeBetween_6 rfl rfl ?_
    refine go_getR (z := 10) dX6_timeBetween_7 rfl fX6_7 (by assumption) rfl (by assumption) ?_
    refine go_bipush (z := 12) (v := 48) dX6_timeBetween_10 rfl (by decide) ?_
    refine go_iload_n (z := 13) dX6_timeBetween_12 rfl rfl ?_
    refine go_iadd (z := 14) dX6_timeBetween_13 rfl ?_
    refine go_ialdM (z := 15) (48 + t) (by assumption) (by decide) (by rw [show (48 : Int32) = nI 48 from rfl, nI_add]) (by omega) dX6_timeBetween_14 rfl ?_
    refine go_goto (z := 50) dX6_timeBetween_15 (by decide) ?_
    refine go_iret dX6_timeBetween_50 rfl ?_
    unfold rTB
    rw [if_pos hf6]
    exact ret_ok
def rCoin (s : Nat → Int32) : Int32 := (1 : Int32) <<< (s 8 &&& 31)
def rMint (s : Nat → Int32) : Nat → Int32 := up1 (up1 s 1 (s 1 + rCoin s)) 6 (s 6 + 1)
theorem c_mMint (hX : MoX G n M r) : Go l G mX6_mint 0 0 0 0 (lentry [.ref M] 2) [] n (upr i (M + 1) s) r (RetI (rCoin s) n (upr i (M + 1) (rMint s)) r) := by
  obtain ⟨hM, hr0, hs⟩ := hX
  refine go_iconst (z := 1) (v := 1) dX6_mint_0 rfl (by decide) ?_
  refine go_aload_n (z := 2) dX6_mint_1 rfl rfl ?_
  refine go_getR (z := 5) dX6_mint_2 rfl fX6_7 (by assumption) rfl (by assumption) ?_
  refine go_bipush (z := 7) (v := 8) dX6_mint_5 rfl (by decide) ?_
  refine go_ialdM (z := 8) 8 (by assumption) (by decide) rfl (by omega) dX6_mint_7 rfl ?_
  refine go_ishl (z := 9) dX6_mint_8 rfl rfl ?_
  refine go_istore_n (z := 10) dX6_mint_9 rfl (by decide) ?_
  refine go_aload_n (z := 11) dX6_mint_10 rfl rfl ?_
  refine go_getR (z := 14) dX6_mint_11 rfl fX6_7 (by assumption) rfl (by assumption) ?_
  refine go_iconst (z := 15) (v := 1) dX6_mint_14 rfl (by decide) ?_
  refine go_dup2 (z := 16) dX6_mint_15 rfl rfl rfl ?_
  refine go_ialdM (z := 17) 1 (by assumption) (by decide) rfl (by omega) dX6_mint_16 rfl ?_
  refine go_iload_n (z := 18) dX6_mint_17 rfl rfl ?_
  refine go_iadd (z := 19) dX6_mint_18 rfl ?_
  refine go_iastM (z := 20) 1 (by assumption) (by decide) rfl (by omega) dX6_mint_19 rfl ?_
  refine go_aload_n (z := 21) dX6_mint_20 rfl rfl ?_
  refine go_getR (z := 24) dX6_mint_21 rfl fX6_7 (by assumption) rfl (by assumption) ?_
  refine go_bipush (z := 26) (v := 6) dX6_mint_24 rfl (by decide) ?_
  refine go_dup2 (z := 27) dX6_mint_26 rfl rfl rfl ?_
  refine go_ialdM (z := 28) 6 (by assumption) (by decide) rfl (by omega) dX6_mint_27 rfl ?_
  refine go_iconst (z := 29) (v := 1) dX6_mint_28 rfl (by decide) ?_
  refine go_iadd (z := 30) dX6_mint_29 rfl ?_
  refine go_iastM (z := 31) 6 (by assumption) (by decide) rfl (by omega) dX6_mint_30 rfl ?_
  refine go_iload_n (z := 32) dX6_mint_31 rfl rfl ?_
  refine go_iret dX6_mint_32 rfl ?_
  rw [up1_n (show (6 : Nat) ≠ 1 by decide)]
  exact ret_ok
end MLEAF
