/-! leastCoin at the reference -/
def bgK (s : Nat → Int32) (q : Nat) : Nat → Int32 := fun k => if k < q then (if 12 ≤ k ∧ k ≤ 53 then s k else 0) else s k
def bgn (s : Nat → Int32) (x : Int32) : Nat → Int32 := up1 (up1 (bgK s 1372) 9 (s 9)) 8 x
theorem bgK_s {s : Nat → Int32} {q : Nat} : up1 (bgK s q) q (if 12 ≤ q ∧ q ≤ 53 then s q else 0) = bgK s (q + 1) := by
  funext k
  by_cases e : k = q
  · subst e
    rw [up1_s]
    unfold bgK
    rw [if_pos (show k < k + 1 by omega)]
  · rw [up1_n e]
    unfold bgK
    by_cases e2 : k < q
    · rw [if_pos e2, if_pos (show k < q + 1 by omega)]
    · rw [if_neg e2, if_neg (show ¬ k < q + 1 by omega)]
theorem bgK_0 {s : Nat → Int32} : bgK s 0 = s := by
  funext k
  unfold bgK
  rw [if_neg (by omega)]
theorem bgn_z {s : Nat → Int32} {x : Int32} {k : Nat} (h : k < 1372) (h1 : ¬ (12 ≤ k ∧ k ≤ 53)) (h8 : k ≠ 8) (h9 : k ≠ 9) : bgn s x k = 0 := by
  unfold bgn
  rw [up1_n h8, up1_n h9]
  unfold bgK
  rw [if_pos h, if_neg h1]
theorem bgn_w {s : Nat → Int32} {x : Int32} {k : Nat} (h1 : 12 ≤ k) (h2 : k ≤ 53) : bgn s x k = s k := by
  unfold bgn
  rw [up1_n (by omega), up1_n (by omega)]
  unfold bgK
  rw [if_pos (by omega), if_pos ⟨h1, h2⟩]
/-- a state begun anew -/
theorem RelS.anew {E : EE} {Gd : Nat → Prop} {mo : MS} {s : Nat → Int32} {x : Int32} (hw : WaR mo s) (h9 : s 9 = mo.1 2) : RelS E Gd 0 [] (mNew mo x) (bgn s x) := by
  have ez : ∀ e f, e < 80 → f < 5 → eF (bgn s x) e f = 0 := fun e f he hf => bgn_z (by omega) (by omega) (by omega) (by omega)
  have at0 : ∀ w y, 1 ≤ w → w < 9 → AtL (bgn s x) w y [] := fun w y hw hw9 => ⟨fun e => ⟨fun q => (by cases q), fun q => by
    have := q.2.1
    rw [ez e 4 q.1 (by omega)] at this
    have := (nI_eq (a := 0) (by omega) (by omega)).mp this
    omega⟩, List.Pairwise.nil⟩
  refine ⟨fun _ => 0, fun _ => [], fun _ => [], [], 0, Nat.le_refl _, fun w a b c => ?_, ⟨fun a b ha hb => ?_, fun h hh => ?_⟩, fun h hh => ⟨fun w hw => ?_, rfl, Or.inl rfl, Or.inl rfl, Or.inl rfl⟩, ⟨?_, fun e he => ⟨0, Nat.zero_le _, ez e 2 he (by omega)⟩, fun e he => ⟨0, by omega, ez e 4 he (by omega), fun q => absurd rfl q, fun q => by omega, fun q => by omega⟩, fun q hq => at0 _ _ (by omega) (by omega), fun q hq => at0 _ _ (by omega) (by omega), List.nodup_nil, fun e => ⟨fun q => (by cases q), fun q => by
    have := q.2
    rw [ez e 4 q.1 (by omega)] at this
    exact absurd this (by decide)⟩⟩, fun e he _ ha => ?_, fun q hq => rfl, ⟨?_, Nat.zero_le _, fun j y hy => by cases hy⟩, fun y hy => (by cases hy), rfl⟩
  · have hz : w ≠ 8 → w ≠ 9 → bgn s x w = 0 := fun h8 h9 => bgn_z (by omega) (by omega) h8 h9
    by_cases h8 : w = 8
    · subst h8
      unfold bgn
      rw [up1_s]
      rfl
    · by_cases h99 : w = 9
      · subst h99
        unfold bgn
        rw [up1_n (by decide), up1_s, h9]
        rfl
      · rw [hz h8 h99]
        rcases (show w = 0 ∨ w = 1 ∨ w = 2 ∨ w = 3 ∨ w = 5 ∨ w = 6 ∨ w = 7 ∨ w = 11 by omega) with e | e | e | e | e | e | e | e <;> subst e <;> rfl
  · rw [bgn_w (by omega) (by omega)]; exact hw.1 a b ha hb
  · rw [bgn_w (by omega) (by omega)]; exact hw.2 h hh
  · exact bgn_z (by omega) (by omega) (by omega) (by omega)
  · exact bgn_z (by omega) (by omega) (by omega) (by omega)
  · rw [ez e 4 he (by omega)] at ha; exact absurd ha (by decide)
  · exact bgn_z (by omega) (by omega) (by omega) (by omega)
section MLEASTW
variable {l : Launch} {G : GG} {n n0 : Nat} {i : IP} {r : RP} {M : Nat} {E : EE} {Gd : Nat → Prop} {O : Nat} {A : AP}
theorem c_mAnew {x : Int32} {s : Nat → Int32} (hX : MoX G n M r) : Go l G mX6_beginAnew 1 0 0 0 (lentry [.ref M, .int x] 4) [] n (upr i (M + 1) s) r (Ret none n (upr i (M + 1) (bgn s x)) r) := by
  obtain ⟨hM, hr0, hs⟩ := id hX
  have loop : ∀ d q, q + d = 1372 → Go l G mX6_beginAnew 1 0 0 10 [some (.ref M), some (.int x), some (.int (s 9)), some (.int (nI q))] [] n (upr i (M + 1) (bgK s q)) r (Ret none n (upr i (M + 1) (bgn s x)) r) := by
    intro d
    induction d with
    | zero =>
      intro q hq
      have hq : q = 1372 := by omega
      subst hq
      refine go_iload_n (z := 11) dX6_beginAnew_10 rfl rfl ?_
      refine go_sipush (z := 14) (v := 1372) dX6_beginAnew_11 rfl (by decide) ?_
      refine go_icmp_ge (z := 50) (z2 := 17) dX6_beginAnew_14 rfl (by decide) (fun _ => ?_) (fun h => absurd (by decide) h)
      refine go_aload_n (z := 51) dX6_beginAnew_50 rfl rfl ?_
      refine go_getR (z := 54) dX6_beginAnew_51 rfl fX6_7 (by assumption) rfl (by assumption) ?_
      refine go_bipush (z := 56) (v := 9) dX6_beginAnew_54 rfl (by decide) ?_
      refine go_iload_n (z := 57) dX6_beginAnew_56 rfl rfl ?_
      refine go_iastM (z := 58) 9 (by assumption) (by decide) rfl (by omega) dX6_beginAnew_57 rfl ?_
      refine go_aload_n (z := 59) dX6_beginAnew_58 rfl rfl ?_
      refine go_getR (z := 62) dX6_beginAnew_59 rfl fX6_7 (by assumption) rfl (by assumption) ?_
      refine go_bipush (z := 64) (v := 8) dX6_beginAnew_62 rfl (by decide) ?_
      refine go_iload_n (z := 65) dX6_beginAnew_64 rfl rfl ?_
      refine go_iastM (z := 66) 8 (by assumption) (by decide) rfl (by omega) dX6_beginAnew_65 rfl ?_
      exact go_vret dX6_beginAnew_66 rfl ret_ok
    | succ d ih =>
      intro q hq
      have next : Go l G mX6_beginAnew 1 0 0 43 [some (.ref M), some (.int x), some (.int (s 9)), some (.int (nI q))] [.int (if 12 ≤ q ∧ q ≤ 53 then s q else 0), .int (nI q), .ref (M + 1)] n (upr i (M + 1) (bgK s q)) r (Ret none n (upr i (M + 1) (bgn s x)) r) := by
        refine go_iastM (z := 44) q (by assumption) (by decide) rfl (by omega) dX6_beginAnew_43 rfl ?_
        refine go_iinc (z := 47) dX6_beginAnew_44 rfl rfl (nI_1 q) (by decide) ?_
        refine go_goto (z := 10) dX6_beginAnew_47 (by decide) ?_
        rw [bgK_s]
        exact ih (q + 1) (by omega)
      have h12 : ((12 : Int32) ≤ nI q ∧ nI q ≤ 53) ↔ (12 ≤ q ∧ q ≤ 53) := by
        rw [show (12 : Int32) = nI 12 from rfl, show (53 : Int32) = nI 53 from rfl, nI_leI (by omega) (by omega), nI_leI (by omega) (by omega)]
      refine go_iload_n (z := 11) dX6_beginAnew_10 rfl rfl ?_
      refine go_sipush (z := 14) (v := 1372) dX6_beginAnew_11 rfl (by decide) ?_
      refine go_icmp_ge (z := 50) (z2 := 17) dX6_beginAnew_14 rfl (by decide) (fun h => absurd ((nI_leI (a := 1372) (by omega) (by omega)).mp h) (by omega)) (fun _ => ?_)
      refine go_aload_n (z := 18) dX6_beginAnew_17 rfl rfl ?_
      refine go_getR (z := 21) dX6_beginAnew_18 rfl fX6_7 (by assumption) rfl (by assumption) ?_
      refine go_iload_n (z := 22) dX6_beginAnew_21 rfl rfl ?_
      refine go_iload_n (z := 23) dX6_beginAnew_22 rfl rfl ?_
      refine go_bipush (z := 25) (v := 12) dX6_beginAnew_23 rfl (by decide) ?_
      refine go_bipush (z := 27) (v := 53) dX6_beginAnew_25 rfl (by decide) ?_
      refine go_callS (z := 30) [.int (nI q), .int 12, .int 53] dX6_beginAnew_27 rfl mlX6_in sX6_31 rfl rfl (by decide) (cat_i (cat_i (cat_i cat_nil))) (by simp) (by decide) (by first | decide | omega) (by first | decide | omega) (c_mIn) ?_
      refine ret_elim ?_
      refine go_if_eq (z := 42) (z2 := 33) dX6_beginAnew_30 rfl (by decide) (fun h => ?_) (fun h => ?_)
      · rw [if_neg (fun c => b2i_no h (fun _ => decide_eq_true (h12.mpr c)) trivial)] at next
        refine go_iconst (z := 43) (v := 0) dX6_beginAnew_42 rfl (by decide) ?_
        exact next
      · have hc := h12.mp (of_decide_eq_true (b2i_ne h))
        rw [if_pos hc] at next
        refine go_aload_n (z := 34) dX6_beginAnew_33 rfl rfl ?_
        refine go_getR (z := 37) dX6_beginAnew_34 rfl fX6_7 (by assumption) rfl (by assumption) ?_
        refine go_iload_n (z := 38) dX6_beginAnew_37 rfl rfl ?_
        refine go_ialdM (z := 39) q hs (by decide) rfl (by omega) dX6_beginAnew_38 rfl ?_
        rw [show bgK s q q = s q from if_neg (by omega)]
        refine go_goto (z := 43) dX6_beginAnew_39 (by decide) ?_
        exact next
  refine go_aload_n (z := 1) dX6_beginAnew_0 rfl rfl ?_
  refine go_getR (z := 4) dX6_beginAnew_1 rfl fX6_7 (by assumption) rfl (by assumption) ?_
  refine go_bipush (z := 6) (v := 9) dX6_beginAnew_4 rfl (by decide) ?_
  refine go_ialdM (z := 7) 9 (by assumption) (by decide) rfl (by omega) dX6_beginAnew_6 rfl ?_
  refine go_istore_n (z := 8) dX6_beginAnew_7 rfl (by decide) ?_
  refine go_iconst (z := 9) (v := 0) dX6_beginAnew_8 rfl (by decide) ?_
  refine go_istore_n (z := 10) dX6_beginAnew_9 rfl (by decide) ?_
  have := loop 1372 0 rfl
  rw [bgK_0] at this
  exact this
/-- what a trial says, and leaves -/
def EnQ (b : Bool) (mo : MS) (M n : Nat) (i : IP) (r : RP) : QP := fun v n' i' r' => v = some (.int (b2i b)) ∧ n' = n ∧ r' = r ∧ ∃ lt s', i' = upr (upr i (M + 7) lt) (M + 1) s' ∧ WaR mo s' ∧ s' 9 = mo.1 2
theorem c_mEnough {p d k K : Nat} {L : List RN} {mo : MS} (hY : MoY G n M r) (hw : WaR mo (i (M + 1))) (h9 : i (M + 1) 9 = mo.1 2) (hRd : RdS M p d L i) (hL : L.length ≤ 15) (hne : L ≠ []) (hF : FI (fbL L) L.length (mL L)) (hV : VD (deps L)) (hB : ∀ y ∈ L, y.1 < 6 ∧ y.2.1 ≤ 20 ∧ y.2.2 < L.length) (hG : ∀ a, Gd a → a < n0) (hE : EOk (eExt n0 L E) (gExt n0 L Gd)) (hW : EW (eExt n0 L E) (gExt n0 L Gd)) (hI : Inv (eExt n0 L E) (gExt n0 L Gd) 0 0 (fun _ => 0) (mLaunch (eExt n0 L E) (rootsOf n0 L) (mNew mo (nI k)))) (hP : PI (eExt n0 L E) K (mLaunch (eExt n0 L E) (rootsOf n0 L) (mNew mo (nI k)))) (hK : K ≤ 2 ^ 30) : Go l G mX6_isEnough 7 0 0 0 (lentry [.ref M, .int (nI k)] 4) [] n i r (EnQ (!wAsk (eExt n0 L E) (rootsOf n0 L) mo (nI k)) mo M n i r) := by
  obtain ⟨⟨hM, hr0, hs⟩, ⟨hr1, hr3, hr5, hr6, hr8, hr12⟩, hA2, hA3, hA4, hA5, hA6, hA7⟩ := id hY
  have hX := hY.1
  have hrl : 0 < (rootsOf n0 L).length ∧ (rootsOf n0 L).length ≤ 15 := by
    have hsum := roots_sum (n0 := n0) (E := E) hF
    have hlp : 0 < L.length := List.length_pos_iff.mpr hne
    have hle := len_le_sum (l := rootsOf n0 L) (g := (eExt n0 L E).2.2.1) (fun a ha => by
      have := (hE a (roots_gd hF a ha)).2.2.2.1
      omega)
    refine ⟨?_, by omega⟩
    rcases Nat.eq_zero_or_pos (rootsOf n0 L).length with q | q
    · have : rootsOf n0 L = [] := List.length_eq_zero_iff.mp q
      rw [this] at hsum
      have : (0 : Nat) = L.length := hsum
      omega
    · exact q
  generalize hEE : eExt n0 L E = E' at *
  generalize hGG : gExt n0 L Gd = Gd' at *
  generalize hRR : rootsOf n0 L = roots at *
  have out : ∀ (b : Bool) (m : MS) (s : Nat → Int32) (O' : Nat) (x : Option Value) (lt : Nat → Int32), RelS E' Gd' O' [] m s → AskB 144 m → KW mo m → b = !mAsked m → Go l G mX6_isEnough 7 0 0 45 [some (.ref M), some (.int (nI k)), some (.int (nI roots.length)), x] [] n (upr (upr i (M + 7) lt) (M + 1) s) r (EnQ b mo M n i r) := by
    intro b m s O' x lt hS hA hKW hb
    obtain ⟨β, qs, ps, ml, o, ho, hR⟩ := id hS
    have hR : RelA E' Gd' β qs ps ml o m s := hR
    obtain ⟨t, t1, t2, t3⟩ := hR.asks hA (by omega)
    have fin : EnQ b mo M n i r (some (.int (b2i b))) n (upr (upr i (M + 7) lt) (M + 1) s) r := ⟨rfl, rfl, rfl, lt, s, rfl, ⟨fun a c ha hc => by rw [← hKW.2]; exact hR.2.1.1 a c ha hc, fun h hh => by rw [← hKW.2]; exact hR.2.1.2 h hh⟩, (hR.1 9 (by omega) (by omega) (by omega)).trans hKW.1⟩
    refine go_iload_n (z := 46) dX6_isEnough_45 rfl rfl ?_
    refine go_if_le (z := 62) (z2 := 49) dX6_isEnough_46 rfl (by decide) (fun h => absurd ((nI_leI (b := 0) (by omega) (by omega)).mp h) (by omega)) (fun _ => ?_)
    refine go_aload_n (z := 50) dX6_isEnough_49 rfl rfl ?_
    refine go_bipush (z := 52) (v := 6) dX6_isEnough_50 rfl (by decide) ?_
    refine go_callV (z := 55) (t := 6) [.int (nI 6)] dX6_isEnough_52 rfl mlX6_sumOfHouses vX6_100 ⟨by decide, rfl⟩ hM rfl rfl (by decide) (cat_i cat_nil) (by simp) (by decide) (by first | decide | omega) (by first | decide | omega) (c_mSumH hX (by omega)) ?_
    refine ret_elim ?_
    rw [t2]
    refine go_if_ne (z := 62) (z2 := 58) dX6_isEnough_55 rfl (by decide) (fun h => ?_) (fun h => ?_)
    · have ht : t ≠ 0 := fun q => h (by rw [q]; rfl)
      have hma : mAsked m = true := by
        cases hm : mAsked m with
        | true => rfl
        | false => exact absurd (t3.mpr hm) ht
      rw [hma] at hb
      subst hb
      refine go_iconst (z := 63) (v := 0) dX6_isEnough_62 rfl (by decide) ?_
      exact go_zret dX6_isEnough_63 rfl (congrArg Value.int (by decide)) fin
    · have ht : t = 0 := (nI_eq (b := 0) t1 (by omega)).mp h
      rw [t3.mp ht] at hb
      subst hb
      refine go_iconst (z := 59) (v := 1) dX6_isEnough_58 rfl (by decide) ?_
      refine go_goto (z := 63) dX6_isEnough_59 (by decide) ?_
      exact go_zret dX6_isEnough_63 rfl (congrArg Value.int (by decide)) fin
  have loop : ∀ f j T m s lt, j + f = 500 → RelS E' Gd' (15 + 2160 * j) [] m s → Inv E' Gd' T T (fun _ => T) m → T + f ≤ 1000600 → PI E' K m → AskB 0 m → KW mo m → Go l G mX6_isEnough 7 0 0 12 [some (.ref M), some (.int (nI k)), some (.int (nI roots.length)), some (.int (nI j))] [] n (upr (upr i (M + 7) lt) (M + 1) s) r (EnQ (!wRun E' f m) mo M n i r) := by
    intro f
    induction f with
    | zero =>
      intro j T m s lt hj hS hI hT hP hA hKW
      refine go_iload_n (z := 13) dX6_isEnough_12 rfl rfl ?_
      refine go_sipush (z := 16) (v := 500) dX6_isEnough_13 rfl (by decide) ?_
      refine go_icmp_ge (z := 45) (z2 := 19) dX6_isEnough_16 rfl (by decide) (fun _ => ?_) (fun h => absurd ((nI_leI (a := 500) (by omega) (by omega)).mpr (by omega)) h)
      exact out _ m s _ _ lt hS (hA.mono (by omega)) hKW (by rw [hA.no]; rfl)
    | succ f ih =>
      intro j T m s lt hj hS hI hT hP hA hKW
      obtain ⟨β, qs, ps, ml, o, ho, hR⟩ := id hS
      have hR : RelA E' Gd' β qs ps ml o m s := hR
      have e0 : wRun E' (f + 1) m = if mIdle m = true then false else if mAsked (mTick E' m) = true then true else wRun E' f (mTick E' m) := rfl
      obtain ⟨t, t1, t2, t3⟩ := hR.asks hA (by omega)
      have ht : t = 0 := t3.mpr hA.no
      refine go_iload_n (z := 13) dX6_isEnough_12 rfl rfl ?_
      refine go_sipush (z := 16) (v := 500) dX6_isEnough_13 rfl (by decide) ?_
      refine go_icmp_ge (z := 45) (z2 := 19) dX6_isEnough_16 rfl (by decide) (fun h => absurd ((nI_leI (a := 500) (by omega) (by omega)).mp h) (by omega)) (fun _ => ?_)
      refine go_aload_n (z := 20) dX6_isEnough_19 rfl rfl ?_
      refine go_callV (z := 23) (t := 6) [] dX6_isEnough_20 rfl mlX6_isIdle vX6_181 ⟨by decide, rfl⟩ hM rfl rfl (by decide) cat_nil (by simp) (by decide) (by first | decide | omega) (by first | decide | omega) (c_mIdle hX hR.2.2.2.2.2.2.1.1 hR.2.2.2.2.2.2.1.2.1) ?_
      refine ret_elim ?_
      rw [hR.idle]
      refine go_if_ne (z := 45) (z2 := 26) dX6_isEnough_23 rfl (by decide) (fun h => ?_) (fun h => ?_)
      · have hid := b2i_ne h
        exact out _ m s _ _ lt hS (hA.mono (by omega)) hKW (by rw [e0, if_pos hid, hA.no])
      · have hid := b2i_eq h
        have hA2 : AskB 144 (mTick E' m) := by
          have h1 := AskB.tick (E := E') hA
          refine h1.mono ?_
          have := hR.len
          have := hR.2.2.2.2.2.2.1.2.1
          omega
        have hKW2 : KW mo (mTick E' m) := hKW.tick
        refine go_aload_n (z := 27) dX6_isEnough_26 rfl rfl ?_
        refine go_bipush (z := 29) (v := 6) dX6_isEnough_27 rfl (by decide) ?_
        refine go_callV (z := 32) (t := 6) [.int (nI 6)] dX6_isEnough_29 rfl mlX6_sumOfHouses vX6_100 ⟨by decide, rfl⟩ hM rfl rfl (by decide) (cat_i cat_nil) (by simp) (by decide) (by first | decide | omega) (by first | decide | omega) (c_mSumH hX (by omega)) ?_
        refine ret_elim ?_
        rw [t2, ht]
        refine go_if_ne (z := 45) (z2 := 35) dX6_isEnough_32 rfl (by decide) (fun h => absurd rfl h) (fun _ => ?_)
        refine go_aload_n (z := 36) dX6_isEnough_35 rfl rfl ?_
        refine go_callV (z := 39) (t := 6) [] dX6_isEnough_36 rfl mlX6_tick vX6_149 ⟨by decide, rfl⟩ hM rfl rfl (by decide) cat_nil (by simp) (by decide) (by first | decide | omega) (by first | decide | omega) (c_mTick hX hE hW hI (by omega) hP hK hS (by omega)) ?_
        refine sq_elim (fun s5 hs5 => ?_)
        refine go_iinc (z := 42) dX6_isEnough_39 rfl rfl (nI_1 j) (by decide) ?_
        refine go_goto (z := 12) dX6_isEnough_42 (by decide) ?_
        rw [e0, if_neg (by rw [hid]; decide)]
        have hT2 := (hI.tick hE (by omega)).2
        have hP2 := (hI.tickP hE hW (by omega) hP hK).2
        cases hma : mAsked (mTick E' m) with
        | false =>
          rw [if_neg (by decide)]
          exact ih (j + 1) (T + 1) (mTick E' m) s5 lt (by omega) (by rw [show 15 + 2160 * (j + 1) = 15 + 2160 * j + 2160 by omega]; exact hs5) hT2 (by omega) hP2 (hA2.none (by omega) hma) hKW2
        | true =>
          rw [if_pos rfl]
          obtain ⟨β', qs', ps', ml', o', ho', hR'⟩ := id hs5
          have hR' : RelA E' Gd' β' qs' ps' ml' o' (mTick E' m) s5 := hR'
          obtain ⟨t', u1, u2, u3⟩ := hR'.asks hA2 (by omega)
          have hout := out (!true) (mTick E' m) s5 _ (some (.int (nI (j + 1)))) lt hs5 hA2 hKW2 (by rw [hma])
          refine go_iload_n (z := 13) dX6_isEnough_12 rfl rfl ?_
          refine go_sipush (z := 16) (v := 500) dX6_isEnough_13 rfl (by decide) ?_
          refine go_icmp_ge (z := 45) (z2 := 19) dX6_isEnough_16 rfl (by decide) (fun _ => hout) (fun _ => ?_)
          refine go_aload_n (z := 20) dX6_isEnough_19 rfl rfl ?_
          refine go_callV (z := 23) (t := 6) [] dX6_isEnough_20 rfl mlX6_isIdle vX6_181 ⟨by decide, rfl⟩ hM rfl rfl (by decide) cat_nil (by simp) (by decide) (by first | decide | omega) (by first | decide | omega) (c_mIdle hX hR'.2.2.2.2.2.2.1.1 hR'.2.2.2.2.2.2.1.2.1) ?_
          refine ret_elim ?_
          refine go_if_ne (z := 45) (z2 := 26) dX6_isEnough_23 rfl (by decide) (fun _ => hout) (fun _ => ?_)
          refine go_aload_n (z := 27) dX6_isEnough_26 rfl rfl ?_
          refine go_bipush (z := 29) (v := 6) dX6_isEnough_27 rfl (by decide) ?_
          refine go_callV (z := 32) (t := 6) [.int (nI 6)] dX6_isEnough_29 rfl mlX6_sumOfHouses vX6_100 ⟨by decide, rfl⟩ hM rfl rfl (by decide) (cat_i cat_nil) (by simp) (by decide) (by first | decide | omega) (by first | decide | omega) (c_mSumH hX (by omega)) ?_
          refine ret_elim ?_
          rw [u2]
          refine go_if_ne (z := 45) (z2 := 35) dX6_isEnough_32 rfl (by decide) (fun _ => hout) (fun h => ?_)
          have : t' = 0 := (nI_eq (b := 0) u1 (by omega)).mp h
          rw [u3.mp this] at hma
          cases hma
  refine go_i (upr_id (a := M + 1)).symm ?_
  refine go_aload_n (z := 1) dX6_isEnough_0 rfl rfl ?_
  refine go_iload_n (z := 2) dX6_isEnough_1 rfl rfl ?_
  refine go_callV (z := 5) (t := 6) [.int (nI k)] dX6_isEnough_2 rfl mlX6_beginAnew vX6_184 ⟨by decide, rfl⟩ hM rfl rfl (by decide) (cat_i cat_nil) (by simp) (by decide) (by first | decide | omega) (by first | decide | omega) (c_mAnew hX) ?_
  refine ret_elim ?_
  have hS0 : RelS E Gd 0 [] (mNew mo (nI k)) (upr i (M + 1) (bgn (i (M + 1)) (nI k)) (M + 1)) := by
    rw [upr_s]
    exact RelS.anew hw h9
  have hRd2 : RdS M p d L (upr i (M + 1) (bgn (i (M + 1)) (nI k))) := ⟨by rw [upr_n (by omega)]; exact hRd.1, by rw [upr_n (by omega)]; exact hRd.2.1, by rw [upr_n (by omega)]; exact hRd.2.2.1, fun q y hy => by rw [upr_n (show M + 6 ≠ M + 1 by omega)]; exact hRd.2.2.2 q y hy⟩
  have hc0 : cntF (aliP (upr i (M + 1) (bgn (i (M + 1)) (nI k)) (M + 1))) 80 = 0 := by
    rw [upr_s]
    refine cnt_none _ (fun e he q => ?_)
    have q := of_decide_eq_true q
    rw [show eF (bgn (i (M + 1)) (nI k)) e 4 = 0 from bgn_z (by omega) (by omega) (by omega) (by omega)] at q
    exact absurd q (by decide)
  refine go_aload_n (z := 6) dX6_isEnough_5 rfl rfl ?_
  refine go_callV (z := 9) (t := 6) [] dX6_isEnough_6 rfl mlX6_launchAll vX6_142 ⟨by decide, rfl⟩ hM rfl rfl (by decide) cat_nil (by simp) (by decide) (by first | decide | omega) (by first | decide | omega) (c_mLaunchAll (n0 := n0) hY hS0 hRd2 hL hV hB hG (by rw [hc0]; omega) (by show 0 + L.length ≤ 141; omega) (by omega)) ?_
  rintro v n' i'' r'' ⟨q1, q2, q3, lt, s', q4, q5⟩
  rw [q1, q2, q3, q4, hRR]
  refine go_istore_n (z := 10) dX6_isEnough_9 rfl (by decide) ?_
  refine go_iconst (z := 11) (v := 0) dX6_isEnough_10 rfl (by decide) ?_
  refine go_istore_n (z := 12) dX6_isEnough_11 rfl (by decide) ?_
  rw [hEE, hGG, hRR] at q5
  have hpl : upr (upr (upr i (M + 1) (bgn (i (M + 1)) (nI k))) (M + 7) lt) (M + 1) s' = upr (upr i (M + 7) lt) (M + 1) s' := by
    funext a
    by_cases c1 : a = M + 1
    · rw [c1, upr_s, upr_s]
    · rw [upr_n c1, upr_n c1]
      by_cases c7 : a = M + 7
      · rw [c7, upr_s, upr_s]
      · rw [upr_n c7, upr_n c7, upr_n c1]
  rw [hpl]
  have hA0 : AskB 0 (mLaunch E' roots (mNew mo (nI k))) := fun q hq => by
    rw [launch_H]
    exact ⟨0, Nat.le_refl _, rfl⟩
  have hKW0 : KW mo (mLaunch E' roots (mNew mo (nI k))) := KW.launch roots (m := mNew mo (nI k)) ⟨rfl, rfl⟩
  exact loop 500 0 0 _ s' lt rfl (q5.mono (by omega)) hI (by omega) hP hA0 hKW0
theorem upr_comm {α : Type} {f : Nat → Nat → α} {a b : Nat} {t u : Nat → α} (h : a ≠ b) : upr (upr f a t) b u = upr (upr f b u) a t := by
  funext c
  by_cases c1 : c = a
  · subst c1; rw [upr_n h, upr_s, upr_s]
  · by_cases c2 : c = b
    · subst c2; rw [upr_s, upr_n c1, upr_s]
    · rw [upr_n c2, upr_n c1, upr_n c1, upr_n c2]
theorem c_mLeast {K : Nat} (hY : MoY G n M r) (hR : RefR E Gd O A M i) (hE : EOk E Gd) (hW : EW E Gd) (hG : ∀ a, Gd a → a < n0) (hK : K ≤ 2 ^ 30) (hI : aErr A = none → ∀ k, 2 ≤ k → k ≤ 16 → Inv (eExt n0 (aL A) E) (gExt n0 (aL A) Gd) 0 0 (fun _ => 0) (mLaunch (eExt n0 (aL A) E) (rootsOf n0 (aL A)) (mNew A.1 (nI k))) ∧ PI (eExt n0 (aL A) E) K (mLaunch (eExt n0 (aL A) E) (rootsOf n0 (aL A)) (mNew A.1 (nI k)))) : Go l G mX6_leastCoin 8 0 0 0 (lentry [.ref M] 3) [] n i r (PQ (aLeast E n0 A) (RefR E Gd O A M) M n i r) := by
  obtain ⟨⟨hM, hr0, hs⟩, ⟨hr1, hr3, hr5, hr6, hr8, hr12⟩, hA2, hA3, hA4, hA5, hA6, hA7⟩ := id hY
  have hX := hY.1
  have hl60 := hR.2.2.2.2.2.1
  unfold aLeast
  refine go_aload_n (z := 1) dX6_leastCoin_0 rfl rfl ?_
  refine go_callV (z := 4) (t := 6) [] dX6_leastCoin_1 rfl mlX6_readText vX6_136 ⟨by decide, rfl⟩ hM rfl rfl (by decide) cat_nil (by simp) (by decide) (by first | decide | omega) (by first | decide | omega) (c_mReadText hY hR) ?_
  refine rt_elim hl60 (fun p i' h1 h2 h3 => ?_) (fun i' p d h1 ho hS hL hV hB hne => ?_)
  · rw [h1]
    refine go_istore_n (z := 5) dX6_leastCoin_4 rfl (by decide) ?_
    refine go_iload_n (z := 6) dX6_leastCoin_5 rfl rfl ?_
    refine go_bipush (z := 8) (v := (-5)) dX6_leastCoin_6 rfl (by decide) ?_
    refine go_icmp_eq (z := 16) (z2 := 11) dX6_leastCoin_8 rfl (by decide) (fun h => absurd h (o2i_n (k := p) (by omega))) (fun _ => ?_)
    refine go_bipush (z := 13) (v := (-100)) dX6_leastCoin_11 rfl (by decide) ?_
    refine go_iload_n (z := 14) dX6_leastCoin_13 rfl rfl ?_
    refine go_isub (z := 15) dX6_leastCoin_14 rfl ?_
    exact go_iret dX6_leastCoin_15 rfl ⟨rfl, rfl, rfl, h3.m, hR.out h3⟩
  · obtain ⟨hF, -⟩ := read_fi hl60 h1
    have hI := hI h1
    rw [h1]
    have hR1 := hR.out ho
    obtain ⟨β, qs, ps, ml, o, hoo, hA⟩ := id hR1.1
    have hw0 : WaR A.1 (i' (M + 1)) := hA.2.1
    have h90 : i' (M + 1) 9 = A.1.1 2 := hA.1 9 (by omega) (by omega) (by omega)
    have hE2 := hE.ext hG hF hL hB
    have hW2 := hW.ext hG hB
    show Go l G mX6_leastCoin 8 _ _ 4 _ _ n i' r (PQ (lRun (eExt n0 (aL A) E) (rootsOf n0 (aL A)) A.1 15 2) (RefR E Gd O A M) M n i r)
    have out : ∀ k s lt v, v = (if k = 17 then -5 else nI k) → 2 ≤ k → k ≤ 17 → Go l G mX6_leastCoin 8 0 0 49 [some (.ref M), some (.int (-5)), some (.int (nI k))] [] n (upr (upr (upr i' (M + 4) (cpyK (i' (M + 1)) (i' (M + 4)) 1372)) (M + 7) lt) (M + 1) s) r (PQ v (RefR E Gd O A M) M n i r) := by
      intro k s lt v hv h2 h17
      have hfin : ∀ lt s, RefR E Gd O A M (upr (upr (upr i' (M + 4) (cpyK (i' (M + 1)) (i' (M + 4)) 1372)) (M + 7) lt) (M + 1) (cpyK (cpyK (i' (M + 1)) (i' (M + 4)) 1372) s 1372)) := fun lt s => by
        rw [upr_comm (show M + 7 ≠ M + 1 by omega)]
        exact (hR1.back).row7
      have hout : ∀ lt s, OutM M i (upr (upr (upr i' (M + 4) (cpyK (i' (M + 1)) (i' (M + 4)) 1372)) (M + 7) lt) (M + 1) s) := fun lt s => ho.m.tr ((OutM.pr (a := M + 4) (by omega) (by omega)).tr ((OutM.pr (a := M + 7) (by omega) (by omega)).tr (OutM.pr (a := M + 1) (by omega) (by omega))))
      refine go_aload_n (z := 50) dX6_leastCoin_49 rfl rfl ?_
      refine go_getR (z := 53) dX6_leastCoin_50 rfl fX6_19 (by assumption) rfl (by assumption) ?_
      refine go_aload_n (z := 54) dX6_leastCoin_53 rfl rfl ?_
      refine go_getR (z := 57) dX6_leastCoin_54 rfl fX6_7 (by assumption) rfl (by assumption) ?_
      refine go_callS (z := 60) [.ref (M + 4), .ref (M + 1)] dX6_leastCoin_57 rfl mlX6_copy sX6_158 rfl rfl (by decide) (cat_r (cat_r cat_nil)) (by simp) (by decide) (by first | decide | omega) (by first | decide | omega) (c_mCopy hA4 hs (by omega)) ?_
      refine ret_elim ?_
      rw [upr_s, upr_n (show M + 4 ≠ M + 1 by omega), upr_n (show M + 4 ≠ M + 7 by omega), upr_s, upr_upr]
      refine go_iload_n (z := 61) dX6_leastCoin_60 rfl rfl ?_
      refine go_bipush (z := 63) (v := 16) dX6_leastCoin_61 rfl (by decide) ?_
      by_cases h5 : k = 17
      · refine go_icmp_le (z := 71) (z2 := 66) dX6_leastCoin_63 rfl (by decide) (fun h => absurd ((nI_leI (b := 16) (by omega) (by omega)).mp h) (by omega)) (fun _ => ?_)
        refine go_bipush (z := 68) (v := (-5)) dX6_leastCoin_66 rfl (by decide) ?_
        refine go_goto (z := 72) dX6_leastCoin_68 (by decide) ?_
        rw [hv, if_pos h5]
        exact go_iret dX6_leastCoin_72 rfl ⟨rfl, rfl, rfl, hout _ _, hfin _ _⟩
      · refine go_icmp_le (z := 71) (z2 := 66) dX6_leastCoin_63 rfl (by decide) (fun _ => ?_) (fun h => absurd ((nI_leI (b := 16) (by omega) (by omega)).mpr (by omega)) h)
        refine go_iload_n (z := 72) dX6_leastCoin_71 rfl rfl ?_
        rw [hv, if_neg h5]
        exact go_iret dX6_leastCoin_72 rfl ⟨rfl, rfl, rfl, hout _ _, hfin _ _⟩
    have loop : ∀ c k s lt, k + c = 17 → 2 ≤ k → WaR A.1 s → s 9 = A.1.1 2 → Go l G mX6_leastCoin 8 0 0 29 [some (.ref M), some (.int (-5)), some (.int (nI k))] [] n (upr (upr (upr i' (M + 4) (cpyK (i' (M + 1)) (i' (M + 4)) 1372)) (M + 7) lt) (M + 1) s) r (PQ (lRun (eExt n0 (aL A) E) (rootsOf n0 (aL A)) A.1 c k) (RefR E Gd O A M) M n i r) := by
      intro c
      induction c with
      | zero =>
        intro k s lt hk h2 hw h9
        refine go_iload_n (z := 30) dX6_leastCoin_29 rfl rfl ?_
        refine go_bipush (z := 32) (v := 16) dX6_leastCoin_30 rfl (by decide) ?_
        refine go_icmp_gt (z := 49) (z2 := 35) dX6_leastCoin_32 rfl (by decide) (fun _ => ?_) (fun h => absurd ((nI_ltI (a := 16) (by omega) (by omega)).mpr (by omega)) h)
        exact out k s lt _ (by rw [if_pos (by omega)]; rfl) h2 (by omega)
      | succ c ih =>
        intro k s lt hk h2 hw h9
        have e0 : lRun (eExt n0 (aL A) E) (rootsOf n0 (aL A)) A.1 (c + 1) k = if wAsk (eExt n0 (aL A) E) (rootsOf n0 (aL A)) A.1 (nI k) = true then lRun (eExt n0 (aL A) E) (rootsOf n0 (aL A)) A.1 c (k + 1) else nI k := rfl
        obtain ⟨hI1, hP1⟩ := hI k h2 (by omega)
        have hRd : RdS M p d (aL A) (upr (upr (upr i' (M + 4) (cpyK (i' (M + 1)) (i' (M + 4)) 1372)) (M + 7) lt) (M + 1) s) := by
          have row : ∀ a, a ≠ M + 1 → a ≠ M + 4 → a ≠ M + 7 → upr (upr (upr i' (M + 4) (cpyK (i' (M + 1)) (i' (M + 4)) 1372)) (M + 7) lt) (M + 1) s a = i' a := fun a a1 a2 a3 => by rw [upr_n a1, upr_n a3, upr_n a2]
          exact ⟨by rw [row _ (by omega) (by omega) (by omega)]; exact hS.1, by rw [row _ (by omega) (by omega) (by omega)]; exact hS.2.1, by rw [row _ (by omega) (by omega) (by omega)]; exact hS.2.2.1, fun q y hy => by rw [row (M + 6) (by omega) (by omega) (by omega)]; exact hS.2.2.2 q y hy⟩
        refine go_iload_n (z := 30) dX6_leastCoin_29 rfl rfl ?_
        refine go_bipush (z := 32) (v := 16) dX6_leastCoin_30 rfl (by decide) ?_
        refine go_icmp_gt (z := 49) (z2 := 35) dX6_leastCoin_32 rfl (by decide) (fun h => absurd ((nI_ltI (a := 16) (by omega) (by omega)).mp h) (by omega)) (fun _ => ?_)
        refine go_aload_n (z := 36) dX6_leastCoin_35 rfl rfl ?_
        refine go_iload_n (z := 37) dX6_leastCoin_36 rfl rfl ?_
        refine go_callV (z := 40) (t := 6) [.int (nI k)] dX6_leastCoin_37 rfl mlX6_isEnough vX6_187 ⟨by decide, rfl⟩ hM rfl rfl (by decide) (cat_i cat_nil) (by simp) (by decide) (by first | decide | omega) (by first | decide | omega) (c_mEnough (n0 := n0) hY (by rw [upr_s]; exact hw) (by rw [upr_s]; exact h9) hRd hL hne hF hV hB hG hE2 hW2 hI1 hP1 hK) ?_
        rintro v n' i'' r'' ⟨q1, q2, q3, lt', s', q4, q5, q6⟩
        rw [q1, q2, q3, q4]
        have hpl : upr (upr (upr (upr (upr i' (M + 4) (cpyK (i' (M + 1)) (i' (M + 4)) 1372)) (M + 7) lt) (M + 1) s) (M + 7) lt') (M + 1) s' = upr (upr (upr i' (M + 4) (cpyK (i' (M + 1)) (i' (M + 4)) 1372)) (M + 7) lt') (M + 1) s' := by
          rw [upr_comm (show M + 1 ≠ M + 7 by omega), upr_upr, upr_upr]
        rw [hpl, e0]
        cases hwa : wAsk (eExt n0 (aL A) E) (rootsOf n0 (aL A)) A.1 (nI k) with
        | false =>
          refine go_if_ne (z := 49) (z2 := 43) dX6_leastCoin_40 rfl (by decide) (fun _ => ?_) (fun h => absurd h (by decide))
          exact out k s' lt' _ (by rw [if_neg (show ¬ false = true by decide), if_neg (by omega)]) h2 (by omega)
        | true =>
          refine go_if_ne (z := 49) (z2 := 43) dX6_leastCoin_40 rfl (by decide) (fun h => absurd rfl h) (fun _ => ?_)
          rw [if_pos rfl]
          refine go_iinc (z := 46) dX6_leastCoin_43 rfl rfl (nI_1 k) (by decide) ?_
          refine go_goto (z := 29) dX6_leastCoin_46 (by decide) ?_
          exact ih (k + 1) s' lt' (by omega) (by omega) q5 q6
    refine go_istore_n (z := 5) dX6_leastCoin_4 rfl (by decide) ?_
    refine go_iload_n (z := 6) dX6_leastCoin_5 rfl rfl ?_
    refine go_bipush (z := 8) (v := (-5)) dX6_leastCoin_6 rfl (by decide) ?_
    refine go_icmp_eq (z := 16) (z2 := 11) dX6_leastCoin_8 rfl (by decide) (fun _ => ?_) (fun h => absurd rfl h)
    refine go_aload_n (z := 17) dX6_leastCoin_16 rfl rfl ?_
    refine go_getR (z := 20) dX6_leastCoin_17 rfl fX6_7 (by assumption) rfl (by assumption) ?_
    refine go_aload_n (z := 21) dX6_leastCoin_20 rfl rfl ?_
    refine go_getR (z := 24) dX6_leastCoin_21 rfl fX6_19 (by assumption) rfl (by assumption) ?_
    refine go_callS (z := 27) [.ref (M + 1), .ref (M + 4)] dX6_leastCoin_24 rfl mlX6_copy sX6_158 rfl rfl (by decide) (cat_r (cat_r cat_nil)) (by simp) (by decide) (by first | decide | omega) (by first | decide | omega) (c_mCopy hs hA4 (by omega)) ?_
    refine ret_elim ?_
    refine go_iconst (z := 28) (v := 2) dX6_leastCoin_27 rfl (by decide) ?_
    refine go_istore_n (z := 29) dX6_leastCoin_28 rfl (by decide) ?_
    have key := loop 15 2 (i' (M + 1)) (i' (M + 7)) rfl (Nat.le_refl _) hw0 h90
    rw [upr_same (show upr i' (M + 4) (cpyK (i' (M + 1)) (i' (M + 4)) 1372) (M + 7) = i' (M + 7) from upr_n (by omega)), upr_same (show upr i' (M + 4) (cpyK (i' (M + 1)) (i' (M + 4)) 1372) (M + 1) = i' (M + 1) from upr_n (by omega))] at key
    exact key
end MLEASTW
