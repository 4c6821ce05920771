/-! THE REFERENCE FROM OUTSIDE: its rows behind the object: s, history, snapshot, before, text, read, latest -/
def MoY (G : GG) (n M : Nat) (r : RP) : Prop := MoX G n M r ∧ (r M 1 = some (M + 2) ∧ r M 3 = some (M + 3) ∧ r M 5 = some (M + 4) ∧ r M 6 = some (M + 5) ∧ r M 8 = some (M + 6) ∧ r M 12 = some (M + 7)) ∧ OkA G n (M + 2) 7 5488 ∧ OkA G n (M + 3) 7 1372 ∧ OkA G n (M + 4) 7 1372 ∧ OkA G n (M + 5) 7 60 ∧ OkA G n (M + 6) 7 48 ∧ OkA G n (M + 7) 7 16
/-- what each part looks at: the first 1372 -/
theorem RelS.congr {E : EE} {Gd : Nat → Prop} {O : Nat} {ml0 : RM} {m : MS} {s s' : Nat → Int32} (h : RelS E Gd O ml0 m s) (hs : ∀ k, k < 1372 → s' k = s k) : RelS E Gd O ml0 m s' := by
  obtain ⟨β, qs, ps, nw, o, ho, r1, r2, r3, r4, r5, r6, r7, r8, r9⟩ := h
  refine ⟨β, qs, ps, nw, o, ho, r1.congr (fun k a _ _ => hs k (by omega)) rfl, r2.congr (fun k a b => hs k (by omega)) rfl, r3.congr (fun k a b => hs k (by omega)) rfl rfl, r4.congr (hs 10 (by omega)) (fun e f he hf => hs _ (by omega)), r5.congr (fun e f he hf => hs _ (by omega)), r6, ⟨by rw [hs 4 (by omega)]; exact r7.1, r7.2.1, fun j y hy => ?_⟩, r8, r9⟩
  have hj : j < 144 := by
    have := (List.getElem?_eq_some_iff.mp hy).1
    have := r7.2.1
    omega
  obtain ⟨a, b⟩ := r7.2.2 j y hy
  refine ⟨fun f hf => ?_, ?_⟩
  · exact (hs _ (by omega)).trans (a f hf)
  · exact (hs _ (by omega)).trans b
def RefR (E : EE) (Gd : Nat → Prop) (O : Nat) (A : AP) (M : Nat) (i : IP) : Prop :=
  RelS E Gd O [] A.1 (i (M + 1)) ∧ (i M 2 = nI A.2.1.length ∧ A.2.1.length ≤ 4 ∧ ∀ (j : Nat) (m : MS), A.2.1[j]? = some m → RelS E Gd O [] m (fun k => i (M + 2) (1372 * j + k))) ∧ i M 4 = b2i A.2.2.2.1 ∧ (A.2.2.2.1 = true → RelS E Gd O [] A.2.2.1 (i (M + 3))) ∧ (i M 7 = nI A.2.2.2.2.2 ∧ A.2.2.2.2.2 ≤ 60 ∧ ∀ k, k < 60 → i (M + 5) k = A.2.2.2.2.1 k)
def OutM (M : Nat) (i i' : IP) : Prop := ∀ a, a < M ∨ M + 8 ≤ a → i' a = i a
theorem OutM.rf {M : Nat} {i : IP} : OutM M i i := fun _ _ => rfl
theorem OutM.tr {M : Nat} {i i1 i2 : IP} (h1 : OutM M i i1) (h2 : OutM M i1 i2) : OutM M i i2 := fun a ha => (h2 a ha).trans (h1 a ha)
theorem OutM.pi {M : Nat} {i : IP} {a k : Nat} {x : Int32} (h1 : M ≤ a) (h2 : a < M + 8) : OutM M i (ups i a k x) := fun q hq => ups_row (by omega)
theorem OutM.pr {M : Nat} {i : IP} {a : Nat} {t : Nat → Int32} (h1 : M ≤ a) (h2 : a < M + 8) : OutM M i (upr i a t) := fun q hq => upr_n (by omega)
def PQ (x : Int32) (P : IP → Prop) (M n : Nat) (i : IP) (r : RP) : QP := fun v n' i' r' => v = some (.int x) ∧ n' = n ∧ r' = r ∧ OutM M i i' ∧ P i'
theorem go_i {l : Launch} {G : GG} {Y : AM} {D k j pc : Nat} {lo : List (Option Value)} {st : List Value} {n : Nat} {i i' : IP} {r : RP} {Q : QP} (hi : i = i') (K : Go l G Y D k j pc lo st n i' r Q) : Go l G Y D k j pc lo st n i r Q := by subst hi; exact K
/-- an answer out of the row alone -/
theorem at_i {l : Launch} {G : GG} {Y : AM} {D k j pc : Nat} {lo : List (Option Value)} {st : List Value} {n : Nat} {i : IP} {r : RP} {a : Nat} {x : Int32} (C : Go l G Y D k j pc lo st n (upr i a (i a)) r (RetI x n (upr i a (i a)) r)) : Go l G Y D k j pc lo st n i r (RetI x n i r) := by
  rw [upr_id] at C
  exact C
def putB (h : Nat → Int32) (c : Nat) (s : Nat → Int32) : Nat → Int32 := fun k => if 1372 * c ≤ k ∧ k < 1372 * c + 1372 then s (k - 1372 * c) else h k
def putK (h : Nat → Int32) (c : Nat) (s : Nat → Int32) (q : Nat) : Nat → Int32 := fun k => if 1372 * c ≤ k ∧ k < 1372 * c + q then s (k - 1372 * c) else h k
def shK (h : Nat → Int32) (q : Nat) : Nat → Int32 := fun k => if k < q then h (k + 1372) else h k
theorem putK_0 {h s : Nat → Int32} {c : Nat} : putK h c s 0 = h := by
  funext k
  unfold putK
  rw [if_neg (by omega)]
theorem putK_s {h s : Nat → Int32} {c q : Nat} : up1 (putK h c s q) (1372 * c + q) (s q) = putK h c s (q + 1) := by
  funext k
  by_cases e : k = 1372 * c + q
  · subst e
    rw [up1_s]
    unfold putK
    rw [if_pos (by omega)]
    congr 1
    omega
  · rw [up1_n e]
    unfold putK
    by_cases e2 : 1372 * c ≤ k ∧ k < 1372 * c + q
    · rw [if_pos e2, if_pos (by omega)]
    · rw [if_neg e2, if_neg (by omega)]
theorem shK_0 {h : Nat → Int32} : shK h 0 = h := by
  funext k
  unfold shK
  rw [if_neg (by omega)]
theorem shK_s {h : Nat → Int32} {q : Nat} : up1 (shK h q) q (h (q + 1372)) = shK h (q + 1) := by
  funext k
  by_cases e : k = q
  · subst e
    rw [up1_s]
    unfold shK
    rw [if_pos (by omega)]
  · rw [up1_n e]
    unfold shK
    by_cases e2 : k < q
    · rw [if_pos e2, if_pos (by omega)]
    · rw [if_neg e2, if_neg (by omega)]
def recC (c : Nat) : Nat := if c = 4 then 4 else c + 1
def recH (c : Nat) (h s : Nat → Int32) : Nat → Int32 := if c = 4 then putB (shK h 4116) 3 s else putB h c s
def recI (i : IP) (M c : Nat) : IP := ups (upr i (M + 2) (recH c (i (M + 2)) (i (M + 1)))) M 2 (nI (recC c))
section MOUTER
variable {l : Launch} {G : GG} {n : Nat} {i : IP} {r : RP} {M : Nat} {E : EE} {Gd : Nat → Prop} {O : Nat} {A : AP}
theorem MoY.x (h : MoY G n M r) : MoX G n M r := h.1
theorem c_mRecTail {c : Nat} {i : IP} {o1 : Option Value} (hY : MoY G n M r) (hk : i M 2 = nI c) (hc : c < 4) : Go l G mX6_record 0 0 0 49 [some (.ref M), o1] [] n i r (Ret none n (ups (upr i (M + 2) (putB (i (M + 2)) c (i (M + 1)))) M 2 (nI (c + 1))) r) := by
  obtain ⟨⟨hM, hr0, hs⟩, ⟨hr1, hr3, hr5, hr6, hr8, hr12⟩, hA2, hA3, hA4, hA5, hA6, hA7⟩ := hY
  have loop : ∀ d q, q + d = 1372 → Go l G mX6_record 0 0 0 51 [some (.ref M), some (.int (nI q))] [] n (upr i (M + 2) (putK (i (M + 2)) c (i (M + 1)) q)) r (Ret none n (ups (upr i (M + 2) (putB (i (M + 2)) c (i (M + 1)))) M 2 (nI (c + 1))) r) := by
    intro d
    have e0 : ∀ q, upr i (M + 2) (putK (i (M + 2)) c (i (M + 1)) q) M 2 = nI c := fun q => by rw [upr_n (by omega)]; exact hk
    induction d with
    | zero =>
      intro q hq
      have hq : q = 1372 := by omega
      subst hq
      refine go_iload_n (z := 52) dX6_record_51 rfl rfl ?_
      refine go_sipush (z := 55) (v := 1372) dX6_record_52 rfl (by decide) ?_
      refine go_icmp_ge (z := 85) (z2 := 58) dX6_record_55 rfl (by decide) (fun _ => ?_) (fun h => absurd (by decide) h)
      refine go_aload_n (z := 86) dX6_record_85 rfl rfl ?_
      refine go_dup (z := 87) dX6_record_86 rfl rfl ?_
      refine go_getI (z := 90) dX6_record_87 rfl fX6_35 (by assumption) rfl ?_
      rw [e0]
      refine go_iconst (z := 91) (v := 1) dX6_record_90 rfl (by decide) ?_
      refine go_iadd (z := 92) dX6_record_91 rfl ?_
      rw [nI_1]
      refine go_putI (z := 95) dX6_record_92 rfl fX6_35 (by assumption) rfl (Or.inl rfl) rfl ?_
      exact go_vret dX6_record_95 rfl ret_ok
    | succ d ih =>
      intro q hq
      refine go_iload_n (z := 52) dX6_record_51 rfl rfl ?_
      refine go_sipush (z := 55) (v := 1372) dX6_record_52 rfl (by decide) ?_
      refine go_icmp_ge (z := 85) (z2 := 58) dX6_record_55 rfl (by decide) (fun h => absurd ((nI_leI (a := 1372) (by omega) (by omega)).mp h) (by omega)) (fun _ => ?_)
      refine go_aload_n (z := 59) dX6_record_58 rfl rfl ?_
      refine go_getR (z := 62) dX6_record_59 rfl fX6_13 (by assumption) rfl (by assumption) ?_
      refine go_sipush (z := 65) (v := 1372) dX6_record_62 rfl (by decide) ?_
      refine go_aload_n (z := 66) dX6_record_65 rfl rfl ?_
      refine go_getI (z := 69) dX6_record_66 rfl fX6_35 (by assumption) rfl ?_
      rw [e0]
      refine go_imul (z := 70) dX6_record_69 rfl ?_
      refine go_iload_n (z := 71) dX6_record_70 rfl rfl ?_
      refine go_iadd (z := 72) dX6_record_71 rfl ?_
      refine go_st (st' := [.int (nI (1372 * c + q)), .ref (M + 2)]) (by rw [show (1372 : Int32) = nI 1372 from rfl, pk_mul, nI_add]) ?_
      refine go_aload_n (z := 73) dX6_record_72 rfl rfl ?_
      refine go_getR (z := 76) dX6_record_73 rfl fX6_7 (by assumption) rfl (by assumption) ?_
      refine go_iload_n (z := 77) dX6_record_76 rfl rfl ?_
      refine go_iald (z := 78) q (by assumption) (by decide) rfl (by omega) dX6_record_77 rfl ?_
      rw [upr_n (show M + 1 ≠ M + 2 by omega)]
      refine go_iastM (z := 79) (1372 * c + q) (by assumption) (by decide) rfl (by omega) dX6_record_78 rfl ?_
      refine go_iinc (z := 82) dX6_record_79 rfl rfl (nI_1 q) (by decide) ?_
      refine go_goto (z := 51) dX6_record_82 (by decide) ?_
      rw [putK_s]
      exact ih (q + 1) (by omega)
  refine go_iconst (z := 50) (v := 0) dX6_record_49 rfl (by decide) ?_
  refine go_istore_n (z := 51) dX6_record_50 rfl (by decide) ?_
  have := loop 1372 0 rfl
  rw [putK_0, upr_id] at this
  exact this
theorem c_mRecord {c : Nat} (hY : MoY G n M r) (hk : i M 2 = nI c) (hc : c ≤ 4) : Go l G mX6_record 0 0 0 0 (lentry [.ref M] 2) [] n i r (Ret none n (recI i M c) r) := by
  obtain ⟨⟨hM, hr0, hs⟩, ⟨hr1, hr3, hr5, hr6, hr8, hr12⟩, hA2, hA3, hA4, hA5, hA6, hA7⟩ := id hY
  by_cases h4 : c = 4
  · subst h4
    have loop : ∀ d q, q + d = 4116 → Go l G mX6_record 0 0 0 10 [some (.ref M), some (.int (nI q))] [] n (upr i (M + 2) (shK (i (M + 2)) q)) r (Ret none n (recI i M 4) r) := by
      intro d
      induction d with
      | zero =>
        intro q hq
        have hq : q = 4116 := by omega
        subst hq
        refine go_iload_n (z := 11) dX6_record_10 rfl rfl ?_
        refine go_sipush (z := 14) (v := 4116) dX6_record_11 rfl (by decide) ?_
        refine go_icmp_ge (z := 39) (z2 := 17) dX6_record_14 rfl (by decide) (fun _ => ?_) (fun h => absurd (by decide) h)
        refine go_aload_n (z := 40) dX6_record_39 rfl rfl ?_
        refine go_dup (z := 41) dX6_record_40 rfl rfl ?_
        refine go_getI (z := 44) dX6_record_41 rfl fX6_35 (by assumption) rfl ?_
        rw [upr_n (show M ≠ M + 2 by omega), hk]
        refine go_iconst (z := 45) (v := 1) dX6_record_44 rfl (by decide) ?_
        refine go_isub (z := 46) dX6_record_45 rfl ?_
        refine go_putI (z := 49) dX6_record_46 rfl fX6_35 (by assumption) rfl (Or.inl rfl) rfl ?_
        refine go_post (c_mRecTail (c := 3) hY ups_s (by omega)) (fun v n' i' r' hp => ?_)
        obtain ⟨p1, p2, p3, p4⟩ := hp
        refine ⟨p1, p2, p3.trans ?_, p4⟩
        unfold recI recC recH
        rw [if_pos rfl, if_pos rfl, ups_row (show M + 2 ≠ M by omega), ups_row (show M + 1 ≠ M by omega), upr_s, upr_n (show M + 1 ≠ M + 2 by omega)]
        funext a k
        by_cases hM2 : a = M + 2
        · rw [hM2, ups_a (by omega), ups_a (by omega), upr_s, upr_s]
        · by_cases hMM : a = M
          · subst hMM
            by_cases hk2 : k = 2
            · rw [hk2, ups_s, ups_s]
            · rw [ups_k hk2, ups_k hk2, upr_n hM2, ups_k hk2, upr_n hM2, upr_n hM2]
          · rw [ups_a hMM, ups_a hMM, upr_n hM2, ups_row hMM, upr_n hM2, upr_n hM2]
      | succ d ih =>
        intro q hq
        refine go_iload_n (z := 11) dX6_record_10 rfl rfl ?_
        refine go_sipush (z := 14) (v := 4116) dX6_record_11 rfl (by decide) ?_
        refine go_icmp_ge (z := 39) (z2 := 17) dX6_record_14 rfl (by decide) (fun h => absurd ((nI_leI (a := 4116) (by omega) (by omega)).mp h) (by omega)) (fun _ => ?_)
        refine go_aload_n (z := 18) dX6_record_17 rfl rfl ?_
        refine go_getR (z := 21) dX6_record_18 rfl fX6_13 (by assumption) rfl (by assumption) ?_
        refine go_iload_n (z := 22) dX6_record_21 rfl rfl ?_
        refine go_aload_n (z := 23) dX6_record_22 rfl rfl ?_
        refine go_getR (z := 26) dX6_record_23 rfl fX6_13 (by assumption) rfl (by assumption) ?_
        refine go_iload_n (z := 27) dX6_record_26 rfl rfl ?_
        refine go_sipush (z := 30) (v := 1372) dX6_record_27 rfl (by decide) ?_
        refine go_iadd (z := 31) dX6_record_30 rfl ?_
        refine go_ialdM (z := 32) (q + 1372) (by assumption) (by decide) (nI_add q 1372) (by omega) dX6_record_31 rfl ?_
        rw [show shK (i (M + 2)) q (q + 1372) = i (M + 2) (q + 1372) from by unfold shK; rw [if_neg (by omega)]]
        refine go_iastM (z := 33) q (by assumption) (by decide) rfl (by omega) dX6_record_32 rfl ?_
        refine go_iinc (z := 36) dX6_record_33 rfl rfl (nI_1 q) (by decide) ?_
        refine go_goto (z := 10) dX6_record_36 (by decide) ?_
        rw [shK_s]
        exact ih (q + 1) (by omega)
    refine go_aload_n (z := 1) dX6_record_0 rfl rfl ?_
    refine go_getI (z := 4) dX6_record_1 rfl fX6_35 (by assumption) rfl ?_
    rw [hk]
    refine go_iconst (z := 5) (v := 4) dX6_record_4 rfl (by decide) ?_
    refine go_icmp_ne (z := 49) (z2 := 8) dX6_record_5 rfl (by decide) (fun h => absurd rfl h) (fun _ => ?_)
    refine go_iconst (z := 9) (v := 0) dX6_record_8 rfl (by decide) ?_
    refine go_istore_n (z := 10) dX6_record_9 rfl (by decide) ?_
    have := loop 4116 0 rfl
    rw [shK_0, upr_id] at this
    exact this
  · refine go_aload_n (z := 1) dX6_record_0 rfl rfl ?_
    refine go_getI (z := 4) dX6_record_1 rfl fX6_35 (by assumption) rfl ?_
    rw [hk]
    refine go_iconst (z := 5) (v := 4) dX6_record_4 rfl (by decide) ?_
    refine go_icmp_ne (z := 49) (z2 := 8) dX6_record_5 rfl (by decide) (fun _ => ?_) (fun h => absurd ((nI_eq (b := 4) (by omega) (by omega)).mp h) h4)
    refine go_post (c_mRecTail hY hk (by omega)) (fun v n' i' r' hp => ?_)
    obtain ⟨p1, p2, p3, p4⟩ := hp
    refine ⟨p1, p2, p3.trans ?_, p4⟩
    unfold recI recC recH
    rw [if_neg h4, if_neg h4]
end MOUTER
