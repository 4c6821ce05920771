/-! readText, partsOfRead, planned -/
section MPLANW
variable {l : Launch} {G : GG} {n : Nat} {i : IP} {r : RP} {M : Nat} {E : EE} {Gd : Nat → Prop} {O : Nat} {A : AP}
theorem RefR.out {i' : IP} (hR : RefR E Gd O A M i) (ho : OutX M i i') : RefR E Gd O A M i' := by
  obtain ⟨h1, ⟨h2, h3, h4⟩, h5, h6, h7, h8, h9⟩ := hR
  exact ⟨by rw [ho.1 _ (by omega) (by omega)]; exact h1, ⟨(ho.2 2 (by decide) (by decide) (by decide)).trans h2, h3, fun j m hm => by rw [ho.1 (M + 2) (by omega) (by omega)]; exact h4 j m hm⟩, (ho.2 4 (by decide) (by decide) (by decide)).trans h5, fun hk => by rw [ho.1 (M + 3) (by omega) (by omega)]; exact h6 hk, (ho.2 7 (by decide) (by decide) (by decide)).trans h7, h8, fun k hk => by rw [ho.1 (M + 5) (by omega) (by omega)]; exact h9 k hk⟩
theorem OutX.m {i' : IP} (ho : OutX M i i') : OutM M i i' := fun a ha => ho.1 a (by omega) (by omega)
theorem c_mReadText (hY : MoY G n M r) (hR : RefR E Gd O A M i) : Go l G mX6_readText 4 0 0 0 (lentry [.ref M] 3) [] n i r (RtQ M n A.2.2.2.2.2 (aRead A) i r) := by
  obtain ⟨⟨hM, hr0, hs⟩, ⟨hr1, hr3, hr5, hr6, hr8, hr12⟩, hA2, hA3, hA4, hA5, hA6, hA7⟩ := id hY
  obtain ⟨-, -, -, -, h7, h8, h9⟩ := id hR
  have ho : OutX M i (ups (ups (ups i M 10 0) M 9 0) M 11 0) := (OutX.pf (Or.inr (Or.inl rfl))).tr ((OutX.pf (Or.inl rfl)).tr (OutX.pf (Or.inr (Or.inr rfl))))
  have hC : RdC M A.2.2.2.2.2 A.2.2.2.2.1 (ups (ups (ups i M 10 0) M 9 0) M 11 0) := RdC.out ⟨h7, h8, h9⟩ ho
  have hS : RdS M 0 0 [] (ups (ups (ups i M 10 0) M 9 0) M 11 0) := ⟨by rw [ups_k (by decide), ups_k (by decide)]; exact ups_s, by rw [ups_k (by decide)]; exact ups_s, ups_s, fun k y hy => by cases hy⟩
  have hG : aRead A = rgo A.2.2.2.2.1 ([], 0, 0) 0 (A.2.2.2.2.2 - 0) := rfl
  refine go_aload_n (z := 1) dX6_readText_0 rfl rfl ?_
  refine go_iconst (z := 2) (v := 0) dX6_readText_1 rfl (by decide) ?_
  refine go_putI (z := 5) dX6_readText_2 rfl fX6_113 (by assumption) rfl (Or.inl rfl) rfl ?_
  refine go_aload_n (z := 6) dX6_readText_5 rfl rfl ?_
  refine go_iconst (z := 7) (v := 0) dX6_readText_6 rfl (by decide) ?_
  refine go_putI (z := 10) dX6_readText_7 rfl fX6_122 (by assumption) rfl (Or.inl rfl) rfl ?_
  refine go_aload_n (z := 11) dX6_readText_10 rfl rfl ?_
  refine go_iconst (z := 12) (v := 0) dX6_readText_11 rfl (by decide) ?_
  refine go_putI (z := 15) dX6_readText_12 rfl fX6_125 (by assumption) rfl (Or.inl rfl) rfl ?_
  refine go_iconst (z := 16) (v := 1) dX6_readText_15 rfl (by decide) ?_
  refine go_istore_n (z := 17) dX6_readText_16 rfl (by decide) ?_
  refine go_aload_n (z := 18) dX6_readText_17 rfl rfl ?_
  refine go_callV (z := 21) (t := 6) [] dX6_readText_18 rfl mlX6_readHead vX6_128 ⟨by decide, rfl⟩ hM rfl rfl (by decide) cat_nil (by simp) (by decide) (by first | decide | omega) (by first | decide | omega) (c_mReadHead hY hC hS (Nat.zero_le _) hG ri_0) ?_
  refine hd_elim (fun i' p' g w k1 k2 k3 k4 k5 k6 k7 => ?_) (fun i' p' k1 k2 k3 k4 => ?_)
  · refine go_if_ne (z := 29) (z2 := 24) dX6_readText_21 rfl (by decide) (fun _ => ?_) (fun h => absurd h (by decide))
    exact c_mTextLoop hY (A.2.2.2.2.2 - p') p' 0 _ 3 i' none (Nat.le_refl _) k4 (Or.inl rfl) (hC.out k1) k3 (ho.tr k1) k5 k6 (fun _ => k7)
  · refine go_if_ne (z := 29) (z2 := 24) dX6_readText_21 rfl (by decide) (fun h => absurd rfl h) (fun _ => ?_)
    refine go_aload_n (z := 25) dX6_readText_24 rfl rfl ?_
    refine go_getI (z := 28) dX6_readText_25 rfl fX6_113 (by assumption) rfl ?_
    rw [k2]
    exact go_iret dX6_readText_28 rfl (rt_fail (ho.tr k1) k3 h8 k4)
/-- a text was read: its fault, or its errands -/
theorem rt_elim {P : Option Value → Nat → IP → RP → Prop} (hp : A.2.2.2.2.2 ≤ 60) (K1 : ∀ p i', aErr A = some p → p ≤ 60 → OutX M i i' → P (some (.int (nI p))) n i' r) (K2 : ∀ i' p d, aErr A = none → OutX M i i' → RdS M p d (aL A) i' → (aL A).length ≤ 15 → VD (deps (aL A)) → (∀ y ∈ aL A, y.1 < 6 ∧ y.2.1 ≤ 20 ∧ y.2.2 < (aL A).length) → aL A ≠ [] → P (some (.int (-5))) n i' r) : ∀ v n' i' r', RtQ M n A.2.2.2.2.2 (aRead A) i r v n' i' r' → P v n' i' r' := by
  rintro v n' i' r' ⟨h1, h2, h3, h4, h5, h6⟩
  rw [h1, h2, h3]
  have e : errOf A.2.2.2.2.2 (aRead A) = aErr A := rfl
  rw [e] at h5 h6 ⊢
  cases he : aErr A with
  | some p => exact K1 p i' he (h5 p he) h4
  | none =>
    obtain ⟨L, d, due, p, g1, g2, g3⟩ := h6 he
    obtain ⟨s, q1, q2, q3, q4⟩ := read_ok he
    have hs : s = (L, d, due) := by rw [g1] at q1; exact (Sum.inr.inj q1).symm
    have hL : aL A = L := by rw [← q2, hs]
    have hdue : due = 3 ∨ due = 4 := by
      have : (if rdOk (L, d, due) = true then none else some A.2.2.2.2.2) = none := by
        have h : errOf A.2.2.2.2.2 (aRead A) = none := he
        rw [g1] at h
        exact h
      by_cases c : rdOk (L, d, due) = true
      · exact (of_decide_eq_true c).2
      · rw [if_neg c] at this; cases this
    rw [← hL] at g2 g3
    refine K2 i' p d he h4 g2 ?_ q3 g3.2.1 (fun hn => ?_)
    · have h3 := g3.2.2
      rcases h3 with q | q | q | q | q
      · have := q.2.2; dsimp only at this; omega
      · have := q.2.2; dsimp only at this; omega
      · have := q.2.2; dsimp only at this; omega
      · have := q.2.2; dsimp only at this; omega
      · have := q.2.2; dsimp only at this; omega
    · have h3 := g3.2.2
      rw [hn] at h3
      have e0 : mL [] = 0 := rfl
      dsimp only at h3
      rw [e0] at h3
      omega
theorem mD_take {L : List RN} {k : Nat} {y : RN} (h : L[k]? = some y) : dF (deps L) k = y.2.2 := dF_some (by unfold deps; rw [List.getElem?_map, h]; rfl)
theorem c_mParts {p d q : Nat} {L : List RN} (hY : MoY G n M r) (hS : RdS M p d L i) (hL : L.length ≤ 15) (hD : ∀ y ∈ L, y.2.2 < 2 ^ 20) (hq : q < L.length) : Go l G mX6_partsOfRead 0 0 0 0 (lentry [.ref M, .int (nI q)] 5) [] n i r (RetI (nI (prK (dF (deps L)) q (L.length - (q + 1)) (q + 1))) n i r) := by
  obtain ⟨⟨hM, hr0, hs⟩, ⟨hr1, hr3, hr5, hr6, hr8, hr12⟩, hA2, hA3, hA4, hA5, hA6, hA7⟩ := id hY
  obtain ⟨f10, f9, f11, f6⟩ := hS
  have m3 : ∀ k, (3 : Int32) * nI k = nI (3 * k) := fun k => pk_mul 3 k
  have dep : ∀ k, k < L.length → i (M + 6) (3 * k + 2) = nI (dF (deps L) k) ∧ dF (deps L) k < 2 ^ 20 := fun k hk => by
    have hy : L[k]? = some L[k] := List.getElem?_eq_getElem hk
    rw [mD_take hy]
    exact ⟨(f6 k _ hy).2.2, hD _ (List.getElem_mem hk)⟩
  have loop : ∀ f k c, k + f = L.length → c ≤ k → Go l G mX6_partsOfRead 0 0 0 18 [some (.ref M), some (.int (nI q)), some (.int (nI c)), some (.int (nI (dF (deps L) q))), some (.int (nI k))] [] n i r (RetI (nI (c + prK (dF (deps L)) q f k)) n i r) := by
    intro f
    induction f with
    | zero =>
      intro k c hk hc
      refine go_iload (z := 20) dX6_partsOfRead_18 rfl rfl ?_
      refine go_aload_n (z := 21) dX6_partsOfRead_20 rfl rfl ?_
      refine go_getI (z := 24) dX6_partsOfRead_21 rfl fX6_122 (by assumption) rfl ?_
      rw [f9]
      refine go_icmp_ge (z := 73) (z2 := 27) dX6_partsOfRead_24 rfl (by decide) (fun _ => ?_) (fun h => absurd ((nI_leI (by omega) (by omega)).mpr (by omega)) h)
      refine go_iload_n (z := 74) dX6_partsOfRead_73 rfl rfl ?_
      exact go_iret dX6_partsOfRead_74 rfl ret_ok
    | succ f ih =>
      intro k c hk hc
      obtain ⟨dk, dk2⟩ := dep k (by omega)
      obtain ⟨dq, dq2⟩ := dep q hq
      have e : prK (dF (deps L)) q (f + 1) k = if dF (deps L) q < dF (deps L) k then (if dF (deps L) k = dF (deps L) q + 1 then 1 else 0) + prK (dF (deps L)) q f (k + 1) else 0 := rfl
      refine go_iload (z := 20) dX6_partsOfRead_18 rfl rfl ?_
      refine go_aload_n (z := 21) dX6_partsOfRead_20 rfl rfl ?_
      refine go_getI (z := 24) dX6_partsOfRead_21 rfl fX6_122 (by assumption) rfl ?_
      rw [f9]
      refine go_icmp_ge (z := 73) (z2 := 27) dX6_partsOfRead_24 rfl (by decide) (fun h => absurd ((nI_leI (by omega) (by omega)).mp h) (by omega)) (fun _ => ?_)
      refine go_aload_n (z := 28) dX6_partsOfRead_27 rfl rfl ?_
      refine go_getR (z := 31) dX6_partsOfRead_28 rfl fX6_25 (by assumption) rfl (by assumption) ?_
      refine go_iconst (z := 32) (v := 3) dX6_partsOfRead_31 rfl (by decide) ?_
      refine go_iload (z := 34) dX6_partsOfRead_32 rfl rfl ?_
      refine go_imul (z := 35) dX6_partsOfRead_34 rfl ?_
      rw [m3]
      refine go_iconst (z := 36) (v := 2) dX6_partsOfRead_35 rfl (by decide) ?_
      refine go_iadd (z := 37) dX6_partsOfRead_36 rfl ?_
      refine go_iald (z := 38) (3 * k + 2) (by assumption) (by decide) (nI_add (3 * k) 2) (by omega) dX6_partsOfRead_37 rfl ?_
      rw [dk]
      refine go_iload_n (z := 39) dX6_partsOfRead_38 rfl rfl ?_
      refine go_icmp_le (z := 73) (z2 := 42) dX6_partsOfRead_39 rfl (by decide) (fun h => ?_) (fun h => ?_)
      · have := (nI_leI (by omega) (by omega)).mp h
        refine go_iload_n (z := 74) dX6_partsOfRead_73 rfl rfl ?_
        rw [e, if_neg (by omega)]
        exact go_iret dX6_partsOfRead_74 rfl ret_ok
      · have hlt : dF (deps L) q < dF (deps L) k := by
          rcases Nat.lt_or_ge (dF (deps L) q) (dF (deps L) k) with q | q
          · exact q
          · exact absurd ((nI_leI (by omega) (by omega)).mpr q) h
        rw [e, if_pos hlt]
        refine go_iload_n (z := 43) dX6_partsOfRead_42 rfl rfl ?_
        refine go_aload_n (z := 44) dX6_partsOfRead_43 rfl rfl ?_
        refine go_getR (z := 47) dX6_partsOfRead_44 rfl fX6_25 (by assumption) rfl (by assumption) ?_
        refine go_iconst (z := 48) (v := 3) dX6_partsOfRead_47 rfl (by decide) ?_
        refine go_iload (z := 50) dX6_partsOfRead_48 rfl rfl ?_
        refine go_imul (z := 51) dX6_partsOfRead_50 rfl ?_
        rw [m3]
        refine go_iconst (z := 52) (v := 2) dX6_partsOfRead_51 rfl (by decide) ?_
        refine go_iadd (z := 53) dX6_partsOfRead_52 rfl ?_
        refine go_iald (z := 54) (3 * k + 2) (by assumption) (by decide) (nI_add (3 * k) 2) (by omega) dX6_partsOfRead_53 rfl ?_
        rw [dk]
        refine go_iload_n (z := 55) dX6_partsOfRead_54 rfl rfl ?_
        refine go_iconst (z := 56) (v := 1) dX6_partsOfRead_55 rfl (by decide) ?_
        refine go_iadd (z := 57) dX6_partsOfRead_56 rfl ?_
        rw [nI_1]
        refine go_icmp_ne (z := 64) (z2 := 60) dX6_partsOfRead_57 rfl (by decide) (fun hne => ?_) (fun heq => ?_)
        · have hne : ¬ dF (deps L) k = dF (deps L) q + 1 := fun q => hne (by rw [q])
          refine go_iconst (z := 65) (v := 0) dX6_partsOfRead_64 rfl (by decide) ?_
          refine go_iadd (z := 66) dX6_partsOfRead_65 rfl ?_
          rw [show nI c + 0 = nI c from nI_add c 0]
          refine go_istore_n (z := 67) dX6_partsOfRead_66 rfl (by decide) ?_
          refine go_iinc (z := 70) dX6_partsOfRead_67 rfl rfl (nI_1 k) (by decide) ?_
          refine go_goto (z := 18) dX6_partsOfRead_70 (by decide) ?_
          rw [if_neg hne, Nat.zero_add]
          exact ih (k + 1) c (by omega) (by omega)
        · have heq : dF (deps L) k = dF (deps L) q + 1 := (nI_eq (by omega) (by omega)).mp heq
          refine go_iconst (z := 61) (v := 1) dX6_partsOfRead_60 rfl (by decide) ?_
          refine go_goto (z := 65) dX6_partsOfRead_61 (by decide) ?_
          refine go_iadd (z := 66) dX6_partsOfRead_65 rfl ?_
          rw [nI_1]
          refine go_istore_n (z := 67) dX6_partsOfRead_66 rfl (by decide) ?_
          refine go_iinc (z := 70) dX6_partsOfRead_67 rfl rfl (nI_1 k) (by decide) ?_
          refine go_goto (z := 18) dX6_partsOfRead_70 (by decide) ?_
          rw [if_pos heq, ← Nat.add_assoc]
          exact ih (k + 1) (c + 1) (by omega) (by omega)
  refine go_iconst (z := 1) (v := 0) dX6_partsOfRead_0 rfl (by decide) ?_
  refine go_istore_n (z := 2) dX6_partsOfRead_1 rfl (by decide) ?_
  refine go_aload_n (z := 3) dX6_partsOfRead_2 rfl rfl ?_
  refine go_getR (z := 6) dX6_partsOfRead_3 rfl fX6_25 (by assumption) rfl (by assumption) ?_
  refine go_iconst (z := 7) (v := 3) dX6_partsOfRead_6 rfl (by decide) ?_
  refine go_iload_n (z := 8) dX6_partsOfRead_7 rfl rfl ?_
  refine go_imul (z := 9) (dX6_partsOfRead_8) rfl ?_
  rw [m3]
  refine go_iconst (z := 10) (v := 2) dX6_partsOfRead_9 rfl (by decide) ?_
  refine go_iadd (z := 11) dX6_partsOfRead_10 rfl ?_
  refine go_iald (z := 12) (3 * q + 2) (by assumption) (by decide) (nI_add (3 * q) 2) (by omega) dX6_partsOfRead_11 rfl ?_
  rw [(dep q hq).1]
  refine go_istore_n (z := 13) dX6_partsOfRead_12 rfl (by decide) ?_
  refine go_iload_n (z := 14) dX6_partsOfRead_13 rfl rfl ?_
  refine go_iconst (z := 15) (v := 1) dX6_partsOfRead_14 rfl (by decide) ?_
  refine go_iadd (z := 16) dX6_partsOfRead_15 rfl ?_
  rw [nI_1]
  refine go_istore (z := 18) dX6_partsOfRead_16 rfl (by decide) ?_
  have := loop (L.length - (q + 1)) (q + 1) 0 (by omega) (Nat.zero_le _)
  rw [Nat.zero_add] at this
  exact this
theorem swk_take {L : List RN} {k : Nat} {y : RN} (h : L[k]? = some y) : swk (L.take (k + 1)) = swk (L.take k) + y.2.1 := by
  rw [List.take_succ, h]
  unfold swk
  rw [List.map_append, List.sum_append]
  show _ + (y.2.1 + 0) = _
  omega
theorem mxd_take {L : List RN} {k : Nat} {y : RN} (h : L[k]? = some y) : mxd (L.take (k + 1)) = max (mxd (L.take k)) (y.2.2 + 1) := by
  rw [List.take_succ, h]
  exact mxd_snoc _ _
theorem mxP_s (f : FB) (c : Nat) : mxP f (c + 1) = max (mxP f c) (f.2.1 c).length := by
  unfold mxP
  rw [List.range_succ, List.map_append, List.foldl_append]
  rfl
theorem prK_le (dd : Nat → Nat) (q f : Nat) : ∀ k, prK dd q f k ≤ f := by
  induction f with
  | zero => intro k; exact Nat.le_refl _
  | succ f ih =>
    intro k
    show (if dd q < dd k then (if dd k = dd q + 1 then 1 else 0) + prK dd q f (k + 1) else 0) ≤ f + 1
    have := ih (k + 1)
    split
    · split <;> omega
    · omega
theorem c_mPlan {k : Int32} (hY : MoY G n M r) (hR : RefR E Gd O A M i) : Go l G mX6_planned 5 0 0 0 (lentry [.ref M, .int k] 7) [] n i r (PQ (aPlan A k) (RefR E Gd O A M) M n i r) := by
  obtain ⟨⟨hM, hr0, hs⟩, ⟨hr1, hr3, hr5, hr6, hr8, hr12⟩, hA2, hA3, hA4, hA5, hA6, hA7⟩ := id hY
  have hl60 := hR.2.2.2.2.2.1
  unfold aPlan
  refine go_iload_n (z := 1) dX6_planned_0 rfl rfl ?_
  refine go_iconst (z := 2) (v := 0) dX6_planned_1 rfl (by decide) ?_
  refine go_iconst (z := 3) (v := 3) dX6_planned_2 rfl (by decide) ?_
  refine go_callS (z := 6) [.int k, .int 0, .int 3] dX6_planned_3 rfl mlX6_in sX6_31 rfl rfl (by decide) (cat_i (cat_i (cat_i cat_nil))) (by simp) (by decide) (by first | decide | omega) (by first | decide | omega) (c_mIn) ?_
  refine ret_elim ?_
  refine go_if_ne (z := 12) (z2 := 9) dX6_planned_6 rfl (by decide) (fun hk => ?_) (fun h => ?_)
  · have hk := of_decide_eq_true (b2i_ne hk)
    rw [if_pos hk]
    refine go_aload_n (z := 13) dX6_planned_12 rfl rfl ?_
    refine go_callV (z := 16) (t := 6) [] dX6_planned_13 rfl mlX6_readText vX6_136 ⟨by decide, rfl⟩ hM rfl rfl (by decide) cat_nil (by simp) (by decide) (by first | decide | omega) (by first | decide | omega) (c_mReadText hY hR) ?_
    refine rt_elim hl60 (fun p i' h1 h2 h3 => ?_) (fun i' p d h1 ho hS hL hV hB hne => ?_)
    · rw [h1]
      refine go_istore_n (z := 17) dX6_planned_16 rfl (by decide) ?_
      refine go_iload_n (z := 18) dX6_planned_17 rfl rfl ?_
      refine go_bipush (z := 20) (v := (-5)) dX6_planned_18 rfl (by decide) ?_
      refine go_icmp_eq (z := 28) (z2 := 23) dX6_planned_20 rfl (by decide) (fun h => absurd h (o2i_n (k := p) (by omega))) (fun _ => ?_)
      refine go_bipush (z := 25) (v := (-100)) dX6_planned_23 rfl (by decide) ?_
      refine go_iload_n (z := 26) dX6_planned_25 rfl rfl ?_
      refine go_isub (z := 27) dX6_planned_26 rfl ?_
      exact go_iret dX6_planned_27 rfl ⟨rfl, rfl, rfl, h3.m, hR.out h3⟩
    · rw [h1]
      have hRO := hR.out ho
      generalize hLL : aL A = L at hS hL hV hB hne
      have f9 := hS.2.1
      have f6 := hS.2.2.2
      have m3 : ∀ k, (3 : Int32) * nI k = nI (3 * k) := fun k => pk_mul 3 k
      have hD : ∀ y ∈ L, y.2.2 < 2 ^ 20 := fun y hy => by have := (hB y hy).2.2; omega
      have hans : aPlanO A k none = tell4 (nI L.length) (nI (swk L)) (nI (mxd L)) (nI (mxP (fbL L) L.length)) k := by
        show tell4 (nI (aL A).length) (nI (swk (aL A))) (nI (mxd (aL A))) (nI (mxP (fbL (aL A)) (aL A).length)) k = _
        rw [hLL]
      have loop : ∀ f q, q + f = L.length → swk (L.take q) ≤ 20 * q → mxd (L.take q) ≤ 15 → mxP (fbL L) q ≤ 15 → Go l G mX6_planned 5 0 0 39 [some (.ref M), some (.int k), some (.int (-5)), some (.int (nI (swk (L.take q)))), some (.int (nI (mxd (L.take q)))), some (.int (nI (mxP (fbL L) q))), some (.int (nI q))] [] n i' r (PQ (aPlanO A k none) (RefR E Gd O A M) M n i r) := by
        intro f
        induction f with
        | zero =>
          intro q hq b1 b2 b3
          have hq : q = L.length := by omega
          subst hq
          rw [List.take_length] at b1 b2 ⊢
          have done : ∀ (x : Int32) (lo : List (Option Value)), x = aPlanO A k none → Go l G mX6_planned 5 0 0 162 lo [.int x] n i' r (PQ (aPlanO A k none) (RefR E Gd O A M) M n i r) := fun x lo hx => by
            rw [hx]
            exact go_iret dX6_planned_162 rfl ⟨rfl, rfl, rfl, ho.m, hRO⟩
          obtain ⟨t0, t1, t2, t3⟩ := tell4_ix (nI L.length) (nI (swk L)) (nI (mxd L)) (nI (mxP (fbL L) L.length))
          obtain ⟨w, hw, ew⟩ := nI_of (Int32.not_lt.mpr hk.1)
          subst ew
          have hw3 := (nI_leI (b := 3) hw (by omega)).mp hk.2
          refine go_iload (z := 41) dX6_planned_39 rfl rfl ?_
          refine go_aload_n (z := 42) dX6_planned_41 rfl rfl ?_
          refine go_getI (z := 45) dX6_planned_42 rfl fX6_122 (by assumption) rfl ?_
          rw [f9]
          refine go_icmp_ge (z := 130) (z2 := 48) dX6_planned_45 rfl (by decide) (fun _ => ?_) (fun h => absurd (Int32.le_refl _) h)
          refine go_iload_n (z := 131) dX6_planned_130 rfl rfl ?_
          rcases (show w = 0 ∨ w = 1 ∨ w = 2 ∨ w = 3 by omega) with e | e | e | e <;> subst e
          · refine go_if_ne (z := 141) (z2 := 134) dX6_planned_131 rfl (by decide) (fun h => absurd rfl h) (fun _ => ?_)
            refine go_aload_n (z := 135) dX6_planned_134 rfl rfl ?_
            refine go_getI (z := 138) dX6_planned_135 rfl fX6_122 (by assumption) rfl ?_
            refine go_goto (z := 162) dX6_planned_138 (by decide) ?_
            rw [f9]
            exact done _ _ (by rw [hans, t0])
          · refine go_if_ne (z := 141) (z2 := 134) dX6_planned_131 rfl (by decide) (fun _ => ?_) (fun h => absurd h (by decide))
            refine go_iload_n (z := 142) dX6_planned_141 rfl rfl ?_
            refine go_iconst (z := 143) (v := 1) dX6_planned_142 rfl (by decide) ?_
            refine go_icmp_ne (z := 150) (z2 := 146) dX6_planned_143 rfl (by decide) (fun h => absurd rfl h) (fun _ => ?_)
            refine go_iload_n (z := 147) dX6_planned_146 rfl rfl ?_
            refine go_goto (z := 162) dX6_planned_147 (by decide) ?_
            exact done _ _ (by rw [hans, t1])
          · refine go_if_ne (z := 141) (z2 := 134) dX6_planned_131 rfl (by decide) (fun _ => ?_) (fun h => absurd h (by decide))
            refine go_iload_n (z := 142) dX6_planned_141 rfl rfl ?_
            refine go_iconst (z := 143) (v := 1) dX6_planned_142 rfl (by decide) ?_
            refine go_icmp_ne (z := 150) (z2 := 146) dX6_planned_143 rfl (by decide) (fun _ => ?_) (fun h => absurd h (by decide))
            refine go_iload_n (z := 151) dX6_planned_150 rfl rfl ?_
            refine go_iconst (z := 152) (v := 2) dX6_planned_151 rfl (by decide) ?_
            refine go_icmp_ne (z := 160) (z2 := 155) dX6_planned_152 rfl (by decide) (fun h => absurd rfl h) (fun _ => ?_)
            refine go_iload (z := 157) dX6_planned_155 rfl rfl ?_
            refine go_goto (z := 162) dX6_planned_157 (by decide) ?_
            exact done _ _ (by rw [hans, t2])
          · refine go_if_ne (z := 141) (z2 := 134) dX6_planned_131 rfl (by decide) (fun _ => ?_) (fun h => absurd h (by decide))
            refine go_iload_n (z := 142) dX6_planned_141 rfl rfl ?_
            refine go_iconst (z := 143) (v := 1) dX6_planned_142 rfl (by decide) ?_
            refine go_icmp_ne (z := 150) (z2 := 146) dX6_planned_143 rfl (by decide) (fun _ => ?_) (fun h => absurd h (by decide))
            refine go_iload_n (z := 151) dX6_planned_150 rfl rfl ?_
            refine go_iconst (z := 152) (v := 2) dX6_planned_151 rfl (by decide) ?_
            refine go_icmp_ne (z := 160) (z2 := 155) dX6_planned_152 rfl (by decide) (fun _ => ?_) (fun h => absurd h (by decide))
            refine go_iload (z := 162) dX6_planned_160 rfl rfl ?_
            exact done _ _ (by rw [hans, t3])
        | succ f ih =>
          intro q hq b1 b2 b3
          have hql : q < L.length := by omega
          have hy : L[q]? = some L[q] := List.getElem?_eq_getElem hql
          obtain ⟨y1, y2, y3⟩ := f6 q _ hy
          obtain ⟨z1, z2, z3⟩ := hB _ (List.getElem_mem hql)
          have hpart : ((fbL L).2.1 q).length = prK (dF (deps L)) q (L.length - (q + 1)) (q + 1) := by
            have := parts_of (deps L) hV q (by unfold deps; rw [List.length_map]; exact hql)
            rw [show (deps L).length = L.length from List.length_map _] at this
            exact this
          have hple := prK_le (dF (deps L)) q (L.length - (q + 1)) (q + 1)
          rw [← hpart] at hple
          have e1 := swk_take hy
          have e2 := mxd_take hy
          have e3 := mxP_s (fbL L) q
          have step : ∀ x : Int32, x = nI (max (mxP (fbL L) q) ((fbL L).2.1 q).length) → Go l G mX6_planned 5 0 0 122 [some (.ref M), some (.int k), some (.int (-5)), some (.int (nI (swk (L.take (q + 1))))), some (.int (nI (mxd (L.take (q + 1))))), some (.int (nI (mxP (fbL L) q))), some (.int (nI q))] [.int x] n i' r (PQ (aPlanO A k none) (RefR E Gd O A M) M n i r) := by
            intro x hx
            rw [hx]
            refine go_istore (z := 124) dX6_planned_122 rfl (by decide) ?_
            refine go_iinc (z := 127) dX6_planned_124 rfl rfl (nI_1 q) (by decide) ?_
            refine go_goto (z := 39) dX6_planned_127 (by decide) ?_
            rw [← e3]
            exact ih (q + 1) (by omega) (by rw [e1]; omega) (by rw [e2]; omega) (by rw [e3]; omega)
          have cPart := c_mParts (l := l) (q := q) hY hS hL hD hql
          rw [← hpart] at cPart
          have mid : ∀ x : Int32, x = nI (max (mxd (L.take q)) (L[q].2.2 + 1)) → Go l G mX6_planned 5 0 0 98 [some (.ref M), some (.int k), some (.int (-5)), some (.int (nI (swk (L.take (q + 1))))), some (.int (nI (mxd (L.take q)))), some (.int (nI (mxP (fbL L) q))), some (.int (nI q))] [.int x] n i' r (PQ (aPlanO A k none) (RefR E Gd O A M) M n i r) := by
            intro x hx
            rw [hx, ← e2]
            refine go_istore (z := 100) dX6_planned_98 rfl (by decide) ?_
            refine go_aload_n (z := 101) dX6_planned_100 rfl rfl ?_
            refine go_iload (z := 103) dX6_planned_101 rfl rfl ?_
            refine go_callV (z := 106) (t := 6) [.int (nI q)] dX6_planned_103 rfl mlX6_partsOfRead vX6_145 ⟨by decide, rfl⟩ hM rfl rfl (by decide) (cat_i cat_nil) (by simp) (by decide) (by first | decide | omega) (by first | decide | omega) (cPart) ?_
            refine ret_elim ?_
            refine go_iload (z := 108) dX6_planned_106 rfl rfl ?_
            refine go_icmp_le (z := 120) (z2 := 111) dX6_planned_108 rfl (by decide) (fun h => ?_) (fun h => ?_)
            · have := (nI_leI (by omega) (by omega)).mp h
              refine go_iload (z := 122) dX6_planned_120 rfl rfl ?_
              exact step _ (by rw [Nat.max_eq_left this])
            · have : mxP (fbL L) q ≤ ((fbL L).2.1 q).length := by
                rcases Nat.le_total ((fbL L).2.1 q).length (mxP (fbL L) q) with c | c
                · exact absurd ((nI_leI (by omega) (by omega)).mpr c) h
                · exact c
              refine go_aload_n (z := 112) dX6_planned_111 rfl rfl ?_
              refine go_iload (z := 114) dX6_planned_112 rfl rfl ?_
              refine go_callV (z := 117) (t := 6) [.int (nI q)] dX6_planned_114 rfl mlX6_partsOfRead vX6_145 ⟨by decide, rfl⟩ hM rfl rfl (by decide) (cat_i cat_nil) (by simp) (by decide) (by first | decide | omega) (by first | decide | omega) (cPart) ?_
              refine ret_elim ?_
              refine go_goto (z := 122) dX6_planned_117 (by decide) ?_
              exact step _ (by rw [Nat.max_eq_right this])
          refine go_iload (z := 41) dX6_planned_39 rfl rfl ?_
          refine go_aload_n (z := 42) dX6_planned_41 rfl rfl ?_
          refine go_getI (z := 45) dX6_planned_42 rfl fX6_122 (by assumption) rfl ?_
          rw [f9]
          refine go_icmp_ge (z := 130) (z2 := 48) dX6_planned_45 rfl (by decide) (fun h => absurd ((nI_leI (by omega) (by omega)).mp h) (by omega)) (fun _ => ?_)
          refine go_iload_n (z := 49) dX6_planned_48 rfl rfl ?_
          refine go_aload_n (z := 50) dX6_planned_49 rfl rfl ?_
          refine go_getR (z := 53) dX6_planned_50 rfl fX6_25 (by assumption) rfl (by assumption) ?_
          refine go_iconst (z := 54) (v := 3) dX6_planned_53 rfl (by decide) ?_
          refine go_iload (z := 56) dX6_planned_54 rfl rfl ?_
          refine go_imul (z := 57) dX6_planned_56 rfl ?_
          rw [m3]
          refine go_iconst (z := 58) (v := 1) dX6_planned_57 rfl (by decide) ?_
          refine go_iadd (z := 59) dX6_planned_58 rfl ?_
          refine go_iald (z := 60) (3 * q + 1) (by assumption) (by decide) (nI_add (3 * q) 1) (by omega) dX6_planned_59 rfl ?_
          rw [y2]
          refine go_iadd (z := 61) dX6_planned_60 rfl ?_
          rw [nI_add, ← e1]
          refine go_istore_n (z := 62) dX6_planned_61 rfl (by decide) ?_
          refine go_aload_n (z := 63) dX6_planned_62 rfl rfl ?_
          refine go_getR (z := 66) dX6_planned_63 rfl fX6_25 (by assumption) rfl (by assumption) ?_
          refine go_iconst (z := 67) (v := 3) dX6_planned_66 rfl (by decide) ?_
          refine go_iload (z := 69) dX6_planned_67 rfl rfl ?_
          refine go_imul (z := 70) dX6_planned_69 rfl ?_
          rw [m3]
          refine go_iconst (z := 71) (v := 2) dX6_planned_70 rfl (by decide) ?_
          refine go_iadd (z := 72) dX6_planned_71 rfl ?_
          refine go_iald (z := 73) (3 * q + 2) (by assumption) (by decide) (nI_add (3 * q) 2) (by omega) dX6_planned_72 rfl ?_
          rw [y3]
          refine go_iconst (z := 74) (v := 1) dX6_planned_73 rfl (by decide) ?_
          refine go_iadd (z := 75) dX6_planned_74 rfl ?_
          rw [nI_1]
          refine go_iload (z := 77) dX6_planned_75 rfl rfl ?_
          refine go_icmp_le (z := 96) (z2 := 80) dX6_planned_77 rfl (by decide) (fun h => ?_) (fun h => ?_)
          · have := (nI_leI (by omega) (by omega)).mp h
            refine go_iload (z := 98) dX6_planned_96 rfl rfl ?_
            exact mid _ (by rw [Nat.max_eq_left this])
          · have : mxd (L.take q) ≤ L[q].2.2 + 1 := by
              rcases Nat.le_total (L[q].2.2 + 1) (mxd (L.take q)) with c | c
              · exact absurd ((nI_leI (by omega) (by omega)).mpr c) h
              · exact c
            refine go_aload_n (z := 81) dX6_planned_80 rfl rfl ?_
            refine go_getR (z := 84) dX6_planned_81 rfl fX6_25 (by assumption) rfl (by assumption) ?_
            refine go_iconst (z := 85) (v := 3) dX6_planned_84 rfl (by decide) ?_
            refine go_iload (z := 87) dX6_planned_85 rfl rfl ?_
            refine go_imul (z := 88) dX6_planned_87 rfl ?_
            rw [m3]
            refine go_iconst (z := 89) (v := 2) dX6_planned_88 rfl (by decide) ?_
            refine go_iadd (z := 90) dX6_planned_89 rfl ?_
            refine go_iald (z := 91) (3 * q + 2) (by assumption) (by decide) (nI_add (3 * q) 2) (by omega) dX6_planned_90 rfl ?_
            rw [y3]
            refine go_iconst (z := 92) (v := 1) dX6_planned_91 rfl (by decide) ?_
            refine go_iadd (z := 93) dX6_planned_92 rfl ?_
            rw [nI_1]
            refine go_goto (z := 98) dX6_planned_93 (by decide) ?_
            exact mid _ (by rw [Nat.max_eq_right this])
      refine go_istore_n (z := 17) dX6_planned_16 rfl (by decide) ?_
      refine go_iload_n (z := 18) dX6_planned_17 rfl rfl ?_
      refine go_bipush (z := 20) (v := (-5)) dX6_planned_18 rfl (by decide) ?_
      refine go_icmp_eq (z := 28) (z2 := 23) dX6_planned_20 rfl (by decide) (fun _ => ?_) (fun h => absurd rfl h)
      refine go_iconst (z := 29) (v := 0) dX6_planned_28 rfl (by decide) ?_
      refine go_istore_n (z := 30) dX6_planned_29 rfl (by decide) ?_
      refine go_iconst (z := 31) (v := 0) dX6_planned_30 rfl (by decide) ?_
      refine go_istore (z := 33) dX6_planned_31 rfl (by decide) ?_
      refine go_iconst (z := 34) (v := 0) dX6_planned_33 rfl (by decide) ?_
      refine go_istore (z := 36) dX6_planned_34 rfl (by decide) ?_
      refine go_iconst (z := 37) (v := 0) dX6_planned_36 rfl (by decide) ?_
      refine go_istore (z := 39) dX6_planned_37 rfl (by decide) ?_
      exact loop L.length 0 (by omega) (by show (0 : Nat) ≤ _; exact Nat.zero_le _) (by show (0 : Nat) ≤ _; exact Nat.zero_le _) (by show (0 : Nat) ≤ _; exact Nat.zero_le _)
  · rw [if_neg (fun q => b2i_no h (fun _ => decide_eq_true q) trivial)]
    refine go_bipush (z := 11) (v := (-2)) dX6_planned_9 rfl (by decide) ?_
    exact go_iret dX6_planned_11 rfl (pq_same hR)
end MPLANW
