/-! readText, partsOfRead, planned -/
section MPLANW
variable {l : Launch} {G : GG} {n : Nat} {i : IP} {r : RP} {M : Nat} {E : EE} {Gd : Nat → Prop} {O : Nat} {A : AP}
theorem RefR.out {i' : IP} (hR : RefR E Gd O A M i) (ho : OutX M i i') : RefR E Gd O A M i' := by
  obtain ⟨h1, ⟨h2, h3, h4⟩, h5, h6, h7, h8, h9⟩ := hR
  exact ⟨by rw [ho.1 _ (by omega) (by omega)]; exact h1, ⟨(ho.2 2 (by decide) (by decide) (by decide)).trans h2, h3, fun j m hm => by rw [ho.1 (M + 2) (by omega) (by omega)]; exact h4 j m hm⟩, (ho.2 4 (by decide) (by decide) (by decide)).trans h5, fun hk => by rw [ho.1 (M + 3) (by omega) (by omega)]; exact h6 hk, (ho.2 7 (by decide) (by decide) (by decide)).trans h7, h8, fun k hk => by rw [ho.1 (M + 5) (by omega) (by omega)]; exact h9 k hk⟩
theorem OutX.m {i' : IP} (ho : OutX M i i') : OutM M i i' := fun a ha => ho.1 a (by omega) (by omega)
theorem c_mReadText (hY : MoY G n M r) (hR : RefR E Gd O A M i) : Go l G mX6_readText 4 0 0 0 (lentry [.ref M] 3) [] n i r (RtQ M n A.2.2.2.2.2 (aRead A) i r) := by
  obtain ⟨⟨hM, hr0, hs⟩, ⟨hr1, hr3, hr5, hr6, hr8, hr12⟩, hA2, hA3, hA4, hA5, hA6, hA7⟩ := id hY
  obtain ⟨-, -, -, -, h7, h8, h9⟩ := id hR
  have ho : OutX M i (ups (ups (ups i M 10 0) M 9 0) M 11 0) := (OutX.pf (Or.inr (Or.inl rfl))).tr ((OutX.pf (Or.inl rfl)).tr (OutX.pf (Or.inr (Or.inr rfl))))
  have hC : RdC M A.2.2.2.2.2 A.2.2.2.2.1 (ups (ups (ups i M 10 0) M 9 0) M 11 0) := RdC.out ⟨h7, h8, h9⟩ ho
  have hS : RdS M 0 0 [] (ups (ups (ups i M 10 0) M 9 0) M 11 0) := ⟨by rw [ups_k (by decide), ups_k (by decide)]; exact ups_s, by rw [ups_k (by decide)]; exact ups_s, ups_s, fun k y hy => by cases hy⟩
  have hG : aRead A = rgo A.2.2.2.2.1 ([], 0, 0) 0 (A.2.2.2.2.2 - 0) := rfl
  refine go_aload_n (z := 1) dX6_readText_0 rfl rfl ?_
  refine go_iconst (z := 2) (v := 0) dX6_readText_1 rfl (by decide) ?_
  refine go_putI (z := 5) dX6_readText_2 rfl fX6_113 (by assumption) rfl (Or.inl rfl) rfl ?_
  refine go_aload_n (z := 6) dX6_readText_5 rfl rfl ?_
  refine go_iconst (z := 7) (v := 0) dX6_readText_6 rfl (by decide) ?_
  refine go_putI (z := 10) dX6_readText_7 rfl fX6_122 (by assumption) rfl (Or.inl rfl) rfl ?_
  refine go_aload_n (z := 11) dX6_readText_10 rfl rfl ?_
  refine go_iconst (z := 12) (v := 0) dX6_readText_11 rfl (by decide) ?_
  refine go_putI (z := 15) dX6_readText_12 rfl fX6_125 (by assumption) rfl (Or.inl rfl) rfl ?_
  refine go_iconst (z := 16) (v := 1) dX6_readText_15 rfl (by decide) ?_
  refine go_istore_n (z := 17) dX6_readText_16 rfl (by decide) ?_
  refine go_aload_n (z := 18) dX6_readText_17 rfl rfl ?_
  refine go_callV (z := 21) (t := 6) [] dX6_readText_18 rfl mlX6_readHead vX6_128 ⟨by decide, rfl⟩ hM rfl rfl (by decide) cat_nil (by simp) (by decide) (by first | decide | omega) (by first | decide | omega) (c_mReadHead hY hC hS (Nat.zero_le _) hG ri_0) ?_
  refine hd_elim (fun i' p' g w k1 k2 k3 k4 k5 k6 k7 => ?_) (fun i' p' k1 k2 k3 k4 => ?_)
  · refine go_if_ne (z := 29) (z2 := 24) dX6_readText_21 rfl (by decide) (fun _ => ?_) (fun h => absurd h (by decide))
    exact c_mTextLoop hY (A.2.2.2.2.2 - p') p' 0 _ 3 i' none (Nat.le_refl _) k4 (Or.inl rfl) (hC.out k1) k3 (ho.tr k1) k5 k6 (fun _ => k7)
  · refine go_if_ne (z := 29) (z2 := 24) dX6_readText_21 rfl (by decide) (fun h => absurd rfl h) (fun _ => ?_)
    refine go_aload_n (z := 25) dX6_readText_24 rfl rfl ?_
    refine go_getI (z := 28) dX6_readText_25 rfl fX6_113 (by assumption) rfl ?_
    rw [k2]
    exact go_iret dX6_readText_28 rfl (rt_fail (ho.tr k1) k3 h8 k4)
/-- a text was read: its fault, or its errands -/
theorem rt_elim {P : Option Value → Nat → IP → RP → Prop} (hp : A.2.2.2.2.2 ≤ 60) (K1 : ∀ p i', aErr A = some p → p ≤ 60 → OutX M i i' → P (some (.int (nI p))) n i' r) (K2 : ∀ i' p d, aErr A = none → OutX M i i' → RdS M p d (aL A) i' → (aL A).length ≤ 15 → VD (deps (aL A)) → (∀ y ∈ aL A, y.1 < 6 ∧ y.2.1 ≤ 20) → aL A ≠ [] → P (some (.int (-5))) n i' r) : ∀ v n' i' r', RtQ M n A.2.2.2.2.2 (aRead A) i r v n' i' r' → P v n' i' r' := by
  rintro v n' i' r' ⟨h1, h2, h3, h4, h5, h6⟩
  rw [h1, h2, h3]
  have e : errOf A.2.2.2.2.2 (aRead A) = aErr A := rfl
  rw [e] at h5 h6 ⊢
  cases he : aErr A with
  | some p => exact K1 p i' he (h5 p he) h4
  | none =>
    obtain ⟨L, d, due, p, g1, g2, g3⟩ := h6 he
    obtain ⟨s, q1, q2, q3, q4⟩ := read_ok he
    have hs : s = (L, d, due) := by rw [g1] at q1; exact (Sum.inr.inj q1).symm
    have hL : aL A = L := by rw [← q2, hs]
    have hdue : due = 3 ∨ due = 4 := by
      have : (if rdOk (L, d, due) = true then none else some A.2.2.2.2.2) = none := by
        have h : errOf A.2.2.2.2.2 (aRead A) = none := he
        rw [g1] at h
        exact h
      by_cases c : rdOk (L, d, due) = true
      · exact (of_decide_eq_true c).2
      · rw [if_neg c] at this; cases this
    rw [← hL] at g2 g3
    refine K2 i' p d he h4 g2 ?_ q3 (fun y hy => ⟨(g3.2.1 y hy).1, (g3.2.1 y hy).2.1⟩) (fun hn => ?_)
    · have h3 := g3.2.2
      rcases h3 with q | q | q | q | q
      · have := q.2.2; dsimp only at this; omega
      · have := q.2.2; dsimp only at this; omega
      · have := q.2.2; dsimp only at this; omega
      · have := q.2.2; dsimp only at this; omega
      · have := q.2.2; dsimp only at this; omega
    · have h3 := g3.2.2
      rw [hn] at h3
      have e0 : mL [] = 0 := rfl
      dsimp only at h3
      rw [e0] at h3
      omega
theorem mD_take {L : List RN} {k : Nat} {y : RN} (h : L[k]? = some y) : dF (deps L) k = y.2.2 := dF_some (by unfold deps; rw [List.getElem?_map, h]; rfl)
theorem c_mParts {p d q : Nat} {L : List RN} (hY : MoY G n M r) (hS : RdS M p d L i) (hL : L.length ≤ 15) (hD : ∀ y ∈ L, y.2.2 < 2 ^ 20) (hq : q < L.length) : Go l G mX6_partsOfRead 0 0 0 0 (lentry [.ref M, .int (nI q)] 5) [] n i r (RetI (nI (prK (dF (deps L)) q (L.length - (q + 1)) (q + 1))) n i r) := by
  obtain ⟨⟨hM, hr0, hs⟩, ⟨hr1, hr3, hr5, hr6, hr8, hr12⟩, hA2, hA3, hA4, hA5, hA6, hA7⟩ := id hY
  obtain ⟨f10, f9, f11, f6⟩ := hS
  have m3 : ∀ k, (3 : Int32) * nI k = nI (3 * k) := fun k => pk_mul 3 k
  have dep : ∀ k, k < L.length → i (M + 6) (3 * k + 2) = nI (dF (deps L) k) ∧ dF (deps L) k < 2 ^ 20 := fun k hk => by
    have hy : L[k]? = some L[k] := List.getElem?_eq_getElem hk
    rw [mD_take hy]
    exact ⟨(f6 k _ hy).2.2, hD _ (List.getElem_mem hk)⟩
  have loop : ∀ f k c, k + f = L.length → c ≤ k → Go l G mX6_partsOfRead 0 0 0 18 [some (.ref M), some (.int (nI q)), some (.int (nI c)), some (.int (nI (dF (deps L) q))), some (.int (nI k))] [] n i r (RetI (nI (c + prK (dF (deps L)) q f k)) n i r) := by
    intro f
    induction f with
    | zero =>
      intro k c hk hc
      refine go_iload (z := 20) dX6_partsOfRead_18 rfl rfl ?_
      refine go_aload_n (z := 21) dX6_partsOfRead_20 rfl rfl ?_
      refine go_getI (z := 24) dX6_partsOfRead_21 rfl fX6_122 (by assumption) rfl ?_
      rw [f9]
      refine go_icmp_ge (z := 73) (z2 := 27) dX6_partsOfRead_24 rfl (by decide) (fun _ => ?_) (fun h => absurd ((nI_leI (by omega) (by omega)).mpr (by omega)) h)
      refine go_iload_n (z := 74) dX6_partsOfRead_73 rfl rfl ?_
      exact go_iret dX6_partsOfRead_74 rfl ret_ok
    | succ f ih =>
      intro k c hk hc
      obtain ⟨dk, dk2⟩ := dep k (by omega)
      obtain ⟨dq, dq2⟩ := dep q hq
      have e : prK (dF (deps L)) q (f + 1) k = if dF (deps L) q < dF (deps L) k then (if dF (deps L) k = dF (deps L) q + 1 then 1 else 0) + prK (dF (deps L)) q f (k + 1) else 0 := rfl
      refine go_iload (z := 20) dX6_partsOfRead_18 rfl rfl ?_
      refine go_aload_n (z := 21) dX6_partsOfRead_20 rfl rfl ?_
      refine go_getI (z := 24) dX6_partsOfRead_21 rfl fX6_122 (by assumption) rfl ?_
      rw [f9]
      refine go_icmp_ge (z := 73) (z2 := 27) dX6_partsOfRead_24 rfl (by decide) (fun h => absurd ((nI_leI (by omega) (by omega)).mp h) (by omega)) (fun _ => ?_)
      refine go_aload_n (z := 28) dX6_partsOfRead_27 rfl rfl ?_
      refine go_getR (z := 31) dX6_partsOfRead_28 rfl fX6_25 (by assumption) rfl (by assumption) ?_
      refine go_iconst (z := 32) (v := 3) dX6_partsOfRead_31 rfl (by decide) ?_
      refine go_iload (z := 34) dX6_partsOfRead_32 rfl rfl ?_
      refine go_imul (z := 35) dX6_partsOfRead_34 rfl ?_
      rw [m3]
      refine go_iconst (z := 36) (v := 2) dX6_partsOfRead_35 rfl (by decide) ?_
      refine go_iadd (z := 37) dX6_partsOfRead_36 rfl ?_
      refine go_iald (z := 38) (3 * k + 2) (by assumption) (by decide) (nI_add (3 * k) 2) (by omega) dX6_partsOfRead_37 rfl ?_
      rw [dk]
      refine go_iload_n (z := 39) dX6_partsOfRead_38 rfl rfl ?_
      refine go_icmp_le (z := 73) (z2 := 42) dX6_partsOfRead_39 rfl (by decide) (fun h => ?_) (fun h => ?_)
      · have := (nI_leI (by omega) (by omega)).mp h
        refine go_iload_n (z := 74) dX6_partsOfRead_73 rfl rfl ?_
        rw [e, if_neg (by omega)]
        exact go_iret dX6_partsOfRead_74 rfl ret_ok
      · have hlt : dF (deps L) q < dF (deps L) k := by
          rcases Nat.lt_or_ge (dF (deps L) q) (dF (deps L) k) with q | q
          · exact q
          · exact absurd ((nI_leI (by omega) (by omega)).mpr q) h
        rw [e, if_pos hlt]
        refine go_iload_n (z := 43) dX6_partsOfRead_42 rfl rfl ?_
        refine go_aload_n (z := 44) dX6_partsOfRead_43 rfl rfl ?_
        refine go_getR (z := 47) dX6_partsOfRead_44 rfl fX6_25 (by assumption) rfl (by assumption) ?_
        refine go_iconst (z := 48) (v := 3) dX6_partsOfRead_47 rfl (by decide) ?_
        refine go_iload (z := 50) dX6_partsOfRead_48 rfl rfl ?_
        refine go_imul (z := 51) dX6_partsOfRead_50 rfl ?_
        rw [m3]
        refine go_iconst (z := 52) (v := 2) dX6_partsOfRead_51 rfl (by decide) ?_
        refine go_iadd (z := 53) dX6_partsOfRead_52 rfl ?_
        refine go_iald (z := 54) (3 * k + 2) (by assumption) (by decide) (nI_add (3 * k) 2) (by omega) dX6_partsOfRead_53 rfl ?_
        rw [dk]
        refine go_iload_n (z := 55) dX6_partsOfRead_54 rfl rfl ?_
        refine go_iconst (z := 56) (v := 1) dX6_partsOfRead_55 rfl (by decide) ?_
        refine go_iadd (z := 57) dX6_partsOfRead_56 rfl ?_
        rw [nI_1]
        refine go_icmp_ne (z := 64) (z2 := 60) dX6_partsOfRead_57 rfl (by decide) (fun hne => ?_) (fun heq => ?_)
        · have hne : ¬ dF (deps L) k = dF (deps L) q + 1 := fun q => hne (by rw [q])
          refine go_iconst (z := 65) (v := 0) dX6_partsOfRead_64 rfl (by decide) ?_
          refine go_iadd (z := 66) dX6_partsOfRead_65 rfl ?_
          rw [show nI c + 0 = nI c from nI_add c 0]
          refine go_istore_n (z := 67) dX6_partsOfRead_66 rfl (by decide) ?_
          refine go_iinc (z := 70) dX6_partsOfRead_67 rfl rfl (nI_1 k) (by decide) ?_
          refine go_goto (z := 18) dX6_partsOfRead_70 (by decide) ?_
          rw [if_neg hne, Nat.zero_add]
          exact ih (k + 1) c (by omega) (by omega)
        · have heq : dF (deps L) k = dF (deps L) q + 1 := (nI_eq (by omega) (by omega)).mp heq
          refine go_iconst (z := 61) (v := 1) dX6_partsOfRead_60 rfl (by decide) ?_
          refine go_goto (z := 65) dX6_partsOfRead_61 (by decide) ?_
          refine go_iadd (z := 66) dX6_partsOfRead_65 rfl ?_
          rw [nI_1]
          refine go_istore_n (z := 67) dX6_partsOfRead_66 rfl (by decide) ?_
          refine go_iinc (z := 70) dX6_partsOfRead_67 rfl rfl (nI_1 k) (by decide) ?_
          refine go_goto (z := 18) dX6_partsOfRead_70 (by decide) ?_
          rw [if_pos heq, ← Nat.add_assoc]
          exact ih (k + 1) (c + 1) (by omega) (by omega)
  refine go_iconst (z := 1) (v := 0) dX6_partsOfRead_0 rfl (by decide) ?_
  refine go_istore_n (z := 2) dX6_partsOfRead_1 rfl (by decide) ?_
  refine go_aload_n (z := 3) dX6_partsOfRead_2 rfl rfl ?_
  refine go_getR (z := 6) dX6_partsOfRead_3 rfl fX6_25 (by assumption) rfl (by assumption) ?_
  refine go_iconst (z := 7) (v := 3) dX6_partsOfRead_6 rfl (by decide) ?_
  refine go_iload_n (z := 8) dX6_partsOfRead_7 rfl rfl ?_
  refine go_imul (z := 9) (dX6_partsOfRead_8) rfl ?_
  rw [m3]
  refine go_iconst (z := 10) (v := 2) dX6_partsOfRead_9 rfl (by decide) ?_
  refine go_iadd (z := 11) dX6_partsOfRead_10 rfl ?_
  refine go_iald (z := 12) (3 * q + 2) (by assumption) (by decide) (nI_add (3 * q) 2) (by omega) dX6_partsOfRead_11 rfl ?_
  rw [(dep q hq).1]
  refine go_istore_n (z := 13) dX6_partsOfRead_12 rfl (by decide) ?_
  refine go_iload_n (z := 14) dX6_partsOfRead_13 rfl rfl ?_
  refine go_iconst (z := 15) (v := 1) dX6_partsOfRead_14 rfl (by decide) ?_
  refine go_iadd (z := 16) dX6_partsOfRead_15 rfl ?_
  rw [nI_1]
  refine go_istore (z := 18) dX6_partsOfRead_16 rfl (by decide) ?_
  have := loop (L.length - (q + 1)) (q + 1) 0 (by omega) (Nat.zero_le _)
  rw [Nat.zero_add] at this
  exact this
theorem swk_take {L : List RN} {k : Nat} {y : RN} (h : L[k]? = some y) : swk (L.take (k + 1)) = swk (L.take k) + y.2.1 := by
  rw [List.take_succ, h]
  unfold swk
  rw [List.map_append, List.sum_append]
  show _ + (y.2.1 + 0) = _
  omega
theorem mxd_take {L : List RN} {k : Nat} {y : RN} (h : L[k]? = some y) : mxd (L.take (k + 1)) = max (mxd (L.take k)) (y.2.2 + 1) := by
  rw [List.take_succ, h]
  exact mxd_snoc _ _
theorem mxP_s (f : FB) (c : Nat) : mxP f (c + 1) = max (mxP f c) (f.2.1 c).length := by
  unfold mxP
  rw [List.range_succ, List.map_append, List.foldl_append]
  rfl
end MPLANW
