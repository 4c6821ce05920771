def mNew (mo : MS) (pw : Int32) : MS := (fun k => if k = 1 then pw else if k = 2 then mo.1 2 else 0, mo.2.1, fun _ _ => 0, fun _ => [], [])
section STATE7
variable {l : Launch} {G : GG} {n : Nat} {i : IP} {r : RP} {S O : Nat} {m mo : MS}
theorem c_isOnR {k c : Nat} (hL : StL G n S) (e5 : r S 5 = some (S + 3)) (h6 : i S 6 = nI c) (hc : c ≤ 141) (hk : k ≤ c) : Go l G mX4_isOnItsWay 0 0 0 0 (lentry [.ref S, .int (nI k)] 2) [] n i r (RetI (if k < c then 1 else 0) n i r) := by
  have hs := hL.s
  have hmm := hL.ms
  refine go_iload_n (z := 1) dX4_isOnItsWay_0 rfl rfl ?_
  refine go_if_lt (z := 25) (z2 := 4) dX4_isOnItsWay_1 rfl (by decide) (fun h => ?_) (fun h => ?_)
  · exact absurd h (Int32.not_lt.mpr (nI_pos' (by omega)))
  · refine go_iload_n (z := 5) dX4_isOnItsWay_4 rfl rfl ?_
    refine go_aload_n (z := 6) dX4_isOnItsWay_5 rfl rfl ?_
    refine go_getI (z := 9) dX4_isOnItsWay_6 rfl fX4_51 (by assumption) rfl ?_
    refine go_icmp_ge (z := 25) (z2 := 12) dX4_isOnItsWay_9 rfl (by decide) (fun h2 => ?_) (fun h2 => ?_)
    · rw [h6] at h2
      rw [if_neg (fun q => absurd h2 (nI_ge q (by omega)))]
      refine go_iconst (z := 26) (v := 0) dX4_isOnItsWay_25 rfl (by decide) ?_
      refine go_zret dX4_isOnItsWay_26 rfl (congrArg Value.int (by decide)) ?_
      exact ret_ok
    · rw [h6] at h2
      have hkc : k < c := Nat.lt_of_not_le (fun q => h2 (nI_le q (by omega)))
      refine go_iload_n (z := 13) dX4_isOnItsWay_12 rfl rfl ?_
      refine go_aload_n (z := 14) dX4_isOnItsWay_13 rfl rfl ?_
      refine go_getR (z := 17) dX4_isOnItsWay_14 rfl fX4_30 (by assumption) rfl (by assumption) ?_
      refine go_alen (z := 18) (by assumption) (by decide) dX4_isOnItsWay_17 rfl ?_
      refine go_icmp_ge (z := 25) (z2 := 21) dX4_isOnItsWay_18 rfl (by decide) (fun h3 => ?_) (fun h3 => ?_)
      · exact absurd h3 (nI_ge (by omega) (by omega))
      · rw [if_pos hkc]
        refine go_iconst (z := 22) (v := 1) dX4_isOnItsWay_21 rfl (by decide) ?_
        refine go_goto (z := 26) dX4_isOnItsWay_22 (by decide) ?_
        refine go_zret dX4_isOnItsWay_26 rfl (congrArg Value.int (by decide)) ?_
        exact ret_ok
theorem c_copyWays (hL : StL G n S) (hLO : StL G n O) (hne : S + 1 ≠ O + 1) (h1 : r S 3 = some (S + 1)) (h2 : r O 3 = some (O + 1)) : Go l G mX4_copyWays 0 0 0 0 (lentry [.ref S, .ref O] 3) [] n i r (fun v n' i' r' => v = none ∧ n' = n ∧ r' = r ∧ (∀ a, a ≠ S + 1 → i' a = i a) ∧ ∀ k, k < 49 → i' (S + 1) k = i (O + 1) k) := by
  have hs := hL.s
  have hw := hL.w
  have ho := hLO.s
  have how := hLO.w
  refine go_iconst (z := 1) (v := 0) dX4_copyWays_0 rfl (by decide) ?_
  refine go_istore_n (z := 2) dX4_copyWays_1 rfl (by decide) ?_
  have loop : ∀ (d c : Nat) (i1 : IP), c + d = 49 → (∀ a, a ≠ S + 1 → i1 a = i a) → (∀ k, k < c → i1 (S + 1) k = i (O + 1) k) → Go l G mX4_copyWays 0 0 0 2 [some (.ref S), some (.ref O), some (.int (nI c))] [] n i1 r (fun v n' i' r' => v = none ∧ n' = n ∧ r' = r ∧ (∀ a, a ≠ S + 1 → i' a = i a) ∧ ∀ k, k < 49 → i' (S + 1) k = i (O + 1) k) := by
    intro d
    induction d with
    | zero =>
      intro c i1 hc g1 g2
      have hc : c = 49 := by omega
      subst hc
      refine go_iload_n (z := 3) dX4_copyWays_2 rfl rfl ?_
      refine go_aload_n (z := 4) dX4_copyWays_3 rfl rfl ?_
      refine go_getR (z := 7) dX4_copyWays_4 rfl fX4_18 (by assumption) rfl (by assumption) ?_
      refine go_alen (z := 8) (by assumption) (by decide) dX4_copyWays_7 rfl ?_
      refine go_icmp_ge (z := 38) (z2 := 11) dX4_copyWays_8 rfl (by decide) (fun _ => ?_) (fun h => absurd (by decide) h)
      exact go_vret dX4_copyWays_38 rfl ⟨rfl, rfl, rfl, g1, g2⟩
    | succ d ih =>
      intro c i1 hc g1 g2
      refine go_iload_n (z := 3) dX4_copyWays_2 rfl rfl ?_
      refine go_aload_n (z := 4) dX4_copyWays_3 rfl rfl ?_
      refine go_getR (z := 7) dX4_copyWays_4 rfl fX4_18 (by assumption) rfl (by assumption) ?_
      refine go_alen (z := 8) (by assumption) (by decide) dX4_copyWays_7 rfl ?_
      refine go_icmp_ge (z := 38) (z2 := 11) dX4_copyWays_8 rfl (by decide) (fun h => absurd h (nI_ge (by omega) (by omega))) (fun _ => ?_)
      refine go_iload_n (z := 12) dX4_copyWays_11 rfl rfl ?_
      refine go_aload_n (z := 13) dX4_copyWays_12 rfl rfl ?_
      refine go_getR (z := 16) dX4_copyWays_13 rfl fX4_18 (by assumption) rfl (by assumption) ?_
      refine go_alen (z := 17) (by assumption) (by decide) dX4_copyWays_16 rfl ?_
      refine go_icmp_ge (z := 38) (z2 := 20) dX4_copyWays_17 rfl (by decide) (fun h => absurd h (nI_ge (by omega) (by omega))) (fun _ => ?_)
      refine go_aload_n (z := 21) dX4_copyWays_20 rfl rfl ?_
      refine go_getR (z := 24) dX4_copyWays_21 rfl fX4_18 (by assumption) rfl (by assumption) ?_
      refine go_iload_n (z := 25) dX4_copyWays_24 rfl rfl ?_
      refine go_aload_n (z := 26) dX4_copyWays_25 rfl rfl ?_
      refine go_getR (z := 29) dX4_copyWays_26 rfl fX4_18 (by assumption) rfl (by assumption) ?_
      refine go_iload_n (z := 30) dX4_copyWays_29 rfl rfl ?_
      refine go_iald (z := 31) c how (by decide) rfl (by omega) dX4_copyWays_30 rfl ?_
      refine go_iast (z := 32) c hw (by decide) rfl (by omega) dX4_copyWays_31 rfl ?_
      refine go_iinc (z := 35) dX4_copyWays_32 rfl rfl (nI_1 c) (by decide) ?_
      refine go_goto (z := 2) dX4_copyWays_35 (by decide) ?_
      refine go_lo (lo' := [some (.ref S), some (.ref O), some (.int (nI (c + 1)))]) rfl (ih (c + 1) _ (by omega) (fun a ha => (ups_row ha).trans (g1 a ha)) (fun k hk => ?_))
      by_cases e : k = c
      · subst e; rw [ups_s, g1 _ (Ne.symm hne)]
      · exact (ups_k e).trans (g2 k (by omega))
  exact go_lo (lo' := [some (.ref S), some (.ref O), some (.int (nI 0))]) rfl (loop 49 0 i (by omega) (fun _ _ => rfl) (fun k hk => absurd hk (Nat.not_lt_zero k)))
/-- a state takes over another's -/
theorem c_State_copyFrom (hL : StL G n S) (hLO : StL G n O) (hap : S + 157 ≤ O ∨ O + 157 ≤ S) (hR : Rep S m i r) (hRO : Rep O mo i r) (hq : ∀ h, h < 6 → ∀ e ∈ mo.2.2.2.1 h, Ok G n e 0) : Go l G mX4_copyFrom 1 0 0 0 (lentry [.ref S, .ref O] 3) [] n i r (Chg n S i r mo) := by
  have hs := hL.s
  have hhs := hL.hs
  have hmm := hL.ms
  have hos := hLO.s
  have hohs := hLO.hs
  have homm := hLO.ms
  obtain ⟨l1, -, -, -, -, mx, hX, -⟩ := hR
  obtain ⟨o1, o2, o3, o4, o5, ox, oX, olen, o6, oM⟩ := hRO
  have eo4 := o1.2.1
  have eo5 := o1.2.2.1
  have fin : ∀ (i' : IP) (r' : RP), Out S i r i' r' → (∀ a, a < S + 16 → (∀ q, q < 6 → a ≠ S + 5 + 2 * q) → r' a = r a) → (∀ k, k < 3 → i' S k = mo.1 k) → (∀ k, k < 49 → i' (S + 1) k = mo.2.1 k) → (∀ q, q < 6 → (∀ f, f < 10 → i' (S + 4 + 2 * q) f = mo.2.2.1 q f) ∧ ∀ c e, (mo.2.2.2.1 q)[c]? = some e → r' (S + 5 + 2 * q) c = some e) → i' S 6 = nI mo.2.2.2.2.length → (∀ j x, mo.2.2.2.2[j]? = some x → (∀ f, f < 5 → i' (mx j) f = x.1 f) ∧ r' (mx j) 5 = x.2) → Go l G mX4_copyFrom 1 0 0 118 [some (.ref S), some (.ref O), none] [] n i' r' (Chg n S i r mo) := by
    intro i' r' h1 h2 h3 h4 h5 h6 h7
    have hO : ∀ k, i' O k = i O k := fun k => by rw [(h1 O (by omega)).1]
    have hSO : S ≠ O := by omega
    have hOS : O ≠ S := by omega
    refine go_aload_n (z := 119) dX4_copyFrom_118 rfl rfl ?_
    refine go_aload_n (z := 120) dX4_copyFrom_119 rfl rfl ?_
    refine go_getI (z := 123) dX4_copyFrom_120 rfl fX4_61 (by assumption) rfl ?_
    refine go_putI (z := 126) dX4_copyFrom_123 rfl fX4_61 (by assumption) rfl (Or.inl rfl) rfl ?_
    refine go_aload_n (z := 127) dX4_copyFrom_126 rfl rfl ?_
    refine go_aload_n (z := 128) dX4_copyFrom_127 rfl rfl ?_
    refine go_getI (z := 131) dX4_copyFrom_128 rfl fX4_64 (by assumption) rfl ?_
    refine go_putI (z := 134) dX4_copyFrom_131 rfl fX4_64 (by assumption) rfl (Or.inl rfl) rfl ?_
    refine go_aload_n (z := 135) dX4_copyFrom_134 rfl rfl ?_
    refine go_aload_n (z := 136) dX4_copyFrom_135 rfl rfl ?_
    refine go_getI (z := 139) dX4_copyFrom_136 rfl fX4_67 (by assumption) rfl ?_
    refine go_putI (z := 142) dX4_copyFrom_139 rfl fX4_67 (by assumption) rfl (Or.inl rfl) rfl ?_
    refine go_aload_n (z := 143) dX4_copyFrom_142 rfl rfl ?_
    refine go_aload_n (z := 144) dX4_copyFrom_143 rfl rfl ?_
    refine go_getI (z := 147) dX4_copyFrom_144 rfl fX4_70 (by assumption) rfl ?_
    refine go_putI (z := 150) dX4_copyFrom_147 rfl fX4_70 (by assumption) rfl (Or.inl rfl) rfl ?_
    refine go_aload_n (z := 151) dX4_copyFrom_150 rfl rfl ?_
    refine go_aload_n (z := 152) dX4_copyFrom_151 rfl rfl ?_
    refine go_getI (z := 155) dX4_copyFrom_152 rfl fX4_73 (by assumption) rfl ?_
    refine go_putI (z := 158) dX4_copyFrom_155 rfl fX4_73 (by assumption) rfl (Or.inl rfl) rfl ?_
    refine go_aload_n (z := 159) dX4_copyFrom_158 rfl rfl ?_
    refine go_aload_n (z := 160) dX4_copyFrom_159 rfl rfl ?_
    refine go_getI (z := 163) dX4_copyFrom_160 rfl fX4_76 (by assumption) rfl ?_
    refine go_putI (z := 166) dX4_copyFrom_163 rfl fX4_76 (by assumption) rfl (Or.inl rfl) rfl ?_
    refine go_aload_n (z := 167) dX4_copyFrom_166 rfl rfl ?_
    refine go_aload_n (z := 168) dX4_copyFrom_167 rfl rfl ?_
    refine go_getI (z := 171) dX4_copyFrom_168 rfl fX4_79 (by assumption) rfl ?_
    refine go_nar 13 hos (by decide) rfl (fun hz => ?_)
    refine go_putI (z := 174) dX4_copyFrom_171 rfl fX4_79 (by assumption) rfl (Or.inl rfl) hz ?_
    simp only [ups_a hOS, hO, o2 7 (by omega), o2 8 (by omega), o2 9 (by omega), o2 10 (by omega), o2 11 (by omega), o2 12 (by omega), o2 13 (by omega)]
    refine go_vret dX4_copyFrom_174 rfl ⟨rfl, rfl, ⟨⟨?_, ?_, ?_, fun q hq' => ⟨?_, ?_⟩⟩, fun k hk => ?_, fun k hk => ?_, fun q hq' f hf => ?_, fun q hq' => ⟨(o5 q hq').1, (o5 q hq').2.1, (h5 q hq').2⟩, mx, ⟨fun j hj => ⟨?_, (hX.1 j hj).2⟩, hX.2⟩, olen, ?_, fun j x hx => ?_⟩, ?_⟩
    · rw [h2 S (by omega) (fun q hq' => by omega)]; exact l1.1
    · rw [h2 S (by omega) (fun q hq' => by omega)]; exact l1.2.1
    · rw [h2 S (by omega) (fun q hq' => by omega)]; exact l1.2.2.1
    · rw [h2 (S + 2) (by omega) (fun q hq' => by omega)]; exact (l1.2.2.2 q hq').1
    · rw [h2 _ (by omega) (fun p hp => by omega)]; exact (l1.2.2.2 q hq').2
    · rcases (show k < 3 ∨ k = 7 ∨ k = 8 ∨ k = 9 ∨ k = 10 ∨ k = 11 ∨ k = 12 ∨ k = 13 by omega) with q | rfl | rfl | rfl | rfl | rfl | rfl | rfl
      · simp only [ups]
        rw [if_neg (by omega), if_neg (by omega), if_neg (by omega), if_neg (by omega), if_neg (by omega), if_neg (by omega), if_neg (by omega)]
        exact h3 k q
      all_goals simp [ups]
    · simp only [ups_a (show S + 1 ≠ S by omega)]; exact h4 k hk
    · simp only [ups_a (show S + 4 + 2 * q ≠ S by omega)]; exact (h5 q hq').1 f hf
    · rw [h2 (S + 3) (by omega) (fun q hq' => by omega)]; exact (hX.1 j hj).1
    · simp only [ups_k (show (6:Nat) ≠ 7 by decide), ups_k (show (6:Nat) ≠ 8 by decide), ups_k (show (6:Nat) ≠ 9 by decide), ups_k (show (6:Nat) ≠ 10 by decide), ups_k (show (6:Nat) ≠ 11 by decide), ups_k (show (6:Nat) ≠ 12 by decide), ups_k (show (6:Nat) ≠ 13 by decide)]
      exact h6
    · have hj : j < 141 := by
        have := (List.getElem?_eq_some_iff.mp hx).1
        omega
      have hne : mx j ≠ S := by have := (hX.1 j hj).2; omega
      simp only [ups_a hne]
      exact h7 j x hx
    · intro a ha
      have hne : a ≠ S := by omega
      refine ⟨?_, (h1 a ha).2⟩
      simp only [ups_row hne]
      exact (h1 a ha).1
  have mess : ∀ (d c : Nat) (i' : IP) (r' : RP), c + d = mo.2.2.2.2.length → Out S i r i' r' → (∀ a, a < S + 16 → (∀ q, q < 6 → a ≠ S + 5 + 2 * q) → r' a = r a) → (∀ k, k < 3 → i' S k = mo.1 k) → (∀ k, k < 49 → i' (S + 1) k = mo.2.1 k) → (∀ q, q < 6 → (∀ f, f < 10 → i' (S + 4 + 2 * q) f = mo.2.2.1 q f) ∧ ∀ c e, (mo.2.2.2.1 q)[c]? = some e → r' (S + 5 + 2 * q) c = some e) → i' S 6 = nI mo.2.2.2.2.length → (∀ j x, j < c → mo.2.2.2.2[j]? = some x → (∀ f, f < 5 → i' (mx j) f = x.1 f) ∧ r' (mx j) 5 = x.2) → Go l G mX4_copyFrom 1 0 0 80 [some (.ref S), some (.ref O), some (.int (nI c))] [] n i' r' (Chg n S i r mo) := by
    intro d
    induction d with
    | zero =>
      intro c i' r' hc h1 h2 h3 h4 h5 h6 h7
      have e5 : r' S 5 = some (S + 3) := by rw [h2 S (by omega) (fun q hq' => by omega)]; exact l1.2.2.1
      refine go_aload_n (z := 81) dX4_copyFrom_80 rfl rfl ?_
      refine go_iload_n (z := 82) dX4_copyFrom_81 rfl rfl ?_
      refine go_callV (z := 85) (t := 4) [.int (nI c)] dX4_copyFrom_82 rfl mlX4_isOnItsWay vX4_54 ⟨by decide, rfl⟩ hs rfl rfl (by decide) (cat_i cat_nil) (by simp) (by decide) (by first | decide | omega) (by first | decide | omega) (c_isOnR (k := c) hL e5 h6 olen (by omega)) ?_
      refine ret_elim ?_
      rw [if_neg (by omega)]
      refine go_if_eq (z := 118) (z2 := 88) dX4_copyFrom_85 rfl (by decide) (fun _ => ?_) (fun h => ?_)
      · exact go_forget 2 (fin i' r' h1 h2 h3 h4 h5 h6 (fun j x hx => h7 j x (by have := (List.getElem?_eq_some_iff.mp hx).1; omega) hx))
      · exact absurd rfl h
    | succ d ih =>
      intro c i' r' hc h1 h2 h3 h4 h5 h6 h7
      obtain ⟨x, hx⟩ : ∃ x, mo.2.2.2.2[c]? = some x := ⟨mo.2.2.2.2[c], List.getElem?_eq_getElem (by omega)⟩
      have hxc := hX.1 c (by omega)
      have hoc := oX.1 c (by omega)
      have e5 : r' S 5 = some (S + 3) := by rw [h2 S (by omega) (fun q hq' => by omega)]; exact l1.2.2.1
      have e5o : r' O 5 = some (O + 3) := by rw [(h1 O (by omega)).2]; exact eo5
      have er : r' (S + 3) c = some (mx c) := by rw [h2 (S + 3) (by omega) (fun q hq' => by omega)]; exact hxc.1
      have ero : r' (O + 3) c = some (ox c) := by rw [(h1 (O + 3) (by omega)).2]; exact hoc.1
      have hMs := hL.me hxc.2.1 hxc.2.2
      have hMo := hLO.me hoc.2.1 hoc.2.2
      refine go_aload_n (z := 81) dX4_copyFrom_80 rfl rfl ?_
      refine go_iload_n (z := 82) dX4_copyFrom_81 rfl rfl ?_
      refine go_callV (z := 85) (t := 4) [.int (nI c)] dX4_copyFrom_82 rfl mlX4_isOnItsWay vX4_54 ⟨by decide, rfl⟩ hs rfl rfl (by decide) (cat_i cat_nil) (by simp) (by decide) (by first | decide | omega) (by first | decide | omega) (c_isOnR (k := c) hL e5 h6 olen (by omega)) ?_
      refine ret_elim ?_
      rw [if_pos (by omega)]
      refine go_if_eq (z := 118) (z2 := 88) dX4_copyFrom_85 rfl (by decide) (fun h => absurd h (by decide)) (fun _ => ?_)
      refine go_iload_n (z := 89) dX4_copyFrom_88 rfl rfl ?_
      refine go_aload_n (z := 90) dX4_copyFrom_89 rfl rfl ?_
      refine go_getR (z := 93) dX4_copyFrom_90 rfl fX4_30 (by assumption) rfl e5o ?_
      refine go_alen (z := 94) (by assumption) (by decide) dX4_copyFrom_93 rfl ?_
      refine go_icmp_ge (z := 118) (z2 := 97) dX4_copyFrom_94 rfl (by decide) (fun h => absurd h (nI_ge (by omega) (by omega))) (fun _ => ?_)
      refine go_aload_n (z := 98) dX4_copyFrom_97 rfl rfl ?_
      refine go_getR (z := 101) dX4_copyFrom_98 rfl fX4_30 (by assumption) rfl (by assumption) ?_
      refine go_iload_n (z := 102) dX4_copyFrom_101 rfl rfl ?_
      refine go_aaldR (z := 103) c (by assumption) ⟨by decide, by decide⟩ (by decide) rfl (by omega) er dX4_copyFrom_102 rfl ?_
      refine go_aload_n (z := 104) dX4_copyFrom_103 rfl rfl ?_
      refine go_getR (z := 107) dX4_copyFrom_104 rfl fX4_30 (by assumption) rfl e5o ?_
      refine go_iload_n (z := 108) dX4_copyFrom_107 rfl rfl ?_
      refine go_aaldR (z := 109) c homm ⟨by decide, by decide⟩ (by decide) rfl (by omega) ero dX4_copyFrom_108 rfl ?_
      refine go_callV (z := 112) (t := 2) [.ref (ox c)] dX4_copyFrom_109 rfl mlX2_copyFrom vX4_58 ⟨by decide, rfl⟩ hMs rfl rfl (by decide) (cat_r cat_nil) (by simp) (by decide) (by first | decide | omega) (by first | decide | omega) (c_Message_copyFrom hMs hMo (by omega)) ?_
      intro v n2 i2 r2 hp
      obtain ⟨p1, p2, p3, p4, p5⟩ := hp
      subst v; subst n2
      have hMx := oM c x hx
      have hoi : ∀ f, i' (ox c) f = i (ox c) f := fun f => by rw [(h1 (ox c) (by omega)).1]
      have hor : ∀ f, r' (ox c) f = r (ox c) f := fun f => by rw [(h1 (ox c) (by omega)).2]
      refine go_iinc (z := 115) dX4_copyFrom_112 rfl rfl (nI_1 c) (by decide) ?_
      refine go_goto (z := 80) dX4_copyFrom_115 (by decide) ?_
      refine go_lo (lo' := [some (.ref S), some (.ref O), some (.int (nI (c + 1)))]) rfl (ih (c + 1) i2 r2 (by omega) (fun a ha => ⟨(p3 a (by omega)).1.trans (h1 a ha).1, (p3 a (by omega)).2.trans (h1 a ha).2⟩) (fun a ha hq' => (p3 a (by omega)).2.trans (h2 a ha hq')) (fun k hk => by rw [(p3 S (by omega)).1]; exact h3 k hk) (fun k hk => by rw [(p3 (S + 1) (by omega)).1]; exact h4 k hk) (fun q hq' => ⟨fun f hf => by rw [(p3 _ (by omega)).1]; exact (h5 q hq').1 f hf, fun c e he => by rw [(p3 _ (by omega)).2]; exact (h5 q hq').2 c e he⟩) (by rw [(p3 S (by omega)).1]; exact h6) (fun j y hj hy => ?_))
      by_cases e : j = c
      · subst e
        rw [hx] at hy
        cases hy
        exact ⟨fun f hf => by rw [p4 f hf, hoi f]; exact hMx.1 f hf, by rw [p5, hor 5]; exact hMx.2⟩
      · have hne : mx j ≠ mx c := fun q => e (hX.2 j c (by omega) (by omega) q)
        rw [(p3 _ hne).1, (p3 _ hne).2]
        exact h7 j y (by omega) hy
  have hous : ∀ (d h : Nat) (i' : IP) (r' : RP), h + d = 6 → Out S i r i' r' → (∀ a, a < S + 16 → (∀ q, q < 6 → a ≠ S + 5 + 2 * q) → r' a = r a) → (∀ a, S + 16 ≤ a → r' a = r a) → (∀ k, k < 3 → i' S k = mo.1 k) → (∀ k, k < 49 → i' (S + 1) k = mo.2.1 k) → (∀ q, q < h → (∀ f, f < 10 → i' (S + 4 + 2 * q) f = mo.2.2.1 q f) ∧ ∀ c e, (mo.2.2.2.1 q)[c]? = some e → r' (S + 5 + 2 * q) c = some e) → Go l G mX4_copyFrom 1 0 0 31 [some (.ref S), some (.ref O), some (.int (nI h))] [] n i' r' (Chg n S i r mo) := by
    intro d
    induction d with
    | zero =>
      intro h i' r' hh h1 h2 h2' h3 h4 h5
      have hh : h = 6 := by omega
      subst hh
      have e4 : r' S 4 = some (S + 2) := by rw [h2 S (by omega) (fun q hq' => by omega)]; exact l1.2.1
      refine go_iload_n (z := 32) dX4_copyFrom_31 rfl rfl ?_
      refine go_aload_n (z := 33) dX4_copyFrom_32 rfl rfl ?_
      refine go_getR (z := 36) dX4_copyFrom_33 rfl fX4_24 (by assumption) rfl (by assumption) ?_
      refine go_alen (z := 37) (by assumption) (by decide) dX4_copyFrom_36 rfl ?_
      refine go_icmp_ge (z := 70) (z2 := 40) dX4_copyFrom_37 rfl (by decide) (fun _ => ?_) (fun h => absurd (by decide) h)
      refine go_aload_n (z := 71) dX4_copyFrom_70 rfl rfl ?_
      refine go_aload_n (z := 72) dX4_copyFrom_71 rfl rfl ?_
      refine go_getI (z := 75) dX4_copyFrom_72 rfl fX4_51 (by assumption) rfl ?_
      refine go_putI (z := 78) dX4_copyFrom_75 rfl fX4_51 (by assumption) rfl (Or.inl rfl) rfl ?_
      refine go_iconst (z := 79) (v := 0) dX4_copyFrom_78 rfl (by decide) ?_
      refine go_istore_n (z := 80) dX4_copyFrom_79 rfl (by decide) ?_
      rw [show i' O 6 = i O 6 by rw [(h1 O (by omega)).1], o6]
      refine go_lo (lo' := [some (.ref S), some (.ref O), some (.int (nI 0))]) rfl (mess mo.2.2.2.2.length 0 _ r' (by omega) (fun a ha => ⟨(ups_row (by omega)).trans (h1 a ha).1, (h1 a ha).2⟩) h2 (fun k hk => (ups_k (by omega)).trans (h3 k hk)) (fun k hk => (ups_a (by omega)).trans (h4 k hk)) (fun q hq' => ⟨fun f hf => (ups_a (by omega)).trans ((h5 q hq').1 f hf), (h5 q hq').2⟩) ups_s (fun j x hj => absurd hj (Nat.not_lt_zero j)))
    | succ d ih =>
      intro h i' r' hh h1 h2 h2' h3 h4 h5
      have hh6 : h < 6 := by omega
      have e4 : r' S 4 = some (S + 2) := by rw [h2 S (by omega) (fun q hq' => by omega)]; exact l1.2.1
      have e4o : r' O 4 = some (O + 2) := by rw [(h1 O (by omega)).2]; exact eo4
      have er : r' (S + 2) h = some (S + 4 + 2 * h) := by rw [h2 (S + 2) (by omega) (fun q hq' => by omega)]; exact (l1.2.2.2 h hh6).1
      have ero : r' (O + 2) h = some (O + 4 + 2 * h) := by rw [(h1 (O + 2) (by omega)).2]; exact (o1.2.2.2 h hh6).1
      have el : r' (S + 4 + 2 * h) 10 = some (S + 5 + 2 * h) := by rw [h2 _ (by omega) (fun q hq' => by omega)]; exact (l1.2.2.2 h hh6).2
      have elo : r' (O + 4 + 2 * h) 10 = some (O + 5 + 2 * h) := by rw [(h1 _ (by omega)).2]; exact (o1.2.2.2 h hh6).2
      have hoi : ∀ f, f < 10 → i' (O + 4 + 2 * h) f = mo.2.2.1 h f := fun f hf => by rw [(h1 _ (by omega)).1]; exact o4 h hh6 f hf
      have hol : ∀ c e, (mo.2.2.2.1 h)[c]? = some e → r' (O + 5 + 2 * h) c = some e := fun c e he => by rw [(h1 _ (by omega)).2]; exact (o5 h hh6).2.2 c e he
      have hho := hL.ho hh6
      have hoho := hLO.ho hh6
      refine go_iload_n (z := 32) dX4_copyFrom_31 rfl rfl ?_
      refine go_aload_n (z := 33) dX4_copyFrom_32 rfl rfl ?_
      refine go_getR (z := 36) dX4_copyFrom_33 rfl fX4_24 (by assumption) rfl (by assumption) ?_
      refine go_alen (z := 37) (by assumption) (by decide) dX4_copyFrom_36 rfl ?_
      refine go_icmp_ge (z := 70) (z2 := 40) dX4_copyFrom_37 rfl (by decide) (fun q => absurd q (nI_ge hh6 (by omega))) (fun _ => ?_)
      refine go_iload_n (z := 41) dX4_copyFrom_40 rfl rfl ?_
      refine go_aload_n (z := 42) dX4_copyFrom_41 rfl rfl ?_
      refine go_getR (z := 45) dX4_copyFrom_42 rfl fX4_24 (by assumption) rfl e4o ?_
      refine go_alen (z := 46) (by assumption) (by decide) dX4_copyFrom_45 rfl ?_
      refine go_icmp_ge (z := 70) (z2 := 49) dX4_copyFrom_46 rfl (by decide) (fun q => absurd q (nI_ge hh6 (by omega))) (fun _ => ?_)
      refine go_aload_n (z := 50) dX4_copyFrom_49 rfl rfl ?_
      refine go_getR (z := 53) dX4_copyFrom_50 rfl fX4_24 (by assumption) rfl (by assumption) ?_
      refine go_iload_n (z := 54) dX4_copyFrom_53 rfl rfl ?_
      refine go_aaldR (z := 55) h (by assumption) ⟨by decide, by decide⟩ (by decide) rfl (by omega) er dX4_copyFrom_54 rfl ?_
      refine go_aload_n (z := 56) dX4_copyFrom_55 rfl rfl ?_
      refine go_getR (z := 59) dX4_copyFrom_56 rfl fX4_24 (by assumption) rfl e4o ?_
      refine go_iload_n (z := 60) dX4_copyFrom_59 rfl rfl ?_
      refine go_aaldR (z := 61) h hohs ⟨by decide, by decide⟩ (by decide) rfl (by omega) ero dX4_copyFrom_60 rfl ?_
      refine go_callV (z := 64) (t := 1) [.ref (O + 4 + 2 * h)] dX4_copyFrom_61 rfl mlX1_copyFrom vX4_47 ⟨by decide, rfl⟩ hho rfl rfl (by decide) (cat_r cat_nil) (by simp) (by decide) (by first | decide | omega) (by first | decide | omega) (c_House_copyFrom hho hoho (hL.li hh6) (hLO.li hh6) el elo (by omega) (by omega) ((hoi 3 (by omega)).trans (o5 h hh6).1) (o5 h hh6).2.1 (fun k hk => ⟨_, hol k _ (List.getElem?_eq_getElem hk), hq h hh6 _ (List.getElem_mem _)⟩)) ?_
      intro v n2 i2 r2 hp
      obtain ⟨p1, p2, p3, p4, p5, p6⟩ := hp
      subst v; subst n2
      refine go_iinc (z := 67) dX4_copyFrom_64 rfl rfl (nI_1 h) (by decide) ?_
      refine go_goto (z := 31) dX4_copyFrom_67 (by decide) ?_
      refine go_lo (lo' := [some (.ref S), some (.ref O), some (.int (nI (h + 1)))]) rfl (ih (h + 1) i2 r2 (by omega) (fun a ha => ⟨(p3 a (by omega)).trans (h1 a ha).1, (p4 a (by omega)).trans (h1 a ha).2⟩) (fun a ha hq' => (p4 a (by have := hq' h hh6; omega)).trans (h2 a ha hq')) (fun a ha => (p4 a (by omega)).trans (h2' a ha)) (fun k hk => by rw [p3 S (by omega)]; exact h3 k hk) (fun k hk => by rw [p3 (S + 1) (by omega)]; exact h4 k hk) (fun q hq' => ?_))
      by_cases e : q = h
      · subst e
        exact ⟨fun f hf => (p5 f hf).trans (hoi f hf), fun c e he => (p6 c (List.getElem?_eq_some_iff.mp he).1).trans (hol c e he)⟩
      · exact ⟨fun f hf => by rw [p3 _ (by omega)]; exact (h5 q (by omega)).1 f hf, fun c e' he => by rw [p4 _ (by omega)]; exact (h5 q (by omega)).2 c e' he⟩
  refine go_aload_n (z := 1) dX4_copyFrom_0 rfl rfl ?_
  refine go_aload_n (z := 2) dX4_copyFrom_1 rfl rfl ?_
  refine go_getI (z := 5) dX4_copyFrom_2 rfl fX4_40 (by assumption) rfl ?_
  refine go_putI (z := 8) dX4_copyFrom_5 rfl fX4_40 (by assumption) rfl (Or.inl rfl) rfl ?_
  refine go_aload_n (z := 9) dX4_copyFrom_8 rfl rfl ?_
  refine go_aload_n (z := 10) dX4_copyFrom_9 rfl rfl ?_
  refine go_getI (z := 13) dX4_copyFrom_10 rfl fX4_9 (by assumption) rfl ?_
  refine go_putI (z := 16) dX4_copyFrom_13 rfl fX4_9 (by assumption) rfl (Or.inl rfl) rfl ?_
  refine go_aload_n (z := 17) dX4_copyFrom_16 rfl rfl ?_
  refine go_aload_n (z := 18) dX4_copyFrom_17 rfl rfl ?_
  refine go_getI (z := 21) dX4_copyFrom_18 rfl fX4_15 (by assumption) rfl ?_
  refine go_putI (z := 24) dX4_copyFrom_21 rfl fX4_15 (by assumption) rfl (Or.inl rfl) rfl ?_
  refine go_aload_n (z := 25) dX4_copyFrom_24 rfl rfl ?_
  refine go_aload_n (z := 26) dX4_copyFrom_25 rfl rfl ?_
  refine go_callV (z := 29) (t := 4) [.ref O] dX4_copyFrom_26 rfl mlX4_copyWays vX4_43 ⟨by decide, rfl⟩ (by assumption) rfl rfl (by decide) (cat_r cat_nil) (by simp) (by decide) (by first | decide | omega) (by first | decide | omega) (c_copyWays hL hLO (by omega) l1.1 o1.1) ?_
  intro v n2 i2 r2 hp
  obtain ⟨p1, p2, p3, p4, p5⟩ := hp
  subst v; subst n2; subst r2
  have hSO : S ≠ O := by omega
  have hOS : O ≠ S := by omega
  refine go_iconst (z := 30) (v := 0) dX4_copyFrom_29 rfl (by decide) ?_
  refine go_istore_n (z := 31) dX4_copyFrom_30 rfl (by decide) ?_
  refine go_lo (lo' := [some (.ref S), some (.ref O), some (.int (nI 0))]) rfl (hous 6 0 i2 r (by omega) (fun a ha => ⟨?_, rfl⟩) (fun _ _ _ => rfl) (fun _ _ => rfl) (fun k hk => ?_) (fun k hk => ?_) (fun q hq' => absurd hq' (Nat.not_lt_zero q)))
  · rw [p4 a (by omega)]
    simp only [ups_row (show a ≠ S by omega)]
  · rw [p4 S (by omega)]
    simp only [ups_a hOS, o2 0 (by omega), o2 1 (by omega), o2 2 (by omega)]
    rcases (show k = 0 ∨ k = 1 ∨ k = 2 by omega) with rfl | rfl | rfl <;> simp [ups]
  · rw [p5 k hk]
    simp only [ups_a (show O + 1 ≠ S by omega)]
    exact o3 k hk
theorem c_startAnew {pw : Int32} (hL : StL G n S) (hLO : StL G n O) (hap : S + 157 ≤ O ∨ O + 157 ≤ S) (hR : Rep S m i r) (hRO : Rep O mo i r) : Go l G mX4_startAnew 1 0 0 0 (lentry [.ref S, .ref O, .int pw] 7) [] n i r (Chg n S i r (mNew mo pw)) := by
  have hs := hL.s
  have hhs := hL.hs
  have hos := hLO.s
  obtain ⟨l1, -, -, -, -, mx, hX, -⟩ := hR
  have o1 := hRO.1
  have o2 := hRO.2.1
  have o3 := hRO.2.2.1
  have hSO : S ≠ O := by omega
  have hOS : O ≠ S := by omega
  have e4 := l1.2.1
  have hous : ∀ (d h : Nat) (i' : IP) (lo6 : Option Value), h + d = 6 → (∀ a, a < S ∨ S + 157 ≤ a → i' a = i a) → i' S 0 = 0 ∧ i' S 1 = pw ∧ i' S 2 = mo.1 2 → (∀ k, k < 49 → i' (S + 1) k = mo.2.1 k) → (∀ q, q < h → ∀ f, f < 10 → i' (S + 4 + 2 * q) f = 0) → Go l G mX4_startAnew 1 0 0 35 [some (.ref S), some (.ref O), some (.int pw), some (.ref (S + 2)), some (.int (nI 6)), some (.int (nI h)), lo6] [] n i' r (Chg n S i r (mNew mo pw)) := by
    intro d
    induction d with
    | zero =>
      intro h i' lo6 hh h1 h3 h4 h5
      have hh : h = 6 := by omega
      subst hh
      refine go_iload (z := 37) dX4_startAnew_35 rfl rfl ?_
      refine go_iload (z := 39) dX4_startAnew_37 rfl rfl ?_
      refine go_icmp_ge (z := 59) (z2 := 42) dX4_startAnew_39 rfl (by decide) (fun _ => ?_) (fun h => absurd (by decide) h)
      refine go_aload_n (z := 60) dX4_startAnew_59 rfl rfl ?_
      refine go_iconst (z := 61) (v := 0) dX4_startAnew_60 rfl (by decide) ?_
      refine go_putI (z := 64) dX4_startAnew_61 rfl fX4_51 (by assumption) rfl (Or.inl rfl) rfl ?_
      refine go_aload_n (z := 65) dX4_startAnew_64 rfl rfl ?_
      refine go_iconst (z := 66) (v := 0) dX4_startAnew_65 rfl (by decide) ?_
      refine go_putI (z := 69) dX4_startAnew_66 rfl fX4_61 (by assumption) rfl (Or.inl rfl) rfl ?_
      refine go_aload_n (z := 70) dX4_startAnew_69 rfl rfl ?_
      refine go_iconst (z := 71) (v := 0) dX4_startAnew_70 rfl (by decide) ?_
      refine go_putI (z := 74) dX4_startAnew_71 rfl fX4_64 (by assumption) rfl (Or.inl rfl) rfl ?_
      refine go_aload_n (z := 75) dX4_startAnew_74 rfl rfl ?_
      refine go_iconst (z := 76) (v := 0) dX4_startAnew_75 rfl (by decide) ?_
      refine go_putI (z := 79) dX4_startAnew_76 rfl fX4_67 (by assumption) rfl (Or.inl rfl) rfl ?_
      refine go_aload_n (z := 80) dX4_startAnew_79 rfl rfl ?_
      refine go_iconst (z := 81) (v := 0) dX4_startAnew_80 rfl (by decide) ?_
      refine go_putI (z := 84) dX4_startAnew_81 rfl fX4_70 (by assumption) rfl (Or.inl rfl) rfl ?_
      refine go_aload_n (z := 85) dX4_startAnew_84 rfl rfl ?_
      refine go_iconst (z := 86) (v := 0) dX4_startAnew_85 rfl (by decide) ?_
      refine go_putI (z := 89) dX4_startAnew_86 rfl fX4_73 (by assumption) rfl (Or.inl rfl) rfl ?_
      refine go_aload_n (z := 90) dX4_startAnew_89 rfl rfl ?_
      refine go_iconst (z := 91) (v := 0) dX4_startAnew_90 rfl (by decide) ?_
      refine go_putI (z := 94) dX4_startAnew_91 rfl fX4_76 (by assumption) rfl (Or.inl rfl) rfl ?_
      refine go_aload_n (z := 95) dX4_startAnew_94 rfl rfl ?_
      refine go_iconst (z := 96) (v := 0) dX4_startAnew_95 rfl (by decide) ?_
      refine go_putI (z := 99) dX4_startAnew_96 rfl fX4_79 (by assumption) rfl (Or.inl rfl) (congrArg Value.int (by decide)) ?_
      refine go_vret dX4_startAnew_99 rfl ⟨rfl, rfl, ⟨l1, fun k hk => ?_, fun k hk => ?_, fun q hq' f hf => ?_, fun q hq' => ⟨rfl, by show (0:Nat) ≤ 80; omega, fun c e he => by simp [mNew] at he⟩, mx, hX, by show (0:Nat) ≤ 141; omega, ?_, fun j x hx => by simp [mNew] at hx⟩, fun a ha => ⟨?_, rfl⟩⟩
      · rcases (show k = 0 ∨ k = 1 ∨ k = 2 ∨ k = 7 ∨ k = 8 ∨ k = 9 ∨ k = 10 ∨ k = 11 ∨ k = 12 ∨ k = 13 by omega) with rfl | rfl | rfl | rfl | rfl | rfl | rfl | rfl | rfl | rfl <;> simp [ups, mNew, h3]
      · simp only [ups_a (show S + 1 ≠ S by omega)]; exact h4 k hk
      · simp only [ups_a (show S + 4 + 2 * q ≠ S by omega)]; exact h5 q hq' f hf
      · simp [ups, mNew]; rfl
      · simp only [ups_row (show a ≠ S by omega)]; exact h1 a ha
    | succ d ih =>
      intro h i' lo6 hh h1 h3 h4 h5
      have hh6 : h < 6 := by omega
      have er := (l1.2.2.2 h hh6).1
      have hho := hL.ho hh6
      refine go_iload (z := 37) dX4_startAnew_35 rfl rfl ?_
      refine go_iload (z := 39) dX4_startAnew_37 rfl rfl ?_
      refine go_icmp_ge (z := 59) (z2 := 42) dX4_startAnew_39 rfl (by decide) (fun q => absurd q (nI_ge hh6 (by omega))) (fun _ => ?_)
      refine go_aload_n (z := 43) dX4_startAnew_42 rfl rfl ?_
      refine go_iload (z := 45) dX4_startAnew_43 rfl rfl ?_
      refine go_aaldR (z := 46) _ (by assumption) ⟨by decide, by decide⟩ (by decide) rfl (by omega) (by assumption) dX4_startAnew_45 rfl ?_
      refine go_astore (z := 48) dX4_startAnew_46 rfl (by decide) ?_
      refine go_aload (z := 50) dX4_startAnew_48 rfl rfl ?_
      refine go_callV (z := 53) (t := 1) [] dX4_startAnew_50 rfl mlX1_makeNew vX4_83 ⟨by decide, rfl⟩ (by assumption) rfl rfl (by decide) cat_nil (by simp) (by decide) (by first | decide | omega) (by first | decide | omega) (c_House_makeNew hho) ?_
      intro v n2 i2 r2 hp
      obtain ⟨p1, p2, p3, p4, p5⟩ := hp
      subst v; subst n2; subst r2
      refine go_iinc (z := 56) dX4_startAnew_53 rfl rfl (nI_1 h) (by decide) ?_
      refine go_goto (z := 35) dX4_startAnew_56 (by decide) ?_
      refine go_lo (lo' := [some (.ref S), some (.ref O), some (.int pw), some (.ref (S + 2)), some (.int (nI 6)), some (.int (nI (h + 1))), some (.ref (S + 4 + 2 * h))]) rfl (ih (h + 1) i2 _ (by omega) (fun a ha => (p4 a (by omega)).trans (h1 a ha)) (by rw [p4 S (by omega)]; exact h3) (fun k hk => by rw [p4 _ (by omega)]; exact h4 k hk) (fun q hq' f hf => ?_))
      by_cases e : q = h
      · subst e; exact p5 f hf
      · rw [p4 _ (by omega)]; exact h5 q (by omega) f hf
  refine go_aload_n (z := 1) dX4_startAnew_0 rfl rfl ?_
  refine go_iconst (z := 2) (v := 0) dX4_startAnew_1 rfl (by decide) ?_
  refine go_putI (z := 5) dX4_startAnew_2 rfl fX4_40 (by assumption) rfl (Or.inl rfl) rfl ?_
  refine go_aload_n (z := 6) dX4_startAnew_5 rfl rfl ?_
  refine go_iload_n (z := 7) dX4_startAnew_6 rfl rfl ?_
  refine go_putI (z := 10) dX4_startAnew_7 rfl fX4_9 (by assumption) rfl (Or.inl rfl) rfl ?_
  refine go_aload_n (z := 11) dX4_startAnew_10 rfl rfl ?_
  refine go_aload_n (z := 12) dX4_startAnew_11 rfl rfl ?_
  refine go_getI (z := 15) dX4_startAnew_12 rfl fX4_15 (by assumption) rfl ?_
  refine go_putI (z := 18) dX4_startAnew_15 rfl fX4_15 (by assumption) rfl (Or.inl rfl) rfl ?_
  refine go_aload_n (z := 19) dX4_startAnew_18 rfl rfl ?_
  refine go_aload_n (z := 20) dX4_startAnew_19 rfl rfl ?_
  refine go_callV (z := 23) (t := 4) [.ref O] dX4_startAnew_20 rfl mlX4_copyWays vX4_43 ⟨by decide, rfl⟩ (by assumption) rfl rfl (by decide) (cat_r cat_nil) (by simp) (by decide) (by first | decide | omega) (by first | decide | omega) (c_copyWays hL hLO (by omega) l1.1 o1.1) ?_
  intro v n2 i2 r2 hp
  obtain ⟨p1, p2, p3, p4, p5⟩ := hp
  subst v; subst n2; subst r2
  refine go_aload_n (z := 24) dX4_startAnew_23 rfl rfl ?_
  refine go_getR (z := 27) dX4_startAnew_24 rfl fX4_24 (by assumption) rfl (by assumption) ?_
  refine go_astore_n (z := 28) dX4_startAnew_27 rfl (by decide) ?_
  refine go_aload_n (z := 29) dX4_startAnew_28 rfl rfl ?_
  refine go_alen (z := 30) (by assumption) (by decide) dX4_startAnew_29 rfl ?_
  refine go_istore (z := 32) dX4_startAnew_30 rfl (by decide) ?_
  refine go_iconst (z := 33) (v := 0) dX4_startAnew_32 rfl (by decide) ?_
  refine go_istore (z := 35) dX4_startAnew_33 rfl (by decide) ?_
  refine go_lo (lo' := [some (.ref S), some (.ref O), some (.int pw), some (.ref (S + 2)), some (.int (nI 6)), some (.int (nI 0)), none]) rfl (hous 6 0 i2 none (by omega) (fun a ha => ?_) ?_ (fun k hk => ?_) (fun q hq' => absurd hq' (Nat.not_lt_zero q)))
  · rw [p4 a (by omega)]
    simp only [ups_row (show a ≠ S by omega)]
  · rw [p4 S (by omega)]
    simp [ups, hOS, o2 2]
  · rw [p5 k hk]
    simp only [ups_a (show O + 1 ≠ S by omega)]
    exact o3 k hk
end STATE7
