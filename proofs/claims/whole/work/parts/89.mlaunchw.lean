/-! launchAll, launch at the reference -/
section MLW
variable {l : Launch} {G : GG} {n : Nat} {i : IP} {r : RP} {M : Nat} {E : EE} {Gd : Nat → Prop} {O : Nat} {A : AP}
theorem upr_swap {α : Type} {f : Nat → Nat → α} {a b k : Nat} {t u : Nat → α} {x : α} (h : a ≠ b) : ups (upr (upr f a t) b u) a k x = upr (upr f a (up1 t k x)) b u := by
  funext c q
  by_cases c1 : c = b
  · rw [c1, ups_a (Ne.symm h), upr_s, upr_s]
  · rw [upr_n c1]
    by_cases c7 : c = a
    · rw [c7, upr_s]
      by_cases cq : q = k
      · rw [cq, ups_s, up1_s]
      · rw [ups_k cq, up1_n cq, upr_n h, upr_s]
    · rw [ups_a c7, upr_n c1, upr_n c7, upr_n c7]
/-- what the last step leaves does not look at the errands -/
theorem LnC.congr {n0 : Nat} {P : List RN} {σ β : Nat → Nat} {s s' : Nat → Int32} (h : LnC E Gd n0 P σ β s) (hs : ∀ x, x < 80 → eF s' x 4 = eF s x 4) : LnC E Gd n0 P σ β s' := by
  obtain ⟨c1, c2⟩ := h
  refine ⟨fun k hk => ?_, fun x hx ha => ?_⟩
  · obtain ⟨q1, q2, q3, q4⟩ := c1 k hk
    exact ⟨q1, by rw [hs _ q1]; exact q2, q3, fun x hx => by rw [hs x (by omega)]; exact q4 x hx⟩
  · rw [hs x hx] at ha
    exact c2 x hx ha
theorem c_mLaunchAll {L : List RN} {p d n0 : Nat} {m : MS} (hY : MoY G n M r) (hS : RelS E Gd O [] m (i (M + 1))) (hRd : RdS M p d L i) (hL : L.length ≤ 15) (hV : VD (deps L)) (hB : ∀ y ∈ L, y.1 < 6 ∧ y.2.1 ≤ 20 ∧ y.2.2 < L.length) (hG : ∀ a, Gd a → a < n0) (hcnt : cntF (aliP (i (M + 1))) 80 + L.length ≤ 80) (hcap : m.2.2.2.2.length + L.length ≤ 141) (hO : O + 15 < 2 ^ 31) : Go l G mX6_launchAll 2 0 0 0 (lentry [.ref M] 5) [] n i r (fun v n' i' r' => v = some (.int (nI (rootsOf n0 L).length)) ∧ n' = n ∧ r' = r ∧ ∃ lt s', i' = upr (upr i (M + 7) lt) (M + 1) s' ∧ RelS (eExt n0 L E) (gExt n0 L Gd) (O + 15) [] (mLaunch (eExt n0 L E) (rootsOf n0 L) m) s') := by
  obtain ⟨⟨hM, hr0, hs⟩, ⟨hr1, hr3, hr5, hr6, hr8, hr12⟩, hA2, hA3, hA4, hA5, hA6, hA7⟩ := id hY
  have hX := hY.1
  obtain ⟨f10, f9, f11, f6⟩ := hRd
  have m3 : ∀ k, (3 : Int32) * nI k = nI (3 * k) := fun k => pk_mul 3 k
  have hm10 : ∀ (E : EE) q (m : MS), (mLch0 E q m).1 10 = m.1 10 := by
    intro E q
    induction q with
    | nil => intro m; rfl
    | cons a q ih =>
      intro m
      show (mLch0 E q (lch1 E m a)).1 10 = _
      rw [ih]
      show up1 (up1 m.1 7 (m.1 7 + coin m)) 11 (m.1 11 + 1) 10 = m.1 10
      rw [up1_n (by decide), up1_n (by decide)]
  have loop : ∀ f k (lt : Nat → Int32) (s : Nat → Int32) (σ β : Nat → Nat) (qs ps : Nat → List Nat) (ml : RM) (o : Nat) (o3 o4 : Option Value), k + f = L.length → RelA (eExt n0 (L.take k) E) (gExt n0 (L.take k) Gd) β qs ps ml o (mLch0 (eExt n0 L E) (rootsOf n0 (L.take k)) m) s → LnC E Gd n0 (L.take k) σ β s → (∀ e, e < mL (L.take k) → lt e = nI (σ ((fbL (L.take k)).2.2.2 e))) → cntF (aliP s) 80 + f ≤ 80 → o ≤ O + k → ml.length + f ≤ 141 → Go l G mX6_launchAll 2 0 0 4 [some (.ref M), some (.int (nI (rootsOf n0 (L.take k)).length)), some (.int (nI k)), o3, o4] [] n (upr (upr i (M + 7) lt) (M + 1) s) r (fun v n' i' r' => v = some (.int (nI (rootsOf n0 L).length)) ∧ n' = n ∧ r' = r ∧ ∃ lt s', i' = upr (upr i (M + 7) lt) (M + 1) s' ∧ RelS (eExt n0 L E) (gExt n0 L Gd) (O + 15) [] (mLaunch (eExt n0 L E) (rootsOf n0 L) m) s') := by
    intro f
    induction f with
    | zero =>
      intro k lt s σ β qs ps ml o o3 o4 hk hA hC hlt hcn ho hml
      have hk : k = L.length := by omega
      subst hk
      rw [List.take_length] at hA hC hlt ⊢
      have s5 : s 5 = m.1 10 := (hA.1 5 (by omega) (by omega) (by omega)).trans (hm10 _ _ _)
      refine go_iload_n (z := 5) dX6_launchAll_4 rfl rfl ?_
      refine go_aload_n (z := 6) dX6_launchAll_5 rfl rfl ?_
      refine go_getI (z := 9) dX6_launchAll_6 rfl fX6_122 (by assumption) rfl ?_
      rw [upr_n (show M ≠ M + 1 by omega), upr_n (show M ≠ M + 7 by omega), f9]
      refine go_icmp_ge (z := 109) (z2 := 12) dX6_launchAll_9 rfl (by decide) (fun _ => ?_) (fun h => absurd (Int32.le_refl _) h)
      refine go_aload_n (z := 110) dX6_launchAll_109 rfl rfl ?_
      refine go_getR (z := 113) dX6_launchAll_110 rfl fX6_7 (by assumption) rfl (by assumption) ?_
      refine go_iconst (z := 114) (v := 5) dX6_launchAll_113 rfl (by decide) ?_
      refine go_dup2 (z := 115) dX6_launchAll_114 rfl rfl rfl ?_
      refine go_ialdM (z := 116) 5 (by assumption) (by decide) rfl (by omega) dX6_launchAll_115 rfl ?_
      rw [s5]
      refine go_iload_n (z := 117) dX6_launchAll_116 rfl rfl ?_
      refine go_iadd (z := 118) dX6_launchAll_117 rfl ?_
      refine go_iastM (z := 119) 5 (by assumption) (by decide) rfl (by omega) dX6_launchAll_118 rfl ?_
      refine go_iload_n (z := 120) dX6_launchAll_119 rfl rfl ?_
      refine go_iret dX6_launchAll_120 rfl ⟨rfl, rfl, rfl, lt, _, rfl, β, qs, ps, ml, o, by omega, ?_⟩
      rw [mLch_eq]
      exact hA.z (w := 5) (by omega) (by omega) (by omega)
    | succ f ih =>
      intro k lt s σ β qs ps ml o o3 o4 hk hA hC hlt hcn ho hml
      have hkl : k < L.length := by omega
      have hy : L[k]? = some L[k] := List.getElem?_eq_getElem hkl
      obtain ⟨y1, y2, y3⟩ := f6 k _ hy
      obtain ⟨z1, z2, z3⟩ := hB _ (List.getElem_mem hkl)
      have htk : L.take (k + 1) = L.take k ++ [L[k]] := by rw [List.take_succ, hy]; rfl
      have hlk : (L.take k).length = k := by rw [List.length_take]; omega
      have hVk : VD (deps (L.take k)) ∧ L[k].2.2 ≤ mL (L.take k) := by
        have h1 : VD (deps (L.take (k + 1))) := by
          have e : deps (L.take (k + 1)) = (deps L).take (k + 1) := by unfold deps; rw [List.map_take]
          rw [e]
          intro j dd hj
          have hjk : j < k + 1 := by
            have := (List.getElem?_eq_some_iff.mp hj).1
            rw [List.length_take] at this
            omega
          rw [List.getElem?_take, if_pos hjk] at hj
          rw [List.take_take, Nat.min_eq_left (by omega)]
          exact hV j dd hj
        rw [htk, deps_snoc] at h1
        have h2 := VD_snoc.mp h1
        rw [← mL_mD] at h2
        exact h2
      generalize hyk : L[k] = y at *
      generalize hPk : L.take k = P at *
      have hP' : k = P.length := hlk.symm
      have hfree : cntF (aliP s) 80 < 80 := by omega
      obtain ⟨e, e1, e2, e3⟩ := free_of 80 hfree
      have hd : ¬ 0 < eF s e 4 := fun q => e2 (decide_eq_true q)
      have hf : ∀ x, x < e → 0 < eF s x 4 := fun x hx => of_decide_eq_true (e3 x hx)
      have rows : ∀ (lt' s' : Nat → Int32) a, a ≠ M + 1 → a ≠ M + 7 → upr (upr i (M + 7) lt') (M + 1) s' a = i a := fun lt' s' a a1 a2 => by rw [upr_n a1, upr_n a2]
      have cnt2 : ∀ s' : Nat → Int32, 0 < eF s' e 4 → (∀ x, x < 80 → x ≠ e → eF s' x 4 = eF s x 4) → cntF (aliP s') 80 = cntF (aliP s) 80 + 1 := fun s' h1 h2 => cnt_add (fun q => hd (of_decide_eq_true q)) (decide_eq_true h1) 80 e1 (fun x hx hn => by unfold aliP; rw [h2 x hx hn])
      have hmLs : mL (P ++ [y]) = y.2.2 + 1 := mL_snoc P y
      have hlat : ∀ q, (fbL (P ++ [y])).2.2.2 q = if q = y.2.2 then P.length else (fbL P).2.2.2 q := fun q => by
        rw [fbL_snoc]
        rfl
      have hlt2 : ∀ q, q < mL (P ++ [y]) → up1 lt y.2.2 (nI e) q = nI (up1 σ P.length e ((fbL (P ++ [y])).2.2.2 q)) := fun q hq => by
        rw [hlat]
        by_cases hqd : q = y.2.2
        · rw [if_pos hqd, hqd, up1_s, up1_s]
        · rw [if_neg hqd, up1_n hqd]
          have hqm : q < mL P := by rw [hmLs] at hq; omega
          have hlo := (lat_of (deps P) hVk.1 q (by rw [← mL_mD]; exact hqm)).1
          have hlo : (fbL P).2.2.2 q < P.length := by
            rw [show (deps P).length = P.length from List.length_map _] at hlo
            exact hlo
          rw [up1_n (by omega)]
          exact hlt q hqm
      refine go_iload_n (z := 5) dX6_launchAll_4 rfl rfl ?_
      refine go_aload_n (z := 6) dX6_launchAll_5 rfl rfl ?_
      refine go_getI (z := 9) dX6_launchAll_6 rfl fX6_122 (by assumption) rfl ?_
      rw [rows lt s M (by omega) (by omega), f9]
      refine go_icmp_ge (z := 109) (z2 := 12) dX6_launchAll_9 rfl (by decide) (fun h => absurd ((nI_leI (by omega) (by omega)).mp h) (by omega)) (fun _ => ?_)
      refine go_aload_n (z := 13) dX6_launchAll_12 rfl rfl ?_
      refine go_getR (z := 16) dX6_launchAll_13 rfl fX6_25 (by assumption) rfl (by assumption) ?_
      refine go_iconst (z := 17) (v := 3) dX6_launchAll_16 rfl (by decide) ?_
      refine go_iload_n (z := 18) dX6_launchAll_17 rfl rfl ?_
      refine go_imul (z := 19) dX6_launchAll_18 rfl ?_
      rw [m3]
      refine go_iconst (z := 20) (v := 2) dX6_launchAll_19 rfl (by decide) ?_
      refine go_iadd (z := 21) dX6_launchAll_20 rfl ?_
      refine go_iald (z := 22) (3 * k + 2) (by assumption) (by decide) (nI_add (3 * k) 2) (by omega) dX6_launchAll_21 rfl ?_
      rw [rows lt s (M + 6) (by omega) (by omega), y3]
      refine go_istore_n (z := 23) dX6_launchAll_22 rfl (by decide) ?_
      refine go_aload_n (z := 24) dX6_launchAll_23 rfl rfl ?_
      refine go_aload_n (z := 25) dX6_launchAll_24 rfl rfl ?_
      refine go_getR (z := 28) dX6_launchAll_25 rfl fX6_25 (by assumption) rfl (by assumption) ?_
      refine go_iconst (z := 29) (v := 3) dX6_launchAll_28 rfl (by decide) ?_
      refine go_iload_n (z := 30) dX6_launchAll_29 rfl rfl ?_
      refine go_imul (z := 31) dX6_launchAll_30 rfl ?_
      rw [m3]
      refine go_iald (z := 32) (3 * k) (by assumption) (by decide) rfl (by omega) dX6_launchAll_31 rfl ?_
      rw [rows lt s (M + 6) (by omega) (by omega), y1]
      refine go_aload_n (z := 33) dX6_launchAll_32 rfl rfl ?_
      refine go_getR (z := 36) dX6_launchAll_33 rfl fX6_25 (by assumption) rfl (by assumption) ?_
      refine go_iconst (z := 37) (v := 3) dX6_launchAll_36 rfl (by decide) ?_
      refine go_iload_n (z := 38) dX6_launchAll_37 rfl rfl ?_
      refine go_imul (z := 39) dX6_launchAll_38 rfl ?_
      rw [m3]
      refine go_iconst (z := 40) (v := 1) dX6_launchAll_39 rfl (by decide) ?_
      refine go_iadd (z := 41) dX6_launchAll_40 rfl ?_
      refine go_iald (z := 42) (3 * k + 1) (by assumption) (by decide) (nI_add (3 * k) 1) (by omega) dX6_launchAll_41 rfl ?_
      rw [rows lt s (M + 6) (by omega) (by omega), y2]
      refine go_iload_n (z := 43) dX6_launchAll_42 rfl rfl ?_
      refine go_if_ne (z := 50) (z2 := 46) dX6_launchAll_43 rfl (by decide) (fun hdep => ?_) (fun hdep => ?_)
      · have hdep : y.2.2 ≠ 0 := fun q => hdep (by rw [q]; rfl)
        obtain ⟨d', hd'⟩ : ∃ d', y.2.2 = d' + 1 := ⟨y.2.2 - 1, by omega⟩
        have hlo : (fbL P).2.2.2 (y.2.2 - 1) < P.length := by
          have := (lat_of (deps P) hVk.1 (y.2.2 - 1) (by rw [← mL_mD]; omega)).1
          rw [show (deps P).length = P.length from List.length_map _] at this
          exact this
        have hpe := hlt (y.2.2 - 1) (by omega)
        obtain ⟨hA2', hC2⟩ := LnC.part hA hC e1 hd hf (by omega) hdep hlo
        have hσ := (hC.1 _ hlo).1
        refine go_aload_n (z := 51) dX6_launchAll_50 rfl rfl ?_
        refine go_getR (z := 54) dX6_launchAll_51 rfl fX6_28 (by assumption) rfl (by assumption) ?_
        refine go_iload_n (z := 55) dX6_launchAll_54 rfl rfl ?_
        refine go_iconst (z := 56) (v := 1) dX6_launchAll_55 rfl (by decide) ?_
        rw [hd']
        refine go_isub (z := 57) dX6_launchAll_56 rfl ?_
        rw [nI_pred]
        refine go_iald (z := 58) d' (by assumption) (by decide) rfl (by omega) dX6_launchAll_57 rfl ?_
        rw [upr_n (show M + 7 ≠ M + 1 by omega), upr_s, show lt d' = nI (σ ((fbL P).2.2.2 (y.2.2 - 1))) from by rw [← hpe, hd']; rfl]
        refine go_iconst (z := 59) (v := 1) dX6_launchAll_58 rfl (by decide) ?_
        refine go_iadd (z := 60) dX6_launchAll_59 rfl ?_
        rw [nI_1]
        refine go_callV (z := 63) (t := 6) [.int (nI y.1), .int (nI y.2.1), .int (nI (σ ((fbL P).2.2.2 (y.2.2 - 1)) + 1))] dX6_launchAll_60 rfl mlX6_add vX6_132 ⟨by decide, rfl⟩ hM rfl rfl (by decide) (cat_i (cat_i (cat_i cat_nil))) (by simp) (by decide) (by first | decide | omega) (by first | decide | omega) (c_mAdd hX e1 hd hf) ?_
        refine ret_elim ?_
        refine go_istore (z := 65) dX6_launchAll_63 rfl (by decide) ?_
        refine go_aload_n (z := 66) dX6_launchAll_65 rfl rfl ?_
        refine go_getR (z := 69) dX6_launchAll_66 rfl fX6_28 (by assumption) rfl (by assumption) ?_
        refine go_iload_n (z := 70) dX6_launchAll_69 rfl rfl ?_
        refine go_iload (z := 72) dX6_launchAll_70 rfl rfl ?_
        refine go_iast (z := 73) y.2.2 hA7 (by decide) (by rw [hd']) (by omega) dX6_launchAll_72 rfl ?_
        rw [upr_swap (show M + 7 ≠ M + 1 by omega)]
        refine go_iload_n (z := 74) dX6_launchAll_73 rfl rfl ?_
        refine go_if_ne (z := 103) (z2 := 77) dX6_launchAll_74 rfl (by decide) (fun _ => ?_) (fun h => absurd h (by rw [← hd']; exact nI_ne0 (by omega) (by omega)))
        refine go_iinc (z := 106) dX6_launchAll_103 rfl rfl (nI_1 k) (by decide) ?_
        refine go_goto (z := 4) dX6_launchAll_106 (by decide) ?_
        have er : rootsOf n0 (P ++ [y]) = rootsOf n0 P := by rw [roots_snoc, if_neg hdep]
        have := ih (k + 1) (up1 lt y.2.2 (nI e)) (rAdd s e (nI y.1) (nI y.2.1) (nI (σ ((fbL P).2.2.2 (y.2.2 - 1)) + 1))) (up1 σ P.length e) (up1 β e (n0 + P.length)) qs _ ml (o + 1) (some (.int (nI y.2.2))) (some (.int (nI e))) (by omega) (by rw [htk, er]; exact hA2') (by rw [htk]; exact hC2) (by rw [htk]; exact hlt2) (by
          rw [cnt2 _ (by rw [rAdd_e.2.2.2.2]; split <;> decide) (fun x _ hx => rAdd_x hx (by omega))]
          omega) (by omega) (by omega)
        rw [htk, er] at this
        rw [← hd']
        exact this
      · have hdep : y.2.2 = 0 := (nI_eq (b := 0) (by omega) (by omega)).mp hdep
        obtain ⟨hA2', hC2⟩ := LnC.root hA hC e1 hd hf (by omega) hdep
        obtain ⟨hco, hMi⟩ := hA2'.mint
        have hPE := RelG.postE (k := 0) (g := coin (mLch0 (eExt n0 L E) (rootsOf n0 P) m)) (f := 6) (t := y.1) hMi (by omega) (by omega) (Or.inr (by omega)) (by omega)
        have hs4 := hMi.2.2.2.2.2.2.1.1
        have er : rootsOf n0 (P ++ [y]) = rootsOf n0 P ++ [n0 + P.length] := by rw [roots_snoc, if_pos hdep]
        have eE : (eExt n0 L E).1 (n0 + P.length) = y.1 := by
          rw [ext_new.1, ← hP', nodeAt_some hy]
        have em : mLch0 (eExt n0 L E) (rootsOf n0 (P ++ [y])) m = mPost (mMint (mLch0 (eExt n0 L E) (rootsOf n0 P) m)) 0 6 y.1 (coin (mLch0 (eExt n0 L E) (rootsOf n0 P) m)) (some (n0 + P.length)) := by
          rw [er, mLch0_snoc]
          show mPost (mMint (mLch0 (eExt n0 L E) (rootsOf n0 P) m)) 0 6 ((eExt n0 L E).1 (n0 + P.length)) (coin (mLch0 (eExt n0 L E) (rootsOf n0 P) m)) (some (n0 + P.length)) = _
          rw [eE]
        rw [show up1 β e (n0 + P.length) e = n0 + P.length from up1_s] at hPE
        generalize hs1 : rAdd s e (nI y.1) (nI y.2.1) 0 = s1 at *
        have hw4 : ∀ x, x < 80 → eF (rSend (rMint s1) ml.length 0 6 y.1 (coin (mLch0 (eExt n0 L E) (rootsOf n0 P) m)) (nI (e + 1))) x 4 = eF s1 x 4 := fun x hx => by
          refine (rSend_o (by omega) (by omega)).trans ?_
          show up1 (up1 s1 1 (s1 1 + rCoin s1)) 6 (s1 6 + 1) (108 + 5 * x + 4) = _
          rw [up1_n (by omega), up1_n (by omega)]
          rfl
        refine go_iconst (z := 47) (v := 0) dX6_launchAll_46 rfl (by decide) ?_
        refine go_goto (z := 60) dX6_launchAll_47 (by decide) ?_
        refine go_callV (z := 63) (t := 6) [.int (nI y.1), .int (nI y.2.1), .int 0] dX6_launchAll_60 rfl mlX6_add vX6_132 ⟨by decide, rfl⟩ hM rfl rfl (by decide) (cat_i (cat_i (cat_i cat_nil))) (by simp) (by decide) (by first | decide | omega) (by first | decide | omega) (c_mAdd hX e1 hd hf) ?_
        refine ret_elim ?_
        refine go_istore (z := 65) dX6_launchAll_63 rfl (by decide) ?_
        refine go_aload_n (z := 66) dX6_launchAll_65 rfl rfl ?_
        refine go_getR (z := 69) dX6_launchAll_66 rfl fX6_28 (by assumption) rfl (by assumption) ?_
        refine go_iload_n (z := 70) dX6_launchAll_69 rfl rfl ?_
        refine go_iload (z := 72) dX6_launchAll_70 rfl rfl ?_
        refine go_iast (z := 73) y.2.2 hA7 (by decide) rfl (by omega) dX6_launchAll_72 rfl ?_
        rw [upr_swap (show M + 7 ≠ M + 1 by omega), hs1]
        refine go_iload_n (z := 74) dX6_launchAll_73 rfl rfl ?_
        refine go_if_ne (z := 103) (z2 := 77) dX6_launchAll_74 rfl (by decide) (fun h => absurd (by rw [hdep]; rfl) h) (fun _ => ?_)
        refine go_iinc (z := 80) dX6_launchAll_77 rfl rfl (nI_1 _) (by decide) ?_
        refine go_aload_n (z := 81) dX6_launchAll_80 rfl rfl ?_
        refine go_iconst (z := 82) (v := 0) dX6_launchAll_81 rfl (by decide) ?_
        refine go_bipush (z := 84) (v := 6) dX6_launchAll_82 rfl (by decide) ?_
        refine go_aload_n (z := 85) dX6_launchAll_84 rfl rfl ?_
        refine go_getR (z := 88) dX6_launchAll_85 rfl fX6_25 (by assumption) rfl (by assumption) ?_
        refine go_iconst (z := 89) (v := 3) dX6_launchAll_88 rfl (by decide) ?_
        refine go_iload_n (z := 90) dX6_launchAll_89 rfl rfl ?_
        refine go_imul (z := 91) dX6_launchAll_90 rfl ?_
        rw [m3]
        refine go_iald (z := 92) (3 * k) (by assumption) (by decide) rfl (by omega) dX6_launchAll_91 rfl ?_
        rw [rows _ _ (M + 6) (by omega) (by omega), y1]
        refine go_aload_n (z := 93) dX6_launchAll_92 rfl rfl ?_
        refine go_callV (z := 96) (t := 6) [] dX6_launchAll_93 rfl mlX6_mint vX6_90 ⟨by decide, rfl⟩ hM rfl rfl (by decide) cat_nil (by simp) (by decide) (by first | decide | omega) (by first | decide | omega) (c_mMint hX) ?_
        refine ret_elim ?_
        refine go_iload (z := 98) dX6_launchAll_96 rfl rfl ?_
        refine go_iconst (z := 99) (v := 1) dX6_launchAll_98 rfl (by decide) ?_
        rw [hco]
        refine go_iadd (z := 100) dX6_launchAll_99 rfl ?_
        rw [nI_1]
        refine go_callV (z := 103) (t := 6) [.int 0, .int (nI 6), .int (nI y.1), .int (coin (mLch0 (eExt n0 L E) (rootsOf n0 P) m)), .int (nI (e + 1))] dX6_launchAll_100 rfl mlX6_send vX6_73 ⟨by decide, rfl⟩ hM rfl rfl (by decide) (cat_i (cat_i (cat_i (cat_i (cat_i cat_nil))))) (by simp) (by decide) (by first | decide | omega) (by first | decide | omega) (c_mSendM (c := ml.length) hX hs4 (by omega) (by omega) (by omega) (Or.inr (by omega))) ?_
        refine ret_elim ?_
        refine go_iinc (z := 106) dX6_launchAll_103 rfl rfl (nI_1 k) (by decide) ?_
        refine go_goto (z := 4) dX6_launchAll_106 (by decide) ?_
        have elen : (rootsOf n0 (P ++ [y])).length = (rootsOf n0 P).length + 1 := by rw [er, List.length_append]; rfl
        have := ih (k + 1) (up1 lt y.2.2 (nI e)) (rSend (rMint s1) ml.length 0 6 y.1 (coin (mLch0 (eExt n0 L E) (rootsOf n0 P) m)) (nI (e + 1))) (up1 σ P.length e) (up1 β e (n0 + P.length)) qs ps _ (o + 1) (some (.int (nI y.2.2))) (some (.int (nI e))) (by omega) (by rw [htk, em]; exact hPE) (by rw [htk]; exact hC2.congr hw4) (by rw [htk]; exact hlt2) (by
          rw [cnt2 _ (by rw [hw4 e e1, ← hs1, rAdd_e.2.2.2.2]; split <;> decide) (fun x hx80 hx => by rw [hw4 x hx80, ← hs1]; exact rAdd_x hx (by omega))]
          omega) (by omega) (by rw [List.length_append]; show ml.length + 1 + f ≤ 141; omega)
        rw [htk, elen] at this
        exact this
  refine go_iconst (z := 1) (v := 0) dX6_launchAll_0 rfl (by decide) ?_
  refine go_istore_n (z := 2) dX6_launchAll_1 rfl (by decide) ?_
  refine go_iconst (z := 3) (v := 0) dX6_launchAll_2 rfl (by decide) ?_
  refine go_istore_n (z := 4) dX6_launchAll_3 rfl (by decide) ?_
  obtain ⟨β, qs, ps, ml, o, ho, hA⟩ := id hS
  have hA : RelA E Gd β qs ps ml o m (i (M + 1)) := hA
  have hA0 : RelA (eExt n0 [] E) (gExt n0 [] Gd) β qs ps ml o m (i (M + 1)) := RelG.ext hA (fun a ha => ⟨Or.inl ha, (ext_old (hG a ha)).1, (ext_old (hG a ha)).2.1, (ext_old (hG a ha)).2.2.2⟩)
  have hC0 : LnC E Gd n0 [] (fun _ => 0) β (i (M + 1)) := ⟨fun k hk => (by cases hk), fun x hx ha => Or.inl (hG _ (hA.2.2.2.2.1 x hx (by omega) ha).1)⟩
  have := loop L.length 0 (i (M + 7)) (i (M + 1)) (fun _ => 0) β qs ps ml o none none (by omega) hA0 hC0 (fun q hq => by cases hq) hcnt (by omega) (by rw [← hA.len]; exact hcap)
  rw [upr_same (show i (M + 7) = i (M + 7) from rfl), upr_id] at this
  exact this
end MLW
