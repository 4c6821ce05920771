/-! a message arrives -/
section MARRV
variable {E : EE} {Gd : Nat → Prop} {β : Nat → Nat} {qs ps : Nat → List Nat} {ml : RM} {bs : List Nat} {e0 o : Nat} {m : MS} {s : Nat → Int32}
theorem split_at {α : Type} {l : List α} {j : Nat} {y : α} (h : l[j]? = some y) : ∃ A B, l = A ++ y :: B ∧ l.eraseIdx j = A ++ B ∧ A.length = j := by
  obtain ⟨hj, e⟩ := List.getElem?_eq_some_iff.mp h
  refine ⟨l.take j, l.drop (j + 1), ?_, List.eraseIdx_eq_take_drop_succ l j, by rw [List.length_take]; omega⟩
  have h2 := List.take_append_drop j l
  rw [List.drop_eq_getElem_cons hj, e] at h2
  exact h2.symm
theorem bsOf_app (A B : RM) : bsOf (A ++ B) = bsOf A ++ bsOf B := by
  unfold bsOf
  rw [List.filterMap_append]
theorem bsOf_cons0 {y : Mg × Nat} (h : y.2 = 0) (B : RM) : bsOf (y :: B) = bsOf B := by
  unfold bsOf
  rw [List.filterMap_cons_none (by rw [if_pos h])]
theorem bsOf_cons1 {y : Mg × Nat} {e : Nat} (h : y.2 = e + 1) (B : RM) : bsOf (y :: B) = e :: bsOf B := by
  unfold bsOf
  rw [List.filterMap_cons_some (b := e) (by rw [h, if_neg (by omega)]; rfl)]
theorem bs_erase0 {j : Nat} {y : Mg × Nat} (h : ml[j]? = some y) (h0 : y.2 = 0) : bsOf (ml.eraseIdx j) = bsOf ml := by
  obtain ⟨A, B, e1, e2, -⟩ := split_at h
  rw [e2, e1, bsOf_app, bsOf_app, bsOf_cons0 h0]
theorem bs_erase1 {j e : Nat} {y : Mg × Nat} (h : ml[j]? = some y) (h0 : y.2 = e + 1) : List.Perm (bsOf ml) (e :: bsOf (ml.eraseIdx j)) := by
  obtain ⟨A, B, e1, e2, -⟩ := split_at h
  rw [e2, e1, bsOf_app, bsOf_app, bsOf_cons1 h0]
  exact List.perm_middle
theorem rTake_o {c j k : Nat} (hk : k < 508) (h4 : k ≠ 4) : rTake s c j k = s k := by
  unfold rTake
  rw [if_neg h4, if_neg (by omega)]
theorem MsL.erase (h : MsL s ml) {j c : Nat} (hj : j < ml.length) (hc : ml.length = c + 1) : MsL (rTake s c j) (ml.eraseIdx j) := by
  have hl : (ml.eraseIdx j).length = c := by rw [List.length_eraseIdx_of_lt hj]; omega
  have h144 := h.2.1
  refine ⟨by rw [hl]; exact if_pos rfl, by omega, fun k y hy => ?_⟩
  have hk : k < c := by rw [← hl]; exact (List.getElem?_eq_some_iff.mp hy).1
  rw [List.getElem?_eraseIdx] at hy
  have key : ∀ f, f < 6 → gF (rTake s c j) k f = if k < j then gF s k f else gF s (k + 1) f := by
    intro f hf
    unfold gF rTake
    rw [if_neg (by omega)]
    by_cases hkj : k < j
    · rw [if_pos hkj, if_neg (by omega)]
    · rw [if_neg hkj, if_pos (by omega)]
      congr 1
      omega
  by_cases hkj : k < j
  · rw [if_pos hkj] at hy
    refine ⟨fun f hf => ?_, ?_⟩
    · rw [key f (by omega), if_pos hkj]; exact (h.2.2 k y hy).1 f hf
    · rw [key 5 (by omega), if_pos hkj]; exact (h.2.2 k y hy).2
  · rw [if_neg hkj] at hy
    refine ⟨fun f hf => ?_, ?_⟩
    · rw [key f (by omega), if_neg hkj]; exact (h.2.2 _ y hy).1 f hf
    · rw [key 5 (by omega), if_neg hkj]; exact (h.2.2 _ y hy).2
theorem RelG.take (hR : RelG E Gd β qs ps ml bs e0 o m s) {j c : Nat} (hj : j < ml.length) (hc : ml.length = c + 1) : RelG E Gd β qs ps (ml.eraseIdx j) bs e0 o (sM m (isort ((ml.eraseIdx j).map Prod.fst))) (rTake s c j) := by
  obtain ⟨r1, r2, r3, r4, r5, r6, r7, r8, r9⟩ := hR
  have hi : ∀ k, k < 508 → k ≠ 4 → rTake s c j k = s k := fun k hk h4 => rTake_o hk h4
  exact ⟨r1.congr (fun k a b _ => hi k (by omega) b) rfl, r2.congr (fun k a b => hi k (by omega) (by omega)) rfl, r3.congr (fun k a b => hi k (by omega) (by omega)) rfl rfl, r4.congr (hi 10 (by omega) (by omega)) (fun e f he hf => hi _ (by omega) (by omega)), r5.congr (fun e f he hf => hi _ (by omega) (by omega)), r6, r7.erase hj hc, fun y hy => r8 y (List.eraseIdx_subset hy), rfl⟩
theorem RelG.postA (hR : RelA E Gd β qs ps ml o m s) {k g : Int32} {f t : Nat} (hf : f < 7) (ht : t < 7) (hft : f < 6 ∨ t < 6) (hc : ml.length < 144) : RelA E Gd β qs ps (ml ++ [((mg k (nI f) (nI t) g (s 0 + rTB s f t), none), 0)]) o (mPost m k f t g none) (rSend s ml.length k f t g 0) := hR.post hf ht hft hc
theorem RelG.mint (hR : RelG E Gd β qs ps ml bs e0 o m s) : rCoin s = coin m ∧ RelG E Gd β qs ps ml bs e0 o (mMint m) (rMint s) := by
  have h8 : s 8 = m.1 1 := hR.1 8 (by omega) (by omega) (by omega)
  have h1 : s 1 = m.1 7 := hR.1 1 (by omega) (by omega) (by omega)
  have h6 : s 6 = m.1 11 := hR.1 6 (by omega) (by omega) (by omega)
  have hc : rCoin s = coin m := by unfold rCoin coin; rw [h8]
  refine ⟨hc, ?_⟩
  have := (hR.z (w := 1) (x := m.1 7 + coin m) (by omega) (by omega) (by omega)).z (w := 6) (x := m.1 11 + 1) (by omega) (by omega) (by omega)
  unfold rMint
  rw [hc, h1, h6]
  exact this
end MARRV
section MARRVW
variable {l : Launch} {G : GG} {n : Nat} {i : IP} {r : RP} {M : Nat} {E : EE} {Gd : Nat → Prop} {β : Nat → Nat} {qs ps : Nat → List Nat} {ml : RM} {o : Nat} {m : MS} {s : Nat → Int32}
theorem c_mArrive {j : Nat} {y : Mg × Nat} (hX : MoX G n M r) (hE : EOk E Gd) (hR : RelA E Gd β qs ps ml o m s) (hj : ml[j]? = some y) (hA : ArrOk E Gd y.1 m) (ho : o + 15 < 2 ^ 31) : Go l G mX6_arrive 5 0 0 0 (lentry [.ref M, .int (nI j)] 7) [] n (upr i (M + 1) s) r (SQ (RelS E Gd (o + 15) (ml.eraseIdx j) (mArr E y.1 (sM m (isort ((ml.eraseIdx j).map Prod.fst))))) M n i r) := by
  obtain ⟨hM, hr0, hs⟩ := id hX
  have hjl : j < ml.length := (List.getElem?_eq_some_iff.mp hj).1
  obtain ⟨c, hc⟩ : ∃ c, ml.length = c + 1 := ⟨ml.length - 1, by omega⟩
  have hlen := hR.len
  have hT := hR.take hjl hc
  have hel : (ml.eraseIdx j).length = c := by rw [List.length_eraseIdx_of_lt hjl]; omega
  obtain ⟨a1, a2, a3, a4, a5⟩ := hA
  obtain ⟨f, t, hf, ht, e1, e2, hk⟩ := a1
  obtain ⟨gf, g5⟩ := hR.2.2.2.2.2.2.1.2.2 j y hj
  have s4 : s 4 = nI (c + 1) := by rw [hR.2.2.2.2.2.2.1.1, hc]
  have c1 : (y.1.1 1).toNatClampNeg = f := by rw [e1]; exact nI_clamp (by omega)
  have c2 : (y.1.1 2).toNatClampNeg = t := by rw [e2]; exact nI_clamp (by omega)
  have hB := hR.2.2.2.2.2.2.2.1 y (List.mem_of_getElem? hj)
  refine go_aload_n (z := 1) dX6_arrive_0 rfl rfl ?_
  refine go_iload_n (z := 2) dX6_arrive_1 rfl rfl ?_
  refine go_iconst (z := 3) (v := 0) dX6_arrive_2 rfl (by decide) ?_
  refine go_callV (z := 6) (t := 6) [.int (nI j), .int (nI 0)] dX6_arrive_3 rfl mlX6_ofMessage vX6_60 ⟨by decide, rfl⟩ hM rfl rfl (by decide) (cat_i (cat_i cat_nil)) (by simp) (by decide) (by first | decide | omega) (by first | decide | omega) (c_mOfMsg hX (by omega) (by omega)) ?_
  refine ret_elim ?_
  rw [gf 0 (by omega)]
  refine go_istore_n (z := 7) dX6_arrive_6 rfl (by decide) ?_
  refine go_aload_n (z := 8) dX6_arrive_7 rfl rfl ?_
  refine go_iload_n (z := 9) dX6_arrive_8 rfl rfl ?_
  refine go_iconst (z := 10) (v := 1) dX6_arrive_9 rfl (by decide) ?_
  refine go_callV (z := 13) (t := 6) [.int (nI j), .int (nI 1)] dX6_arrive_10 rfl mlX6_ofMessage vX6_60 ⟨by decide, rfl⟩ hM rfl rfl (by decide) (cat_i (cat_i cat_nil)) (by simp) (by decide) (by first | decide | omega) (by first | decide | omega) (c_mOfMsg hX (by omega) (by omega)) ?_
  refine ret_elim ?_
  rw [gf 1 (by omega)]
  refine go_istore_n (z := 14) dX6_arrive_13 rfl (by decide) ?_
  refine go_aload_n (z := 15) dX6_arrive_14 rfl rfl ?_
  refine go_iload_n (z := 16) dX6_arrive_15 rfl rfl ?_
  refine go_iconst (z := 17) (v := 2) dX6_arrive_16 rfl (by decide) ?_
  refine go_callV (z := 20) (t := 6) [.int (nI j), .int (nI 2)] dX6_arrive_17 rfl mlX6_ofMessage vX6_60 ⟨by decide, rfl⟩ hM rfl rfl (by decide) (cat_i (cat_i cat_nil)) (by simp) (by decide) (by first | decide | omega) (by first | decide | omega) (c_mOfMsg hX (by omega) (by omega)) ?_
  refine ret_elim ?_
  rw [gf 2 (by omega)]
  refine go_istore (z := 22) dX6_arrive_20 rfl (by decide) ?_
  refine go_aload_n (z := 23) dX6_arrive_22 rfl rfl ?_
  refine go_iload_n (z := 24) dX6_arrive_23 rfl rfl ?_
  refine go_iconst (z := 25) (v := 3) dX6_arrive_24 rfl (by decide) ?_
  refine go_callV (z := 28) (t := 6) [.int (nI j), .int (nI 3)] dX6_arrive_25 rfl mlX6_ofMessage vX6_60 ⟨by decide, rfl⟩ hM rfl rfl (by decide) (cat_i (cat_i cat_nil)) (by simp) (by decide) (by first | decide | omega) (by first | decide | omega) (c_mOfMsg hX (by omega) (by omega)) ?_
  refine ret_elim ?_
  rw [gf 3 (by omega)]
  refine go_istore (z := 30) dX6_arrive_28 rfl (by decide) ?_
  refine go_aload_n (z := 31) dX6_arrive_30 rfl rfl ?_
  refine go_iload_n (z := 32) dX6_arrive_31 rfl rfl ?_
  refine go_iconst (z := 33) (v := 5) dX6_arrive_32 rfl (by decide) ?_
  refine go_callV (z := 36) (t := 6) [.int (nI j), .int (nI 5)] dX6_arrive_33 rfl mlX6_ofMessage vX6_60 ⟨by decide, rfl⟩ hM rfl rfl (by decide) (cat_i (cat_i cat_nil)) (by simp) (by decide) (by first | decide | omega) (by first | decide | omega) (c_mOfMsg hX (by omega) (by omega)) ?_
  refine ret_elim ?_
  rw [g5, e1, e2]
  refine go_iconst (z := 37) (v := 1) dX6_arrive_36 rfl (by decide) ?_
  refine go_isub (z := 38) dX6_arrive_37 rfl ?_
  refine go_istore (z := 40) dX6_arrive_38 rfl (by decide) ?_
  refine go_aload_n (z := 41) dX6_arrive_40 rfl rfl ?_
  refine go_iload_n (z := 42) dX6_arrive_41 rfl rfl ?_
  refine go_callV (z := 45) (t := 6) [.int (nI j)] dX6_arrive_42 rfl mlX6_takeAway vX6_84 ⟨by decide, rfl⟩ hM rfl rfl (by decide) (cat_i cat_nil) (by simp) (by decide) (by first | decide | omega) (by first | decide | omega) (c_mTake (c := c) hX s4 (by omega) (by omega)) ?_
  refine ret_elim ?_
  refine go_iload_n (z := 46) dX6_arrive_45 rfl rfl ?_
  unfold mArr
  rw [c1, c2]
  rcases hk with ⟨k0, ht6, a, ha, hg⟩ | ⟨k1, hf6, hn⟩ | ⟨k2, ht6, hn⟩ | ⟨k3, hf6, hn⟩
  · rw [k0, if_neg (by decide), if_neg (by decide), if_neg (by decide), ha]
    rcases hB with ⟨b1, -⟩ | ⟨e, b1, b2⟩
    · rw [ha] at b1; cases b1
    · rw [ha] at b2
      have hae : a = β e := Option.some.inj b2
      obtain ⟨-, q2⟩ := a4 a ha t ht6 e2
      rw [b1, nI_pred]
      refine go_tabIn (z := 72) 0 dX6_arrive_46 rfl (by decide) (by decide) rfl (by decide) ?_
      refine go_aload_n (z := 73) dX6_arrive_72 rfl rfl ?_
      refine go_iload (z := 75) dX6_arrive_73 rfl rfl ?_
      refine go_iload (z := 77) dX6_arrive_75 rfl rfl ?_
      refine go_iload (z := 79) dX6_arrive_77 rfl rfl ?_
      refine go_callV (z := 82) (t := 6) [.int (nI t), .int (y.1.1 3), .int (nI e)] dX6_arrive_79 rfl mlX6_errandArrives vX6_87 ⟨by decide, rfl⟩ hM rfl rfl (by decide) (cat_i (cat_i (cat_i cat_nil))) (by simp) (by decide) (by first | decide | omega) (by first | decide | omega) (c_mErrArr hX hE ht6 hT (bs_erase1 hj b1) ho (by rw [hel, ← hae]; show c + ((m.2.2.2.1 t).length + _) < 144; omega)) ?_
      refine sq_elim (fun s5 hs5 => ?_)
      refine go_goto (z := 138) dX6_arrive_82 (by decide) ?_
      rw [hae]
      exact go_vret dX6_arrive_138 rfl ⟨rfl, rfl, rfl, s5, rfl, hs5⟩
  · have hb0 : y.2 = 0 := by
      rcases hB with ⟨-, b1⟩ | ⟨e, -, b2⟩
      · exact b1
      · rw [hn] at b2; cases b2
    rw [← bs_erase0 hj hb0] at hT
    obtain ⟨hco, hMi⟩ := hT.mint
    rw [k1, if_neg (by decide), if_pos rfl]
    refine go_tabIn (z := 85) 1 dX6_arrive_46 rfl (by decide) (by decide) rfl (by decide) ?_
    refine go_aload_n (z := 86) dX6_arrive_85 rfl rfl ?_
    refine go_iconst (z := 87) (v := 2) dX6_arrive_86 rfl (by decide) ?_
    refine go_bipush (z := 89) (v := 6) dX6_arrive_87 rfl (by decide) ?_
    refine go_iload_n (z := 90) dX6_arrive_89 rfl rfl ?_
    refine go_aload_n (z := 91) dX6_arrive_90 rfl rfl ?_
    refine go_callV (z := 94) (t := 6) [] dX6_arrive_91 rfl mlX6_mint vX6_90 ⟨by decide, rfl⟩ hM rfl rfl (by decide) cat_nil (by simp) (by decide) (by first | decide | omega) (by first | decide | omega) (c_mMint hX) ?_
    refine ret_elim ?_
    refine go_iconst (z := 95) (v := 0) dX6_arrive_94 rfl (by decide) ?_
    refine go_callV (z := 98) (t := 6) [.int 2, .int (nI 6), .int (nI f), .int (rCoin (rTake s c j)), .int 0] dX6_arrive_95 rfl mlX6_send vX6_73 ⟨by decide, rfl⟩ hM rfl rfl (by decide) (cat_i (cat_i (cat_i (cat_i (cat_i cat_nil))))) (by simp) (by decide) (by first | decide | omega) (by first | decide | omega) (c_mSendM (c := (ml.eraseIdx j).length) hX hMi.2.2.2.2.2.2.1.1 (by omega) (by omega) (by omega) (by omega)) ?_
    refine ret_elim ?_
    refine go_goto (z := 138) dX6_arrive_98 (by decide) ?_
    rw [hco]
    exact go_vret dX6_arrive_138 rfl ⟨rfl, rfl, rfl, _, rfl, _, _, _, [_], o, by omega, hMi.postA (by omega) (by omega) (by omega) (by omega)⟩
  · have hb0 : y.2 = 0 := by
      rcases hB with ⟨-, b1⟩ | ⟨e, -, b2⟩
      · exact b1
      · rw [hn] at b2; cases b2
    rw [← bs_erase0 hj hb0] at hT
    rw [k2, if_neg (by decide), if_neg (by decide), if_pos rfl]
    have g1 : hF (rTake s c j) t 1 = m.2.2.1 t 1 := (hT.2.2.1 t ht6).1 1 (by omega)
    have hA1 := hT.house (h := t) (w := 1) (x := hF (rTake s c j) t 1 + y.1.1 3) ht6 (by omega) (by omega)
    have hA2 := hA1.house (h := t) (w := 3) (x := 0) ht6 (by omega) (fun _ => Or.inl rfl)
    rw [g1] at hA2
    have h3 := a3 t ht6
    refine go_tabIn (z := 101) 2 dX6_arrive_46 rfl (by decide) (by decide) rfl (by decide) ?_
    refine go_aload_n (z := 102) dX6_arrive_101 rfl rfl ?_
    refine go_iload (z := 104) dX6_arrive_102 rfl rfl ?_
    refine go_iconst (z := 105) (v := 1) dX6_arrive_104 rfl (by decide) ?_
    refine go_iload (z := 107) dX6_arrive_105 rfl rfl ?_
    refine go_callV (z := 110) (t := 6) [.int (nI t), .int (nI 1), .int (y.1.1 3)] dX6_arrive_107 rfl mlX6_addToHouse vX6_70 ⟨by decide, rfl⟩ hM rfl rfl (by decide) (cat_i (cat_i (cat_i cat_nil))) (by simp) (by decide) (by first | decide | omega) (by first | decide | omega) (c_mAddHouse hX ht6 (by omega)) ?_
    refine ret_elim ?_
    refine go_aload_n (z := 111) dX6_arrive_110 rfl rfl ?_
    refine go_iload (z := 113) dX6_arrive_111 rfl rfl ?_
    refine go_iconst (z := 114) (v := 3) dX6_arrive_113 rfl (by decide) ?_
    refine go_iconst (z := 115) (v := 0) dX6_arrive_114 rfl (by decide) ?_
    rw [g1]
    refine go_callV (z := 118) (t := 6) [.int (nI t), .int (nI 3), .int 0] dX6_arrive_115 rfl mlX6_setHouse vX6_77 ⟨by decide, rfl⟩ hM rfl rfl (by decide) (cat_i (cat_i (cat_i cat_nil))) (by simp) (by decide) (by first | decide | omega) (by first | decide | omega) (c_mSetHouse hX ht6 (by omega)) ?_
    refine ret_elim ?_
    refine go_aload_n (z := 119) dX6_arrive_118 rfl rfl ?_
    refine go_iload (z := 121) dX6_arrive_119 rfl rfl ?_
    refine go_callV (z := 124) (t := 6) [.int (nI t)] dX6_arrive_121 rfl mlX6_sendWhatItCan vX6_80 ⟨by decide, rfl⟩ hM rfl rfl (by decide) (cat_i cat_nil) (by simp) (by decide) (by first | decide | omega) (by first | decide | omega) (c_mSendW hX hE ht6 (RelS.of hA2 (by omega : o ≤ o + 15)) (by rw [hA2.len, hel]; show c + (m.2.2.2.1 t).length < 144; omega)) ?_
    refine sq_elim (fun s5 hs5 => ?_)
    refine go_goto (z := 138) dX6_arrive_124 (by decide) ?_
    exact go_vret dX6_arrive_138 rfl ⟨rfl, rfl, rfl, s5, rfl, hs5⟩
  · have hb0 : y.2 = 0 := by
      rcases hB with ⟨-, b1⟩ | ⟨e, -, b2⟩
      · exact b1
      · rw [hn] at b2; cases b2
    rw [← bs_erase0 hj hb0] at hT
    rw [k3, if_pos rfl]
    have g2 : rTake s c j 2 = m.1 8 := hT.1 2 (by omega) (by omega) (by omega)
    refine go_tabOut (z := 127) dX6_arrive_46 (by decide) (by decide) ?_
    refine go_aload_n (z := 128) dX6_arrive_127 rfl rfl ?_
    refine go_getR (z := 131) dX6_arrive_128 rfl fX6_7 (by assumption) rfl (by assumption) ?_
    refine go_iconst (z := 132) (v := 2) dX6_arrive_131 rfl (by decide) ?_
    refine go_dup2 (z := 133) dX6_arrive_132 rfl rfl rfl ?_
    refine go_ialdM (z := 134) 2 (by assumption) (by decide) rfl (by omega) dX6_arrive_133 rfl ?_
    refine go_iload (z := 136) dX6_arrive_134 rfl rfl ?_
    refine go_iadd (z := 137) dX6_arrive_136 rfl ?_
    refine go_iastM (z := 138) 2 (by assumption) (by decide) rfl (by omega) dX6_arrive_137 rfl ?_
    rw [g2]
    exact go_vret dX6_arrive_138 rfl ⟨rfl, rfl, rfl, _, rfl, RelS.of (hT.z (w := 2) (by omega) (by omega) (by omega)) (by omega)⟩
end MARRVW
