/-! total, pass, makeGood at the reference -/
section MRUN
variable {l : Launch} {G : GG} {n : Nat} {i : IP} {r : RP} {M : Nat} {E : EE} {Gd : Nat → Prop} {O : Nat} {A : AP}
theorem aTot_ix (A : AP) : aTot A (nI 0) = A.1.1 0 ∧ aTot A (nI 1) = A.1.1 7 ∧ aTot A (nI 2) = A.1.1 8 ∧ aTot A (nI 3) = sumH A.1.2.2.1 1 6 ∧ aTot A (nI 4) = gsum A.1.2.2.2.2 ∧ aTot A (nI 5) = A.1.1 9 ∧ aTot A (nI 6) = nI A.1.2.2.2.2.length ∧ aTot A (nI 7) = cntB A.1.2.2.1 6 ∧ aTot A (nI 8) = A.1.1 10 ∧ aTot A (nI 9) = A.1.1 11 ∧ aTot A (nI 10) = A.1.1 12 ∧ aTot A (nI 11) = b2i (mQuiet A.1) ∧ aTot A (nI 12) = b2i (mIdle A.1) ∧ aTot A (nI 13) = A.1.1 1 ∧ aTot A (nI 14) = A.1.1 2 ∧ aTot A (nI 15) = nI A.2.1.length ∧ aTot A (nI 16) = nI A.2.2.2.2.2 := ⟨rfl, rfl, rfl, rfl, rfl, rfl, rfl, rfl, rfl, rfl, rfl, rfl, rfl, rfl, rfl, rfl, rfl⟩
theorem aTot_out {k : Int32} (h : k.toInt < 0 ∨ 16 < k.toInt) : aTot A k = -2 := by
  unfold aTot
  have e15 : (15 : Int32).toInt = 15 := by decide
  have e16 : (16 : Int32).toInt = 16 := by decide
  rw [if_neg (fun q => by rw [q, e15] at h; omega), if_neg (fun q => by rw [q, e16] at h; omega)]
  exact tellS_out (by omega)
theorem c_mTot {k : Int32} (hY : MoY G n M r) (hR : RefR E Gd O A M i) : Go l G mX6_total 3 0 0 0 (lentry [.ref M, .int k] 2) [] n i r (RetI (aTot A k) n i r) := by
  obtain ⟨⟨hM, hr0, hs⟩, ⟨hr1, hr3, hr5, hr6, hr8, hr12⟩, hA2, hA3, hA4, hA5, hA6, hA7⟩ := id hY
  obtain ⟨hR1, hR2, hR4, hR5, hR7, hR8, hR9⟩ := id hR
  obtain ⟨β, qs, ps, ml, o, ho, hA⟩ := id hR1
  have hA : RelA E Gd β qs ps ml o A.1 (i (M + 1)) := hA
  have hX := hY.1
  have h144 := hA.2.2.2.2.2.2.1.2.1
  have s4 := hA.2.2.2.2.2.2.1.1
  obtain ⟨t0, t1, t2, t3, t4, t5, t6, t7, t8, t9, t10, t11, t12, t13, t14, t15, t16⟩ := aTot_ix A
  have sc : ∀ w, w < 12 → w ≠ 4 → w ≠ 10 → i (M + 1) w = A.1.1 (zP w) := hA.1
  refine go_iload_n (z := 1) dX6_total_0 rfl rfl ?_
  refine go_tabS (z := 194) dX6_total_1 (by decide) (fun hk => ?_) (fun q hk hk1 hk2 => ?_)
  · rw [aTot_out (by omega)]
    refine go_bipush (z := 196) (v := (-2)) dX6_total_194 rfl (by decide) ?_
    exact go_iret dX6_total_196 rfl ret_ok
  · rcases (show q = 0 ∨ q = 1 ∨ q = 2 ∨ q = 3 ∨ q = 4 ∨ q = 5 ∨ q = 6 ∨ q = 7 ∨ q = 8 ∨ q = 9 ∨ q = 10 ∨ q = 11 ∨ q = 12 ∨ q = 13 ∨ q = 14 ∨ q = 15 ∨ q = 16 by omega) with rfl | rfl | rfl | rfl | rfl | rfl | rfl | rfl | rfl | rfl | rfl | rfl | rfl | rfl | rfl | rfl | rfl
    · have ek := toInt_nI (w := 0) hk (by omega)
      subst ek
      refine go_tabIn (z := 84) 0 dX6_total_1 hk (by decide) (by decide) rfl (by decide) ?_
      refine go_aload_n (z := 85) dX6_total_84 rfl rfl ?_
      refine go_getR (z := 88) dX6_total_85 rfl fX6_7 (by assumption) rfl (by assumption) ?_
      refine go_iload_n (z := 89) dX6_total_88 rfl rfl ?_
      refine go_iald (z := 90) 0 (by assumption) (by decide) rfl (by omega) dX6_total_89 rfl ?_
      rw [t0, sc 0 (by omega) (by omega) (by omega)]
      exact go_iret dX6_total_90 rfl ret_ok
    · have ek := toInt_nI (w := 1) hk (by omega)
      subst ek
      refine go_tabIn (z := 84) 1 dX6_total_1 hk (by decide) (by decide) rfl (by decide) ?_
      refine go_aload_n (z := 85) dX6_total_84 rfl rfl ?_
      refine go_getR (z := 88) dX6_total_85 rfl fX6_7 (by assumption) rfl (by assumption) ?_
      refine go_iload_n (z := 89) dX6_total_88 rfl rfl ?_
      refine go_iald (z := 90) 1 (by assumption) (by decide) rfl (by omega) dX6_total_89 rfl ?_
      rw [t1, sc 1 (by omega) (by omega) (by omega)]
      exact go_iret dX6_total_90 rfl ret_ok
    · have ek := toInt_nI (w := 2) hk (by omega)
      subst ek
      refine go_tabIn (z := 84) 2 dX6_total_1 hk (by decide) (by decide) rfl (by decide) ?_
      refine go_aload_n (z := 85) dX6_total_84 rfl rfl ?_
      refine go_getR (z := 88) dX6_total_85 rfl fX6_7 (by assumption) rfl (by assumption) ?_
      refine go_iload_n (z := 89) dX6_total_88 rfl rfl ?_
      refine go_iald (z := 90) 2 (by assumption) (by decide) rfl (by omega) dX6_total_89 rfl ?_
      rw [t2, sc 2 (by omega) (by omega) (by omega)]
      exact go_iret dX6_total_90 rfl ret_ok
    · have ek := toInt_nI (w := 3) hk (by omega)
      subst ek
      refine go_tabIn (z := 91) 3 dX6_total_1 hk (by decide) (by decide) rfl (by decide) ?_
      refine go_aload_n (z := 92) dX6_total_91 rfl rfl ?_
      refine go_iconst (z := 93) (v := 1) dX6_total_92 rfl (by decide) ?_
      refine go_callV (z := 96) (t := 6) [.int (nI 1)] dX6_total_93 rfl mlX6_sumOfHouses vX6_100 ⟨by decide, rfl⟩ hM rfl rfl (by decide) (cat_i cat_nil) (by simp) (by decide) (by first | decide | omega) (by first | decide | omega) (at_i (a := M + 1) (c_mSumH hX (by omega))) ?_
      refine ret_elim ?_
      rw [t3, hA.sumHs]
      exact go_iret dX6_total_96 rfl ret_ok
    · have ek := toInt_nI (w := 4) hk (by omega)
      subst ek
      refine go_tabIn (z := 97) 4 dX6_total_1 hk (by decide) (by decide) rfl (by decide) ?_
      refine go_aload_n (z := 98) dX6_total_97 rfl rfl ?_
      refine go_callV (z := 101) (t := 6) [] dX6_total_98 rfl mlX6_grainsOnWay vX6_175 ⟨by decide, rfl⟩ hM rfl rfl (by decide) cat_nil (by simp) (by decide) (by first | decide | omega) (by first | decide | omega) (at_i (a := M + 1) (c_mGrainsW hX s4 h144)) ?_
      refine ret_elim ?_
      rw [t4, hA.grains]
      exact go_iret dX6_total_101 rfl ret_ok
    · have ek := toInt_nI (w := 5) hk (by omega)
      subst ek
      refine go_tabIn (z := 102) 5 dX6_total_1 hk (by decide) (by decide) rfl (by decide) ?_
      refine go_aload_n (z := 103) dX6_total_102 rfl rfl ?_
      refine go_getR (z := 106) dX6_total_103 rfl fX6_7 (by assumption) rfl (by assumption) ?_
      refine go_iconst (z := 107) (v := 3) dX6_total_106 rfl (by decide) ?_
      refine go_iald (z := 108) 3 (by assumption) (by decide) rfl (by omega) dX6_total_107 rfl ?_
      rw [t5, sc 3 (by omega) (by omega) (by omega)]
      exact go_iret dX6_total_108 rfl ret_ok
    · have ek := toInt_nI (w := 6) hk (by omega)
      subst ek
      refine go_tabIn (z := 109) 6 dX6_total_1 hk (by decide) (by decide) rfl (by decide) ?_
      refine go_aload_n (z := 110) dX6_total_109 rfl rfl ?_
      refine go_getR (z := 113) dX6_total_110 rfl fX6_7 (by assumption) rfl (by assumption) ?_
      refine go_iconst (z := 114) (v := 4) dX6_total_113 rfl (by decide) ?_
      refine go_iald (z := 115) 4 (by assumption) (by decide) rfl (by omega) dX6_total_114 rfl ?_
      rw [t6, s4, hA.len]
      exact go_iret dX6_total_115 rfl ret_ok
    · have ek := toInt_nI (w := 7) hk (by omega)
      subst ek
      refine go_tabIn (z := 116) 7 dX6_total_1 hk (by decide) (by decide) rfl (by decide) ?_
      refine go_aload_n (z := 117) dX6_total_116 rfl rfl ?_
      refine go_iconst (z := 118) (v := 0) dX6_total_117 rfl (by decide) ?_
      refine go_callV (z := 121) (t := 6) [.int (nI 0)] dX6_total_118 rfl mlX6_sumOfHouses vX6_100 ⟨by decide, rfl⟩ hM rfl rfl (by decide) (cat_i cat_nil) (by simp) (by decide) (by first | decide | omega) (by first | decide | omega) (at_i (a := M + 1) (c_mSumH hX (by omega))) ?_
      refine ret_elim ?_
      rw [t7, hA.busy]
      exact go_iret dX6_total_121 rfl ret_ok
    · have ek := toInt_nI (w := 8) hk (by omega)
      subst ek
      refine go_tabIn (z := 122) 8 dX6_total_1 hk (by decide) (by decide) rfl (by decide) ?_
      refine go_aload_n (z := 123) dX6_total_122 rfl rfl ?_
      refine go_getR (z := 126) dX6_total_123 rfl fX6_7 (by assumption) rfl (by assumption) ?_
      refine go_iconst (z := 127) (v := 5) dX6_total_126 rfl (by decide) ?_
      refine go_iald (z := 128) 5 (by assumption) (by decide) rfl (by omega) dX6_total_127 rfl ?_
      rw [t8, sc 5 (by omega) (by omega) (by omega)]
      exact go_iret dX6_total_128 rfl ret_ok
    · have ek := toInt_nI (w := 9) hk (by omega)
      subst ek
      refine go_tabIn (z := 129) 9 dX6_total_1 hk (by decide) (by decide) rfl (by decide) ?_
      refine go_aload_n (z := 130) dX6_total_129 rfl rfl ?_
      refine go_getR (z := 133) dX6_total_130 rfl fX6_7 (by assumption) rfl (by assumption) ?_
      refine go_bipush (z := 135) (v := 6) dX6_total_133 rfl (by decide) ?_
      refine go_iald (z := 136) 6 (by assumption) (by decide) rfl (by omega) dX6_total_135 rfl ?_
      rw [t9, sc 6 (by omega) (by omega) (by omega)]
      exact go_iret dX6_total_136 rfl ret_ok
    · have ek := toInt_nI (w := 10) hk (by omega)
      subst ek
      refine go_tabIn (z := 137) 10 dX6_total_1 hk (by decide) (by decide) rfl (by decide) ?_
      refine go_aload_n (z := 138) dX6_total_137 rfl rfl ?_
      refine go_getR (z := 141) dX6_total_138 rfl fX6_7 (by assumption) rfl (by assumption) ?_
      refine go_bipush (z := 143) (v := 7) dX6_total_141 rfl (by decide) ?_
      refine go_iald (z := 144) 7 (by assumption) (by decide) rfl (by omega) dX6_total_143 rfl ?_
      rw [t10, sc 7 (by omega) (by omega) (by omega)]
      exact go_iret dX6_total_144 rfl ret_ok
    · have ek := toInt_nI (w := 11) hk (by omega)
      subst ek
      refine go_tabIn (z := 145) 11 dX6_total_1 hk (by decide) (by decide) rfl (by decide) ?_
      refine go_aload_n (z := 146) dX6_total_145 rfl rfl ?_
      refine go_callV (z := 149) (t := 6) [] dX6_total_146 rfl mlX6_isQuiet vX6_178 ⟨by decide, rfl⟩ hM rfl rfl (by decide) cat_nil (by simp) (by decide) (by first | decide | omega) (by first | decide | omega) (at_i (a := M + 1) (c_mQuiet hX)) ?_
      refine ret_elim ?_
      rw [sc 1 (by omega) (by omega) (by omega), sc 2 (by omega) (by omega) (by omega), t11]
      show Go l G mX6_total _ _ _ 149 _ (.int (b2i (mQuiet A.1)) :: _) n i r _
      cases hb : mQuiet A.1 with
      | true =>
        refine go_if_eq (z := 156) (z2 := 152) dX6_total_149 rfl (by decide) (fun h => absurd h (by decide)) (fun _ => ?_)
        refine go_iconst (z := 153) (v := 1) dX6_total_152 rfl (by decide) ?_
        refine go_goto (z := 157) dX6_total_153 (by decide) ?_
        exact go_iret dX6_total_157 rfl ret_ok
      | false =>
        refine go_if_eq (z := 156) (z2 := 152) dX6_total_149 rfl (by decide) (fun _ => ?_) (fun h => absurd rfl h)
        refine go_iconst (z := 157) (v := 0) dX6_total_156 rfl (by decide) ?_
        exact go_iret dX6_total_157 rfl ret_ok
    · have ek := toInt_nI (w := 12) hk (by omega)
      subst ek
      refine go_tabIn (z := 158) 12 dX6_total_1 hk (by decide) (by decide) rfl (by decide) ?_
      refine go_aload_n (z := 159) dX6_total_158 rfl rfl ?_
      refine go_callV (z := 162) (t := 6) [] dX6_total_159 rfl mlX6_isIdle vX6_181 ⟨by decide, rfl⟩ hM rfl rfl (by decide) cat_nil (by simp) (by decide) (by first | decide | omega) (by first | decide | omega) (at_i (a := M + 1) (c_mIdle hX s4 h144)) ?_
      refine ret_elim ?_
      rw [hA.idle, t12]
      cases hb : mIdle A.1 with
      | true =>
        refine go_if_eq (z := 169) (z2 := 165) dX6_total_162 rfl (by decide) (fun h => absurd h (by decide)) (fun _ => ?_)
        refine go_iconst (z := 166) (v := 1) dX6_total_165 rfl (by decide) ?_
        refine go_goto (z := 170) dX6_total_166 (by decide) ?_
        exact go_iret dX6_total_170 rfl ret_ok
      | false =>
        refine go_if_eq (z := 169) (z2 := 165) dX6_total_162 rfl (by decide) (fun _ => ?_) (fun h => absurd rfl h)
        refine go_iconst (z := 170) (v := 0) dX6_total_169 rfl (by decide) ?_
        exact go_iret dX6_total_170 rfl ret_ok
    · have ek := toInt_nI (w := 13) hk (by omega)
      subst ek
      refine go_tabIn (z := 171) 13 dX6_total_1 hk (by decide) (by decide) rfl (by decide) ?_
      refine go_aload_n (z := 172) dX6_total_171 rfl rfl ?_
      refine go_getR (z := 175) dX6_total_172 rfl fX6_7 (by assumption) rfl (by assumption) ?_
      refine go_bipush (z := 177) (v := 8) dX6_total_175 rfl (by decide) ?_
      refine go_iload_n (z := 178) dX6_total_177 rfl rfl ?_
      refine go_iadd (z := 179) dX6_total_178 rfl ?_
      refine go_bipush (z := 181) (v := 13) dX6_total_179 rfl (by decide) ?_
      refine go_isub (z := 182) dX6_total_181 rfl ?_
      refine go_iald (z := 183) 8 (by assumption) (by decide) rfl (by omega) dX6_total_182 rfl ?_
      rw [t13, sc 8 (by omega) (by omega) (by omega)]
      exact go_iret dX6_total_183 rfl ret_ok
    · have ek := toInt_nI (w := 14) hk (by omega)
      subst ek
      refine go_tabIn (z := 171) 14 dX6_total_1 hk (by decide) (by decide) rfl (by decide) ?_
      refine go_aload_n (z := 172) dX6_total_171 rfl rfl ?_
      refine go_getR (z := 175) dX6_total_172 rfl fX6_7 (by assumption) rfl (by assumption) ?_
      refine go_bipush (z := 177) (v := 8) dX6_total_175 rfl (by decide) ?_
      refine go_iload_n (z := 178) dX6_total_177 rfl rfl ?_
      refine go_iadd (z := 179) dX6_total_178 rfl ?_
      refine go_bipush (z := 181) (v := 13) dX6_total_179 rfl (by decide) ?_
      refine go_isub (z := 182) dX6_total_181 rfl ?_
      refine go_iald (z := 183) 9 (by assumption) (by decide) rfl (by omega) dX6_total_182 rfl ?_
      rw [t14, sc 9 (by omega) (by omega) (by omega)]
      exact go_iret dX6_total_183 rfl ret_ok
    · have ek := toInt_nI (w := 15) hk (by omega)
      subst ek
      refine go_tabIn (z := 184) 15 dX6_total_1 hk (by decide) (by decide) rfl (by decide) ?_
      refine go_aload_n (z := 185) dX6_total_184 rfl rfl ?_
      refine go_getI (z := 188) dX6_total_185 rfl fX6_35 (by assumption) rfl ?_
      rw [t15, hR2.1]
      exact go_iret dX6_total_188 rfl ret_ok
    · have ek := toInt_nI (w := 16) hk (by omega)
      subst ek
      refine go_tabIn (z := 189) 16 dX6_total_1 hk (by decide) (by decide) rfl (by decide) ?_
      refine go_aload_n (z := 190) dX6_total_189 rfl rfl ?_
      refine go_getI (z := 193) dX6_total_190 rfl fX6_110 (by assumption) rfl ?_
      rw [t16, hR7]
      exact go_iret dX6_total_193 rfl ret_ok
theorem RefR.mono {O' : Nat} (h : RefR E Gd O A M i) (hO : O ≤ O') : RefR E Gd O' A M i := by
  obtain ⟨h1, ⟨h2, h3, h4⟩, h5, h6, h7⟩ := h
  exact ⟨h1.mono hO, ⟨h2, h3, fun j m hm => (h4 j m hm).mono hO⟩, h5, fun hk => (h6 hk).mono hO, h7⟩
theorem c_mPass {x : Int32} {T K : Nat} (hY : MoY G n M r) (hE : EOk E Gd) (hW : EW E Gd) (hI : Inv E Gd T T (fun _ => T) A.1) (hT : T ≤ 1000000) (hP : PI E K A.1) (hK : K ≤ 2 ^ 30) (hR : RefR E Gd O A M i) (hO : O + 216000 < 2 ^ 31) : Go l G mX6_pass 7 0 0 0 (lentry [.ref M, .int x] 3) [] n i r (PQ (aPass E A x).1 (RefR E Gd (O + 216000) (aPass E A x).2 M) M n i r) := by
  obtain ⟨⟨hM, hr0, hs⟩, ⟨hr1, hr3, hr5, hr6, hr8, hr12⟩, hA2, hA3, hA4, hA5, hA6, hA7⟩ := id hY
  have hX := hY.1
  have hRO := hR.mono (show O ≤ O + 216000 by omega)
  have s0 : i (M + 1) 0 = A.1.1 0 := hR.1.sc 0 (by omega) (by omega) (by omega)
  unfold aPass
  refine go_iload_n (z := 1) dX6_pass_0 rfl rfl ?_
  refine go_iconst (z := 2) (v := 1) dX6_pass_1 rfl (by decide) ?_
  refine go_bipush (z := 4) (v := 100) dX6_pass_2 rfl (by decide) ?_
  refine go_callS (z := 7) [.int x, .int 1, .int 100] dX6_pass_4 rfl mlX6_in sX6_31 rfl rfl (by decide) (cat_i (cat_i (cat_i cat_nil))) (by simp) (by decide) (by first | decide | omega) (by first | decide | omega) (c_mIn) ?_
  refine ret_elim ?_
  refine go_if_ne (z := 13) (z2 := 10) dX6_pass_7 rfl (by decide) (fun hx => ?_) (fun h => ?_)
  · obtain ⟨x1, x2⟩ := of_decide_eq_true (b2i_ne hx)
    rw [if_pos ⟨x1, x2⟩]
    refine go_aload_n (z := 14) dX6_pass_13 rfl rfl ?_
    refine go_getR (z := 17) dX6_pass_14 rfl fX6_7 (by assumption) rfl (by assumption) ?_
    refine go_iconst (z := 18) (v := 0) dX6_pass_17 rfl (by decide) ?_
    refine go_iald (z := 19) 0 (by assumption) (by decide) rfl (by omega) dX6_pass_18 rfl ?_
    refine go_iload_n (z := 20) dX6_pass_19 rfl rfl ?_
    refine go_iadd (z := 21) dX6_pass_20 rfl ?_
    refine go_ldc (z := 23) dX6_pass_21 rfl kX6_148 ?_
    rw [s0]
    refine go_icmp_le (z := 29) (z2 := 26) dX6_pass_23 rfl (by decide) (fun hle => ?_) (fun hn => ?_)
    · rw [if_pos hle]
      obtain ⟨k, hk, ek⟩ := nI_of (x := x) (fun q => absurd (Int32.lt_of_lt_of_le q (Int32.le_trans (by decide : (0 : Int32) ≤ 1) x1)) Int32.lt_irrefl)
      subst ek
      have k2 := (nI_leI (b := 100) hk (by omega)).mp x2
      rw [nI_clamp hk]
      have loop : ∀ d j T m s, j + d = k → RelS E Gd (O + 2160 * j) [] m s → Inv E Gd T T (fun _ => T) m → T + d ≤ 1000100 → PI E K m → Go l G mX6_pass 7 0 0 35 [some (.ref M), some (.int (nI k)), some (.int (nI j))] [] n (upr (recI i M A.2.1.length) (M + 1) s) r (PQ ((mTicks E d m).1 0) (RefR E Gd (O + 216000) (aR A (mTicks E d m)) M) M n i r) := by
        intro d
        induction d with
        | zero =>
          intro j T m s hj hS hI hT hP
          have hj : j = k := by omega
          subst hj
          refine go_iload_n (z := 36) dX6_pass_35 rfl rfl ?_
          refine go_iload_n (z := 37) dX6_pass_36 rfl rfl ?_
          refine go_icmp_ge (z := 50) (z2 := 40) dX6_pass_37 rfl (by decide) (fun _ => ?_) (fun h => absurd (Int32.le_refl _) h)
          refine go_aload_n (z := 51) dX6_pass_50 rfl rfl ?_
          refine go_getR (z := 54) dX6_pass_51 rfl fX6_7 (by assumption) rfl (by assumption) ?_
          refine go_iconst (z := 55) (v := 0) dX6_pass_54 rfl (by decide) ?_
          refine go_ialdM (z := 56) 0 (by assumption) (by decide) rfl (by omega) dX6_pass_55 rfl ?_
          rw [hS.sc 0 (by omega) (by omega) (by omega)]
          exact go_iret dX6_pass_56 rfl ⟨rfl, rfl, rfl, recI_out.tr (OutM.pr (a := M + 1) (by omega) (by omega)), hRO.aR (hS.mono (by omega))⟩
        | succ d ih =>
          intro j T m s hj hS hI hT hP
          refine go_iload_n (z := 36) dX6_pass_35 rfl rfl ?_
          refine go_iload_n (z := 37) dX6_pass_36 rfl rfl ?_
          refine go_icmp_ge (z := 50) (z2 := 40) dX6_pass_37 rfl (by decide) (fun h => absurd ((nI_leI (by omega) (by omega)).mp h) (by omega)) (fun _ => ?_)
          refine go_aload_n (z := 41) dX6_pass_40 rfl rfl ?_
          refine go_callV (z := 44) (t := 6) [] dX6_pass_41 rfl mlX6_tick vX6_149 ⟨by decide, rfl⟩ hM rfl rfl (by decide) cat_nil (by simp) (by decide) (by first | decide | omega) (by first | decide | omega) (c_mTick hX hE hW hI (by omega) hP hK hS (by omega)) ?_
          refine sq_elim (fun s5 hs5 => ?_)
          refine go_iinc (z := 47) dX6_pass_44 rfl rfl (nI_1 j) (by decide) ?_
          refine go_goto (z := 35) dX6_pass_47 (by decide) ?_
          exact ih (j + 1) (T + 1) (mTick E m) s5 (by omega) (by rw [show O + 2160 * (j + 1) = O + 2160 * j + 2160 by omega]; exact hs5) (hI.tick hE (by omega)).2 (by omega) (hI.tickP hE hW (by omega) hP hK).2
      refine go_aload_n (z := 30) dX6_pass_29 rfl rfl ?_
      refine go_callV (z := 33) (t := 6) [] dX6_pass_30 rfl mlX6_record vX6_107 ⟨by decide, rfl⟩ hM rfl rfl (by decide) cat_nil (by simp) (by decide) (by first | decide | omega) (by first | decide | omega) (c_mRecord hY hR.2.1.1 hR.2.1.2.1) ?_
      refine ret_elim ?_
      refine go_iconst (z := 34) (v := 0) dX6_pass_33 rfl (by decide) ?_
      refine go_istore_n (z := 35) dX6_pass_34 rfl (by decide) ?_
      have key := loop k 0 T A.1 (i (M + 1)) (by omega) hR.1 hI (by omega) hP
      rw [← recI_1 (i := i) (M := M) (c := A.2.1.length), upr_id] at key
      exact key
    · rw [if_neg hn]
      refine go_bipush (z := 28) (v := (-3)) dX6_pass_26 rfl (by decide) ?_
      exact go_iret dX6_pass_28 rfl (pq_same hRO)
  · rw [if_neg (fun q => b2i_no h (fun _ => decide_eq_true q) trivial)]
    refine go_bipush (z := 12) (v := (-2)) dX6_pass_10 rfl (by decide) ?_
    exact go_iret dX6_pass_12 rfl (pq_same hRO)
theorem c_mGood (hY : MoY G n M r) (hE : EOk E Gd) (hok : GoodOk E Gd (mGood0 A.1)) (hR : RefR E Gd O A M i) : Go l G mX6_makeGood 4 0 0 0 (lentry [.ref M] 3) [] n i r (PQ (aGood E A).1 (RefR E Gd O (aGood E A).2 M) M n i r) := by
  obtain ⟨⟨hM, hr0, hs⟩, ⟨hr1, hr3, hr5, hr6, hr8, hr12⟩, hA2, hA3, hA4, hA5, hA6, hA7⟩ := id hY
  have hX := hY.1
  have hS := hR.1
  have s11 : i (M + 1) 11 = A.1.1 13 := hS.sc 11 (by omega) (by omega) (by omega)
  have s3 : i (M + 1) 3 = A.1.1 9 := hS.sc 3 (by omega) (by omega) (by omega)
  have s2 : i (M + 1) 2 = A.1.1 8 := hS.sc 2 (by omega) (by omega) (by omega)
  unfold aGood
  refine go_aload_n (z := 1) dX6_makeGood_0 rfl rfl ?_
  refine go_getR (z := 4) dX6_makeGood_1 rfl fX6_7 (by assumption) rfl (by assumption) ?_
  refine go_bipush (z := 6) (v := 11) dX6_makeGood_4 rfl (by decide) ?_
  refine go_iald (z := 7) 11 (by assumption) (by decide) rfl (by omega) dX6_makeGood_6 rfl ?_
  rw [s11]
  refine go_if_ne (z := 13) (z2 := 10) dX6_makeGood_7 rfl (by decide) (fun hn => ?_) (fun h => ?_)
  · rw [if_neg hn]
    have loop : ∀ d q s, q + d = 6 → RelS E Gd O [] (mGoodN E q (mGood0 A.1)) s → Go l G mX6_makeGood 4 0 0 51 [some (.ref M), some (.int (A.1.1 9)), some (.int (nI q))] [] n (upr (recI i M A.2.1.length) (M + 1) s) r (PQ (A.1.1 9) (RefR E Gd O (aR A (mGood E A.1)) M) M n i r) := by
      intro d
      induction d with
      | zero =>
        intro q s hq hS
        have hq : q = 6 := by omega
        subst hq
        refine go_iload_n (z := 52) dX6_makeGood_51 rfl rfl ?_
        refine go_bipush (z := 54) (v := 6) dX6_makeGood_52 rfl (by decide) ?_
        refine go_icmp_ge (z := 94) (z2 := 57) dX6_makeGood_54 rfl (by decide) (fun _ => ?_) (fun h => absurd (by decide) h)
        refine go_iload_n (z := 95) dX6_makeGood_94 rfl rfl ?_
        exact go_iret dX6_makeGood_95 rfl ⟨rfl, rfl, rfl, recI_out.tr (OutM.pr (a := M + 1) (by omega) (by omega)), hR.aR hS⟩
      | succ d ih =>
        intro q s hq hS
        have hq6 : q < 6 := by omega
        obtain ⟨hc, -⟩ := hok q hq6
        have eN : mGoodN E (q + 1) (mGood0 A.1) = mGoodH E q (mGoodN E q (mGood0 A.1)) := rfl
        obtain ⟨β, qs, ps, nw, o, ho, hA⟩ := id hS
        generalize mGoodN E q (mGood0 A.1) = m1 at hS hc eN hA
        have g8 : hF s q 8 = m1.2.2.1 q 5 := (hA.2.2.1 q hq6).1 8 (by omega)
        have h01 := (hA.2.2.1 q hq6).2.2.2.1
        have step : ∀ s'', RelS E Gd O [] (mGoodH E q m1) s'' → Go l G mX6_makeGood 4 0 0 88 [some (.ref M), some (.int (A.1.1 9)), some (.int (nI q))] [] n (upr (recI i M A.2.1.length) (M + 1) s'') r (PQ (A.1.1 9) (RefR E Gd O (aR A (mGood E A.1)) M) M n i r) := by
          intro s'' hS2
          refine go_iinc (z := 91) dX6_makeGood_88 rfl rfl (nI_1 q) (by decide) ?_
          refine go_goto (z := 51) dX6_makeGood_91 (by decide) ?_
          exact ih (q + 1) s'' (by omega) (by rw [eN]; exact hS2)
        refine go_iload_n (z := 52) dX6_makeGood_51 rfl rfl ?_
        refine go_bipush (z := 54) (v := 6) dX6_makeGood_52 rfl (by decide) ?_
        refine go_icmp_ge (z := 94) (z2 := 57) dX6_makeGood_54 rfl (by decide) (fun h => absurd ((nI_leI (a := 6) (by omega) (by omega)).mp h) (by omega)) (fun _ => ?_)
        refine go_aload_n (z := 58) dX6_makeGood_57 rfl rfl ?_
        refine go_iload_n (z := 59) dX6_makeGood_58 rfl rfl ?_
        refine go_bipush (z := 61) (v := 8) dX6_makeGood_59 rfl (by decide) ?_
        refine go_callV (z := 64) (t := 6) [.int (nI q), .int (nI 8)] dX6_makeGood_61 rfl mlX6_ofHouse vX6_67 ⟨by decide, rfl⟩ hM rfl rfl (by decide) (cat_i (cat_i cat_nil)) (by simp) (by decide) (by first | decide | omega) (by first | decide | omega) (c_mOfHouse hX hq6 (by omega)) ?_
        refine ret_elim ?_
        refine go_iconst (z := 65) (v := 1) dX6_makeGood_64 rfl (by decide) ?_
        rw [g8]
        refine go_icmp_ne (z := 88) (z2 := 68) dX6_makeGood_65 rfl (by decide) (fun hne => ?_) (fun heq => ?_)
        · refine step s ?_
          unfold mGoodH
          rw [if_pos (h01.resolve_right hne)]
          exact hS
        · have eg : mGoodH E q m1 = mSend E q (sH (sH m1 q 5 0) q 4 0) := by
            unfold mGoodH
            rw [if_neg (fun c => by rw [c] at heq; exact absurd heq (by decide))]
          have hS2 : RelS E Gd O [] (sH (sH m1 q 5 0) q 4 0) (uH (uH s q 8 0) q 3 0) := ⟨β, qs, ps, nw, o, ho, (hA.house (w := 8) hq6 (by omega) (fun _ => Or.inl rfl)).house (w := 3) hq6 (by omega) (fun _ => Or.inl rfl)⟩
          refine go_aload_n (z := 69) dX6_makeGood_68 rfl rfl ?_
          refine go_iload_n (z := 70) dX6_makeGood_69 rfl rfl ?_
          refine go_bipush (z := 72) (v := 8) dX6_makeGood_70 rfl (by decide) ?_
          refine go_iconst (z := 73) (v := 0) dX6_makeGood_72 rfl (by decide) ?_
          refine go_callV (z := 76) (t := 6) [.int (nI q), .int (nI 8), .int 0] dX6_makeGood_73 rfl mlX6_setHouse vX6_77 ⟨by decide, rfl⟩ hM rfl rfl (by decide) (cat_i (cat_i (cat_i cat_nil))) (by simp) (by decide) (by first | decide | omega) (by first | decide | omega) (c_mSetHouse hX hq6 (by omega)) ?_
          refine ret_elim ?_
          refine go_aload_n (z := 77) dX6_makeGood_76 rfl rfl ?_
          refine go_iload_n (z := 78) dX6_makeGood_77 rfl rfl ?_
          refine go_iconst (z := 79) (v := 3) dX6_makeGood_78 rfl (by decide) ?_
          refine go_iconst (z := 80) (v := 0) dX6_makeGood_79 rfl (by decide) ?_
          refine go_callV (z := 83) (t := 6) [.int (nI q), .int (nI 3), .int 0] dX6_makeGood_80 rfl mlX6_setHouse vX6_77 ⟨by decide, rfl⟩ hM rfl rfl (by decide) (cat_i (cat_i (cat_i cat_nil))) (by simp) (by decide) (by first | decide | omega) (by first | decide | omega) (c_mSetHouse hX hq6 (by omega)) ?_
          refine ret_elim ?_
          refine go_aload_n (z := 84) dX6_makeGood_83 rfl rfl ?_
          refine go_iload_n (z := 85) dX6_makeGood_84 rfl rfl ?_
          refine go_callV (z := 88) (t := 6) [.int (nI q)] dX6_makeGood_85 rfl mlX6_sendWhatItCan vX6_80 ⟨by decide, rfl⟩ hM rfl rfl (by decide) (cat_i cat_nil) (by simp) (by decide) (by first | decide | omega) (by first | decide | omega) (c_mSendW hX hE hq6 hS2 (by show m1.2.2.2.2.length + (m1.2.2.2.1 q).length < 144; omega)) ?_
          refine sq_elim (fun s5 hs5 => ?_)
          refine step s5 ?_
          rw [eg]
          exact hs5
    refine go_aload_n (z := 14) dX6_makeGood_13 rfl rfl ?_
    refine go_callV (z := 17) (t := 6) [] dX6_makeGood_14 rfl mlX6_record vX6_107 ⟨by decide, rfl⟩ hM rfl rfl (by decide) cat_nil (by simp) (by decide) (by first | decide | omega) (by first | decide | omega) (c_mRecord hY hR.2.1.1 hR.2.1.2.1) ?_
    refine ret_elim ?_
    refine go_i (upr_id (a := M + 1)).symm ?_
    rw [recI_1]
    refine go_aload_n (z := 18) dX6_makeGood_17 rfl rfl ?_
    refine go_getR (z := 21) dX6_makeGood_18 rfl fX6_7 (by assumption) rfl (by assumption) ?_
    refine go_iconst (z := 22) (v := 3) dX6_makeGood_21 rfl (by decide) ?_
    refine go_ialdM (z := 23) 3 (by assumption) (by decide) rfl (by omega) dX6_makeGood_22 rfl ?_
    rw [s3]
    refine go_istore_n (z := 24) dX6_makeGood_23 rfl (by decide) ?_
    refine go_aload_n (z := 25) dX6_makeGood_24 rfl rfl ?_
    refine go_getR (z := 28) dX6_makeGood_25 rfl fX6_7 (by assumption) rfl (by assumption) ?_
    refine go_iconst (z := 29) (v := 2) dX6_makeGood_28 rfl (by decide) ?_
    refine go_dup2 (z := 30) dX6_makeGood_29 rfl rfl rfl ?_
    refine go_ialdM (z := 31) 2 (by assumption) (by decide) rfl (by omega) dX6_makeGood_30 rfl ?_
    rw [s2]
    refine go_iload_n (z := 32) dX6_makeGood_31 rfl rfl ?_
    refine go_iadd (z := 33) dX6_makeGood_32 rfl ?_
    refine go_iastM (z := 34) 2 (by assumption) (by decide) rfl (by omega) dX6_makeGood_33 rfl ?_
    refine go_aload_n (z := 35) dX6_makeGood_34 rfl rfl ?_
    refine go_getR (z := 38) dX6_makeGood_35 rfl fX6_7 (by assumption) rfl (by assumption) ?_
    refine go_iconst (z := 39) (v := 3) dX6_makeGood_38 rfl (by decide) ?_
    refine go_iconst (z := 40) (v := 0) dX6_makeGood_39 rfl (by decide) ?_
    refine go_iastM (z := 41) 3 (by assumption) (by decide) rfl (by omega) dX6_makeGood_40 rfl ?_
    refine go_aload_n (z := 42) dX6_makeGood_41 rfl rfl ?_
    refine go_getR (z := 45) dX6_makeGood_42 rfl fX6_7 (by assumption) rfl (by assumption) ?_
    refine go_bipush (z := 47) (v := 11) dX6_makeGood_45 rfl (by decide) ?_
    refine go_iconst (z := 48) (v := 0) dX6_makeGood_47 rfl (by decide) ?_
    refine go_iastM (z := 49) 11 (by assumption) (by decide) rfl (by omega) dX6_makeGood_48 rfl ?_
    refine go_iconst (z := 50) (v := 0) dX6_makeGood_49 rfl (by decide) ?_
    refine go_istore_n (z := 51) dX6_makeGood_50 rfl (by decide) ?_
    exact loop 6 0 _ rfl (((hS.z (w := 2) (by omega) (by omega) (by omega)).z (w := 3) (by omega) (by omega) (by omega)).z (w := 11) (by omega) (by omega) (by omega))
  · rw [if_pos h]
    refine go_bipush (z := 12) (v := (-5)) dX6_makeGood_10 rfl (by decide) ?_
    exact go_iret dX6_makeGood_12 rfl (pq_same hR)
end MRUN
