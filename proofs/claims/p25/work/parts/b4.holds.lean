/-! P25: holds -/
section PHOLD
variable {l : Launch} {G : GG} {n : Nat} {i : IP} {r : RP} {C : Nat} {E : EE} {Gd : Nat → Prop} {A : AP}
theorem c_holds {T B : Nat} {c0 c1 c3 : Int32} (hV : VW G n C E Gd A i r) (hI : Inv E Gd T T (fun _ => T) A.1) (hK : CI 0 c0 c1 c3 B 0 (fun _ => 0) (fun _ => True) (fun _ => c3 = 0) A.1) (hB : B < 2 ^ 31) (hCc : OkA G n (C + 1105) 7 4) (hc0 : i (C + 1105) 0 = c0) (hc1 : i (C + 1105) 1 = c1) (hc3 : i (C + 1105) 3 = c3) (hEk : EOk E Gd) (hW : EW E Gd) : Go l G mL_holds 5 0 0 0 (lentry [.ref C, .ref (C + 1105)] 3) [] n i r (RetI 1 n i r) := by
  obtain ⟨hL, hC, hE, hgQ, hgM, hl⟩ := id hV
  have okC := hL.1
  obtain ⟨t0, t1, t2, t3, t4, t5, t6, t7, t8, t9, t11, t12, t13, t14⟩ := tot_v (A := A)
  obtain ⟨q0, q1, q5, q6, q7⟩ := hous_v (A := A)
  have e4 : gsum A.1.2.2.2.2 = sumF g3 A.1.2.2.2.2 := (gsum_sumG _).trans (sumG_F _)
  have hM := hK.2.2.2
  obtain ⟨⟨k1, k2, k3, -⟩, -⟩ := id hK
  unfold L1 at k1
  unfold L2 at k2
  unfold L3 at k3
  have f1 : A.1.1 7 = A.1.1 8 + sumH A.1.2.2.1 1 6 + sumF g3 A.1.2.2.2.2 + A.1.1 9 := by grind
  have f2 : sumH A.1.2.2.1 7 6 + A.1.1 10 = sumH A.1.2.2.1 6 6 + sumF (kC 0) A.1.2.2.2.2 + c0 := by grind
  have f3 : A.1.1 11 = A.1.1 10 + sumH A.1.2.2.1 8 6 - sumF (kC 1) A.1.2.2.2.2 - c1 := by grind
  refine go_aload_n (z := 1) dL_holds_0 rfl rfl ?_
  refine go_iconst (z := 2) (v := 1) dL_holds_1 rfl (by decide) ?_
  refine go_callV (z := 5) (t := 5) [.int 1] dL_holds_2 rfl mlX5_total vL_30 ⟨by decide, rfl⟩ okC rfl rfl (by decide) (cat_i cat_nil) (by simp) (by decide) (by first | decide | omega) (by first | decide | omega) (c_ceTot hL hC) ?_
  refine ret_elim ?_
  rw [t1]
  refine go_aload_n (z := 6) dL_holds_5 rfl rfl ?_
  refine go_iconst (z := 7) (v := 2) dL_holds_6 rfl (by decide) ?_
  refine go_callV (z := 10) (t := 5) [.int 2] dL_holds_7 rfl mlX5_total vL_30 ⟨by decide, rfl⟩ okC rfl rfl (by decide) (cat_i cat_nil) (by simp) (by decide) (by first | decide | omega) (by first | decide | omega) (c_ceTot hL hC) ?_
  refine ret_elim ?_
  rw [t2]
  refine go_aload_n (z := 11) dL_holds_10 rfl rfl ?_
  refine go_iconst (z := 12) (v := 3) dL_holds_11 rfl (by decide) ?_
  refine go_callV (z := 15) (t := 5) [.int 3] dL_holds_12 rfl mlX5_total vL_30 ⟨by decide, rfl⟩ okC rfl rfl (by decide) (cat_i cat_nil) (by simp) (by decide) (by first | decide | omega) (by first | decide | omega) (c_ceTot hL hC) ?_
  refine ret_elim ?_
  rw [t3]
  refine go_iadd (z := 16) dL_holds_15 rfl ?_
  refine go_aload_n (z := 17) dL_holds_16 rfl rfl ?_
  refine go_iconst (z := 18) (v := 4) dL_holds_17 rfl (by decide) ?_
  refine go_callV (z := 21) (t := 5) [.int 4] dL_holds_18 rfl mlX5_total vL_30 ⟨by decide, rfl⟩ okC rfl rfl (by decide) (cat_i cat_nil) (by simp) (by decide) (by first | decide | omega) (by first | decide | omega) (c_ceTot hL hC) ?_
  refine ret_elim ?_
  rw [t4, e4]
  refine go_iadd (z := 22) dL_holds_21 rfl ?_
  refine go_aload_n (z := 23) dL_holds_22 rfl rfl ?_
  refine go_iconst (z := 24) (v := 5) dL_holds_23 rfl (by decide) ?_
  refine go_callV (z := 27) (t := 5) [.int 5] dL_holds_24 rfl mlX5_total vL_30 ⟨by decide, rfl⟩ okC rfl rfl (by decide) (cat_i cat_nil) (by simp) (by decide) (by first | decide | omega) (by first | decide | omega) (c_ceTot hL hC) ?_
  refine ret_elim ?_
  rw [t5]
  refine go_iadd (z := 28) dL_holds_27 rfl ?_
  refine go_icmp_ne (z := 115) (z2 := 31) dL_holds_28 rfl (by decide) (fun h => absurd f1 h) (fun _ => ?_)
  refine go_aload_n (z := 32) dL_holds_31 rfl rfl ?_
  refine go_iconst (z := 33) (v := 3) dL_holds_32 rfl (by decide) ?_
  refine go_callV (z := 36) (t := 5) [.int 3] dL_holds_33 rfl mlX5_total vL_30 ⟨by decide, rfl⟩ okC rfl rfl (by decide) (cat_i cat_nil) (by simp) (by decide) (by first | decide | omega) (by first | decide | omega) (c_ceTot hL hC) ?_
  refine ret_elim ?_
  rw [t3]
  refine go_aload_n (z := 37) dL_holds_36 rfl rfl ?_
  refine go_iconst (z := 38) (v := 1) dL_holds_37 rfl (by decide) ?_
  refine go_callS (z := 41) [.ref C, .int 1] dL_holds_38 rfl mlL_houses sL_44 rfl rfl (by decide) (cat_r (cat_i cat_nil)) (by simp) (by decide) (by first | decide | omega) (by first | decide | omega) (c_houses hV) ?_
  refine ret_elim ?_
  rw [q1]
  refine go_icmp_ne (z := 115) (z2 := 44) dL_holds_41 rfl (by decide) (fun h => absurd rfl h) (fun _ => ?_)
  refine go_aload_n (z := 45) dL_holds_44 rfl rfl ?_
  refine go_bipush (z := 47) (v := 7) dL_holds_45 rfl (by decide) ?_
  refine go_callV (z := 50) (t := 5) [.int 7] dL_holds_47 rfl mlX5_total vL_30 ⟨by decide, rfl⟩ okC rfl rfl (by decide) (cat_i cat_nil) (by simp) (by decide) (by first | decide | omega) (by first | decide | omega) (c_ceTot hL hC) ?_
  refine ret_elim ?_
  rw [t7]
  refine go_aload_n (z := 51) dL_holds_50 rfl rfl ?_
  refine go_iconst (z := 52) (v := 0) dL_holds_51 rfl (by decide) ?_
  refine go_callS (z := 55) [.ref C, .int 0] dL_holds_52 rfl mlL_houses sL_44 rfl rfl (by decide) (cat_r (cat_i cat_nil)) (by simp) (by decide) (by first | decide | omega) (by first | decide | omega) (c_houses hV) ?_
  refine ret_elim ?_
  rw [q0]
  refine go_icmp_ne (z := 115) (z2 := 58) dL_holds_55 rfl (by decide) (fun h => absurd rfl h) (fun _ => ?_)
  have c117 : Go l G mL_holds 5 0 0 111 [some (.ref C), some (.ref (C + 1105)), none] [] n i r (RetI 1 n i r) := by
    refine go_iconst (z := 112) (v := 1) dL_holds_111 rfl (by decide) ?_
    refine go_goto (z := 116) dL_holds_112 (by decide) ?_
    refine go_istore_n (z := 117) dL_holds_116 rfl (by decide) ?_
    refine go_iload_n (z := 118) dL_holds_117 rfl rfl ?_
    refine go_if_eq (z := 188) (z2 := 121) dL_holds_118 rfl (by decide) (fun h => absurd h (by decide)) (fun _ => ?_)
    refine go_aload_n (z := 122) dL_holds_121 rfl rfl ?_
    refine go_bipush (z := 124) (v := 6) dL_holds_122 rfl (by decide) ?_
    refine go_callS (z := 127) [.ref C, .int 6] dL_holds_124 rfl mlL_houses sL_44 rfl rfl (by decide) (cat_r (cat_i cat_nil)) (by simp) (by decide) (by first | decide | omega) (by first | decide | omega) (c_houses hV) ?_
    refine ret_elim ?_
    rw [q6]
    refine go_aload_n (z := 128) dL_holds_127 rfl rfl ?_
    refine go_bipush (z := 130) (v := 8) dL_holds_128 rfl (by decide) ?_
    refine go_callV (z := 133) (t := 5) [.int 8] dL_holds_130 rfl mlX5_total vL_30 ⟨by decide, rfl⟩ okC rfl rfl (by decide) (cat_i cat_nil) (by simp) (by decide) (by first | decide | omega) (by first | decide | omega) (c_ceTot hL hC) ?_
    refine ret_elim ?_
    rw [t8]
    refine go_iadd (z := 134) dL_holds_133 rfl ?_
    refine go_aload_n (z := 135) dL_holds_134 rfl rfl ?_
    refine go_iconst (z := 136) (v := 5) dL_holds_135 rfl (by decide) ?_
    refine go_callS (z := 139) [.ref C, .int 5] dL_holds_136 rfl mlL_houses sL_44 rfl rfl (by decide) (cat_r (cat_i cat_nil)) (by simp) (by decide) (by first | decide | omega) (by first | decide | omega) (c_houses hV) ?_
    refine ret_elim ?_
    rw [q5]
    refine go_aload_n (z := 140) dL_holds_139 rfl rfl ?_
    refine go_iconst (z := 141) (v := 0) dL_holds_140 rfl (by decide) ?_
    refine go_callS (z := 144) [.ref C, .int 0] dL_holds_141 rfl mlL_messages sL_48 rfl rfl (by decide) (cat_r (cat_i cat_nil)) (by simp) (by decide) (by first | decide | omega) (by first | decide | omega) (c_messages hV) ?_
    refine ret_elim ?_
    refine go_iadd (z := 145) dL_holds_144 rfl ?_
    refine go_aload_n (z := 146) dL_holds_145 rfl rfl ?_
    refine go_iconst (z := 147) (v := 0) dL_holds_146 rfl (by decide) ?_
    refine go_iald (z := 148) 0 hCc (by decide) rfl (by omega) dL_holds_147 rfl ?_
    refine go_iadd (z := 149) dL_holds_148 rfl ?_
    rw [hc0]
    refine go_icmp_ne (z := 188) (z2 := 152) dL_holds_149 rfl (by decide) (fun h => absurd f2 h) (fun _ => ?_)
    refine go_aload_n (z := 153) dL_holds_152 rfl rfl ?_
    refine go_bipush (z := 155) (v := 9) dL_holds_153 rfl (by decide) ?_
    refine go_callV (z := 158) (t := 5) [.int 9] dL_holds_155 rfl mlX5_total vL_30 ⟨by decide, rfl⟩ okC rfl rfl (by decide) (cat_i cat_nil) (by simp) (by decide) (by first | decide | omega) (by first | decide | omega) (c_ceTot hL hC) ?_
    refine ret_elim ?_
    rw [t9]
    refine go_aload_n (z := 159) dL_holds_158 rfl rfl ?_
    refine go_bipush (z := 161) (v := 8) dL_holds_159 rfl (by decide) ?_
    refine go_callV (z := 164) (t := 5) [.int 8] dL_holds_161 rfl mlX5_total vL_30 ⟨by decide, rfl⟩ okC rfl rfl (by decide) (cat_i cat_nil) (by simp) (by decide) (by first | decide | omega) (by first | decide | omega) (c_ceTot hL hC) ?_
    refine ret_elim ?_
    rw [t8]
    refine go_aload_n (z := 165) dL_holds_164 rfl rfl ?_
    refine go_bipush (z := 167) (v := 7) dL_holds_165 rfl (by decide) ?_
    refine go_callS (z := 170) [.ref C, .int 7] dL_holds_167 rfl mlL_houses sL_44 rfl rfl (by decide) (cat_r (cat_i cat_nil)) (by simp) (by decide) (by first | decide | omega) (by first | decide | omega) (c_houses hV) ?_
    refine ret_elim ?_
    rw [q7]
    refine go_iadd (z := 171) dL_holds_170 rfl ?_
    refine go_aload_n (z := 172) dL_holds_171 rfl rfl ?_
    refine go_iconst (z := 173) (v := 1) dL_holds_172 rfl (by decide) ?_
    refine go_callS (z := 176) [.ref C, .int 1] dL_holds_173 rfl mlL_messages sL_48 rfl rfl (by decide) (cat_r (cat_i cat_nil)) (by simp) (by decide) (by first | decide | omega) (by first | decide | omega) (c_messages hV) ?_
    refine ret_elim ?_
    refine go_isub (z := 177) dL_holds_176 rfl ?_
    refine go_aload_n (z := 178) dL_holds_177 rfl rfl ?_
    refine go_iconst (z := 179) (v := 1) dL_holds_178 rfl (by decide) ?_
    refine go_iald (z := 180) 1 hCc (by decide) rfl (by omega) dL_holds_179 rfl ?_
    refine go_isub (z := 181) dL_holds_180 rfl ?_
    rw [hc1]
    refine go_icmp_ne (z := 188) (z2 := 184) dL_holds_181 rfl (by decide) (fun h => absurd f3 h) (fun _ => ?_)
    refine go_iconst (z := 185) (v := 1) dL_holds_184 rfl (by decide) ?_
    refine go_goto (z := 189) dL_holds_185 (by decide) ?_
    refine go_istore_n (z := 190) dL_holds_189 rfl (by decide) ?_
    refine go_iload_n (z := 191) dL_holds_190 rfl rfl ?_
    refine go_if_eq (z := 213) (z2 := 194) dL_holds_191 rfl (by decide) (fun h => absurd h (by decide)) (fun _ => ?_)
    refine go_aload_n (z := 195) dL_holds_194 rfl rfl ?_
    refine go_callS (z := 198) [.ref C] dL_holds_195 rfl mlL_areMessages sL_51 rfl rfl (by decide) (cat_r cat_nil) (by simp) (by decide) (by first | decide | omega) (by first | decide | omega) (c_areMessages hV hI hM hEk hW) ?_
    refine ret_elim ?_
    refine go_if_eq (z := 213) (z2 := 201) dL_holds_198 rfl (by decide) (fun h => absurd h (by decide)) (fun _ => ?_)
    refine go_aload_n (z := 202) dL_holds_201 rfl rfl ?_
    refine go_aload_n (z := 203) dL_holds_202 rfl rfl ?_
    refine go_callS (z := 206) [.ref C, .ref (C + 1105)] dL_holds_203 rfl mlL_areHouses sL_55 rfl rfl (by decide) (cat_r (cat_r cat_nil)) (by simp) (by decide) (by first | decide | omega) (by first | decide | omega) (c_areHouses hV hI hK hCc hc3 hEk hW) ?_
    refine ret_elim ?_
    refine go_if_eq (z := 213) (z2 := 209) dL_holds_206 rfl (by decide) (fun h => absurd h (by decide)) (fun _ => ?_)
    refine go_iconst (z := 210) (v := 1) dL_holds_209 rfl (by decide) ?_
    refine go_goto (z := 214) dL_holds_210 (by decide) ?_
    exact go_zret dL_holds_214 rfl (congrArg Value.int (by decide)) ret_ok
  have c82 : ∀ v, b2i (mQuiet A.1) = v → Go l G mL_holds 5 0 0 82 [some (.ref C), some (.ref (C + 1105)), none] [.int v, .int (b2i (mQuiet A.1))] n i r (RetI 1 n i r) := by
    intro v hv
    refine go_icmp_ne (z := 115) (z2 := 85) dL_holds_82 rfl (by decide) (fun h => absurd hv h) (fun _ => ?_)
    refine go_aload_n (z := 86) dL_holds_85 rfl rfl ?_
    refine go_bipush (z := 88) (v := 11) dL_holds_86 rfl (by decide) ?_
    refine go_callV (z := 91) (t := 5) [.int 11] dL_holds_88 rfl mlX5_total vL_30 ⟨by decide, rfl⟩ okC rfl rfl (by decide) (cat_i cat_nil) (by simp) (by decide) (by first | decide | omega) (by first | decide | omega) (c_ceTot hL hC) ?_
    refine ret_elim ?_
    rw [t11]
    refine go_if_eq (z := 111) (z2 := 94) dL_holds_91 rfl (by decide) (fun _ => c117) (fun hq => ?_)
    have hQ : mQuiet A.1 = true := by
      cases hq2 : mQuiet A.1 with
      | true => rfl
      | false => rw [hq2] at hq; exact absurd rfl hq
    have hId := hK.quiet (fun x hx => (hI.2.2.2.1 x hx).1) hB hQ
    refine go_aload_n (z := 95) dL_holds_94 rfl rfl ?_
    refine go_bipush (z := 97) (v := 12) dL_holds_95 rfl (by decide) ?_
    refine go_callV (z := 100) (t := 5) [.int 12] dL_holds_97 rfl mlX5_total vL_30 ⟨by decide, rfl⟩ okC rfl rfl (by decide) (cat_i cat_nil) (by simp) (by decide) (by first | decide | omega) (by first | decide | omega) (c_ceTot hL hC) ?_
    refine ret_elim ?_
    rw [t12, hId]
    refine go_iconst (z := 101) (v := 1) dL_holds_100 rfl (by decide) ?_
    exact go_icmp_eq (z := 111) (z2 := 104) dL_holds_101 rfl (by decide) (fun _ => c117) (fun h => absurd rfl h)
  refine go_aload_n (z := 59) dL_holds_58 rfl rfl ?_
  refine go_bipush (z := 61) (v := 11) dL_holds_59 rfl (by decide) ?_
  refine go_callV (z := 64) (t := 5) [.int 11] dL_holds_61 rfl mlX5_total vL_30 ⟨by decide, rfl⟩ okC rfl rfl (by decide) (cat_i cat_nil) (by simp) (by decide) (by first | decide | omega) (by first | decide | omega) (c_ceTot hL hC) ?_
  refine ret_elim ?_
  rw [t11]
  refine go_aload_n (z := 65) dL_holds_64 rfl rfl ?_
  refine go_iconst (z := 66) (v := 1) dL_holds_65 rfl (by decide) ?_
  refine go_callV (z := 69) (t := 5) [.int 1] dL_holds_66 rfl mlX5_total vL_30 ⟨by decide, rfl⟩ okC rfl rfl (by decide) (cat_i cat_nil) (by simp) (by decide) (by first | decide | omega) (by first | decide | omega) (c_ceTot hL hC) ?_
  refine ret_elim ?_
  rw [t1]
  refine go_aload_n (z := 70) dL_holds_69 rfl rfl ?_
  refine go_iconst (z := 71) (v := 2) dL_holds_70 rfl (by decide) ?_
  refine go_callV (z := 74) (t := 5) [.int 2] dL_holds_71 rfl mlX5_total vL_30 ⟨by decide, rfl⟩ okC rfl rfl (by decide) (cat_i cat_nil) (by simp) (by decide) (by first | decide | omega) (by first | decide | omega) (c_ceTot hL hC) ?_
  refine ret_elim ?_
  rw [t2]
  refine go_icmp_ne (z := 81) (z2 := 77) dL_holds_74 rfl (by decide) (fun h => ?_) (fun h => ?_)
  · refine go_iconst (z := 82) (v := 0) dL_holds_81 rfl (by decide) ?_
    refine c82 0 ?_
    unfold mQuiet
    rw [decide_eq_false h]
    rfl
  · refine go_iconst (z := 78) (v := 1) dL_holds_77 rfl (by decide) ?_
    refine go_goto (z := 82) dL_holds_78 (by decide) ?_
    refine c82 1 ?_
    unfold mQuiet
    rw [decide_eq_true h]
    rfl
end PHOLD
