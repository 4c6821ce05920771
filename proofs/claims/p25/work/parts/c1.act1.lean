/-! P25: the acts that set -/
abbrev actLo (C : Nat) (v w : Int32) (a b : Nat) (la : Int32) : List (Option Value) := [some (.ref C), some (.int v), some (.int w), some (.ref (C + 1105)), some (.int (nI a)), some (.int (nI b)), some (.int la), none, none, none, none, none, none, none]
section ACT1
variable {l : Launch} {G : GG} {n : Nat} {i : IP} {r : RP} {C K T B : Nat} {E : EE} {Gd : Nat → Prop} {A : AP} {c0 c1 c3 la v w : Int32} {a b t : Nat}
theorem time_ok (hW : WS A.1) (ha : a < 6) (hb : b < 6) (h1 : 1 ≤ t) (h9 : t ≤ 9) : (aTime A (nI a) (nI b) (nI t)).1 = (if a = b then -2 else if A.1.2.1 (a * 7 + b) = nI t then -5 else A.1.2.1 (a * 7 + b)) ∧ (aTime A (nI a) (nI b) (nI t)).2.1.2.1 (a * 7 + b) = (if a = b then 1 else nI t) ∧ (aTime A (nI a) (nI b) (nI t)).2.1.2.1 (b * 7 + a) = (aTime A (nI a) (nI b) (nI t)).2.1.2.1 (a * 7 + b) ∧ WS (aTime A (nI a) (nI b) (nI t)).2.1 ∧ (aTime A (nI a) (nI b) (nI t)).2.1.1 = A.1.1 ∧ (aTime A (nI a) (nI b) (nI t)).2.1.2.2 = A.1.2.2 := by
  unfold aTime
  rw [if_pos ⟨isH_nI ha, isH_nI hb⟩]
  by_cases hab : a = b
  · rw [if_neg (fun q => q.2 (congrArg nI hab)), if_pos hab, if_pos hab]
    subst hab
    exact ⟨rfl, hW.1 a ha, rfl, hW, rfl, rfl⟩
  · rw [if_pos ⟨isW_nI h1 h9, fun q => hab ((nI_eq (by omega) (by omega)).mp q)⟩, if_neg hab, if_neg hab, nI_clamp (by omega), nI_clamp (by omega)]
    obtain ⟨w1, w2, w3, w4, w5, w6⟩ := way_ok (x := nI t) hW (show a < 7 by omega) (show b < 7 by omega) hab
    exact ⟨w1, w2, w3.trans w2.symm, w4, w5, w6⟩
theorem act_time (hS : LawS G n C E Gd K T B c0 c1 c3 A i r) (ha : a < 6) (hb : b < 6) : Go l G mL_act 9 120 840 80 (actLo C v w a b la) [] n i r (ActQ G n C K T B) := by
  have hD := hS.1
  have okC := hD.1.1
  have hL := hD.1
  have hC := hD.2.1
  have hq := AInv.q hD.2.2.2.2.1.1 hD.2.2.1
  have ht9 := lowN_lt (v := w >>> (6 &&& 31)) (N := 9) (by omega)
  obtain ⟨t, ht⟩ : ∃ t, t = 1 + lowN (w >>> (6 &&& 31)) 9 := ⟨_, rfl⟩
  refine go_iconst (z := 81) (v := 1) dL_act_80 rfl (by decide) ?_
  refine go_iload_n (z := 82) dL_act_81 rfl rfl ?_
  refine go_bipush (z := 84) (v := 6) dL_act_82 rfl (by decide) ?_
  refine go_ishr (z := 85) dL_act_84 rfl ?_
  refine go_bipush (z := 87) (v := 9) dL_act_85 rfl (by decide) ?_
  refine go_callS (z := 90) [.int (w >>> (6 &&& 31)), .int (nI 9)] dL_act_87 rfl mlL_low sL_20 rfl rfl (by decide) (cat_i (cat_i cat_nil)) (by simp) (by decide) (by first | decide | omega) (by first | decide | omega) (c_low (by omega) (by omega)) ?_
  refine ret_elim ?_
  refine go_iadd (z := 91) dL_act_90 rfl ?_
  rw [show (1 : Int32) + nI (lowN (w >>> (6 &&& 31)) 9) = nI t by rw [ht]; exact nI_add 1 _]
  obtain ⟨o1, o2, o3, o4, o5, o6⟩ := time_ok (A := A) hS.2.2.2.1 ha hb (show 1 ≤ t by omega) (show t ≤ 9 by omega)
  have hA1 := hD.2.2.2.2.1.time (nI a) (nI b) (nI t)
  have hP1 := hD.2.2.2.2.2.1.time (fun _ _ _ h => h) (nI a) (nI b) (nI t)
  refine go_istore (z := 93) dL_act_91 rfl (by decide) ?_
  refine go_aload_n (z := 94) dL_act_93 rfl rfl ?_
  refine go_iload (z := 96) dL_act_94 rfl rfl ?_
  refine go_iload (z := 98) dL_act_96 rfl rfl ?_
  refine go_callV (z := 101) (t := 5) [.int (nI a), .int (nI b)] dL_act_98 rfl mlX5_time vL_78 ⟨by decide, rfl⟩ okC rfl rfl (by decide) (cat_i (cat_i cat_nil)) (by simp) (by decide) (by first | decide | omega) (by first | decide | omega) (c_ceTm hL hC) ?_
  refine ret_elim ?_
  rw [tm_v ha hb]
  refine go_istore (z := 103) dL_act_101 rfl (by decide) ?_
  refine go_aload_n (z := 104) dL_act_103 rfl rfl ?_
  refine go_iload (z := 106) dL_act_104 rfl rfl ?_
  refine go_iload (z := 108) dL_act_106 rfl rfl ?_
  refine go_iload (z := 110) dL_act_108 rfl rfl ?_
  refine go_callV (z := 113) (t := 5) [.int (nI a), .int (nI b), .int (nI t)] dL_act_110 rfl mlX5_setTime vL_81 ⟨by decide, rfl⟩ okC rfl rfl (by decide) (cat_i (cat_i (cat_i cat_nil))) (by simp) (by decide) (by first | decide | omega) (by first | decide | omega) (c_ceTime hL hC hq) ?_
  rintro v1 n1 i1 r1 ⟨p1, p2, hC1, ho1⟩
  rw [p1, p2]
  generalize aTime A (nI a) (nI b) (nI t) = o at o1 o2 o3 o4 o5 o6 hA1 hP1 hC1 ⊢
  have fin : ActQ G n C K T B (some (.int 1)) n i1 r1 := act_fin hS ho1 hC1 hA1 hP1 (T1 := T) (B1 := B) (by rw [o5]; exact hS.2.1) (hS.2.2.1.ways o5 o6) o4 (by omega) (by omega)
  have c167 : ∀ x, o.2.1.2.1 (a * 7 + b) = x → Go l G mL_act 9 120 840 167 [some (.ref C), some (.int v), some (.int w), some (.ref (C + 1105)), some (.int (nI a)), some (.int (nI b)), some (.int la), some (.int (nI t)), some (.int (A.1.2.1 (a * 7 + b))), some (.int o.1), none, none, none, none] [.int x, .int (o.2.1.2.1 (a * 7 + b))] n i1 r1 (ActQ G n C K T B) := by
    intro x hx
    refine go_icmp_ne (z := 193) (z2 := 170) dL_act_167 rfl (by decide) (fun q => absurd hx q) (fun _ => ?_)
    refine go_aload_n (z := 171) dL_act_170 rfl rfl ?_
    refine go_iload (z := 173) dL_act_171 rfl rfl ?_
    refine go_iload (z := 175) dL_act_173 rfl rfl ?_
    refine go_callV (z := 178) (t := 5) [.int (nI b), .int (nI a)] dL_act_175 rfl mlX5_time vL_78 ⟨by decide, rfl⟩ okC rfl rfl (by decide) (cat_i (cat_i cat_nil)) (by simp) (by decide) (by first | decide | omega) (by first | decide | omega) (c_ceTm hL hC1) ?_
    refine ret_elim ?_
    rw [tm_v hb ha]
    refine go_aload_n (z := 179) dL_act_178 rfl rfl ?_
    refine go_iload (z := 181) dL_act_179 rfl rfl ?_
    refine go_iload (z := 183) dL_act_181 rfl rfl ?_
    refine go_callV (z := 186) (t := 5) [.int (nI a), .int (nI b)] dL_act_183 rfl mlX5_time vL_78 ⟨by decide, rfl⟩ okC rfl rfl (by decide) (cat_i (cat_i cat_nil)) (by simp) (by decide) (by first | decide | omega) (by first | decide | omega) (c_ceTm hL hC1) ?_
    refine ret_elim ?_
    rw [tm_v ha hb]
    refine go_icmp_ne (z := 193) (z2 := 189) dL_act_186 rfl (by decide) (fun q => absurd o3 q) (fun _ => ?_)
    refine go_iconst (z := 190) (v := 1) dL_act_189 rfl (by decide) ?_
    refine go_goto (z := 194) dL_act_190 (by decide) ?_
    exact go_zret dL_act_194 rfl (congrArg Value.int (by decide)) fin
  have c143 : ∀ x, o.1 = x → Go l G mL_act 9 120 840 143 [some (.ref C), some (.int v), some (.int w), some (.ref (C + 1105)), some (.int (nI a)), some (.int (nI b)), some (.int la), some (.int (nI t)), some (.int (A.1.2.1 (a * 7 + b))), some (.int o.1), none, none, none, none] [.int x, .int o.1] n i1 r1 (ActQ G n C K T B) := by
    intro x hx
    refine go_icmp_ne (z := 193) (z2 := 146) dL_act_143 rfl (by decide) (fun q => absurd hx q) (fun _ => ?_)
    refine go_aload_n (z := 147) dL_act_146 rfl rfl ?_
    refine go_iload (z := 149) dL_act_147 rfl rfl ?_
    refine go_iload (z := 151) dL_act_149 rfl rfl ?_
    refine go_callV (z := 154) (t := 5) [.int (nI a), .int (nI b)] dL_act_151 rfl mlX5_time vL_78 ⟨by decide, rfl⟩ okC rfl rfl (by decide) (cat_i (cat_i cat_nil)) (by simp) (by decide) (by first | decide | omega) (by first | decide | omega) (c_ceTm hL hC1) ?_
    refine ret_elim ?_
    rw [tm_v ha hb]
    refine go_iload (z := 156) dL_act_154 rfl rfl ?_
    refine go_iload (z := 158) dL_act_156 rfl rfl ?_
    refine go_icmp_ne (z := 165) (z2 := 161) dL_act_158 rfl (by decide) (fun q => ?_) (fun q => ?_)
    · refine go_iload (z := 167) dL_act_165 rfl rfl ?_
      refine go_lo rfl (c167 _ ?_)
      rw [o2, if_neg (fun c => q (congrArg nI c))]
    · refine go_iconst (z := 162) (v := 1) dL_act_161 rfl (by decide) ?_
      refine go_goto (z := 167) dL_act_162 (by decide) ?_
      refine go_lo rfl (c167 _ ?_)
      rw [o2, if_pos ((nI_eq (by omega) (by omega)).mp q)]
  refine go_istore (z := 115) dL_act_113 rfl (by decide) ?_
  refine go_iload (z := 117) dL_act_115 rfl rfl ?_
  refine go_iload (z := 119) dL_act_117 rfl rfl ?_
  refine go_iload (z := 121) dL_act_119 rfl rfl ?_
  refine go_icmp_ne (z := 129) (z2 := 124) dL_act_121 rfl (by decide) (fun q => ?_) (fun q => ?_)
  · have hab : ¬ a = b := fun c => q (congrArg nI c)
    rw [if_neg hab] at o1
    refine go_iload (z := 131) dL_act_129 rfl rfl ?_
    refine go_iload (z := 133) dL_act_131 rfl rfl ?_
    refine go_icmp_ne (z := 141) (z2 := 136) dL_act_133 rfl (by decide) (fun q2 => ?_) (fun q2 => ?_)
    · refine go_iload (z := 143) dL_act_141 rfl rfl ?_
      exact go_lo rfl (c143 _ (by rw [o1, if_neg q2]))
    · refine go_bipush (z := 138) (v := (-5)) dL_act_136 rfl (by decide) ?_
      refine go_goto (z := 143) dL_act_138 (by decide) ?_
      exact go_lo rfl (c143 _ (by rw [o1, if_pos q2]))
  · have hab : a = b := (nI_eq (by omega) (by omega)).mp q
    rw [if_pos hab] at o1
    refine go_bipush (z := 126) (v := (-2)) dL_act_124 rfl (by decide) ?_
    refine go_goto (z := 143) dL_act_126 (by decide) ?_
    exact go_lo rfl (c143 _ o1)
theorem bank_ok (hW : WS A.1) (ha : a < 6) (h1 : 1 ≤ t) (h9 : t ≤ 9) : (aBank A (nI a) (nI t)).1 = (if A.1.2.1 (a * 7 + 6) = nI t then -5 else A.1.2.1 (a * 7 + 6)) ∧ (aBank A (nI a) (nI t)).2.1.2.1 (a * 7 + 6) = nI t ∧ WS (aBank A (nI a) (nI t)).2.1 ∧ (aBank A (nI a) (nI t)).2.1.1 = A.1.1 ∧ (aBank A (nI a) (nI t)).2.1.2.2 = A.1.2.2 := by
  unfold aBank
  rw [if_pos (isH_nI ha), if_pos (isW_nI h1 h9), nI_clamp (by omega)]
  obtain ⟨w1, w2, w3, w4, w5, w6⟩ := way_ok (x := nI t) hW (show a < 7 by omega) (show 6 < 7 by omega) (by omega)
  exact ⟨w1, w2, w4, w5, w6⟩
theorem act_bank (hS : LawS G n C E Gd K T B c0 c1 c3 A i r) (ha : a < 6) : Go l G mL_act 9 120 840 195 (actLo C v w a b la) [] n i r (ActQ G n C K T B) := by
  have hD := hS.1
  have okC := hD.1.1
  have hL := hD.1
  have hC := hD.2.1
  have hq := AInv.q hD.2.2.2.2.1.1 hD.2.2.1
  have ht9 := lowN_lt (v := w >>> (6 &&& 31)) (N := 9) (by omega)
  obtain ⟨t, ht⟩ : ∃ t, t = 1 + lowN (w >>> (6 &&& 31)) 9 := ⟨_, rfl⟩
  refine go_iconst (z := 196) (v := 1) dL_act_195 rfl (by decide) ?_
  refine go_iload_n (z := 197) dL_act_196 rfl rfl ?_
  refine go_bipush (z := 199) (v := 6) dL_act_197 rfl (by decide) ?_
  refine go_ishr (z := 200) dL_act_199 rfl ?_
  refine go_bipush (z := 202) (v := 9) dL_act_200 rfl (by decide) ?_
  refine go_callS (z := 205) [.int (w >>> (6 &&& 31)), .int (nI 9)] dL_act_202 rfl mlL_low sL_20 rfl rfl (by decide) (cat_i (cat_i cat_nil)) (by simp) (by decide) (by first | decide | omega) (by first | decide | omega) (c_low (by omega) (by omega)) ?_
  refine ret_elim ?_
  refine go_iadd (z := 206) dL_act_205 rfl ?_
  rw [show (1 : Int32) + nI (lowN (w >>> (6 &&& 31)) 9) = nI t by rw [ht]; exact nI_add 1 _]
  obtain ⟨o1, o2, o4, o5, o6⟩ := bank_ok (A := A) hS.2.2.2.1 ha (show 1 ≤ t by omega) (show t ≤ 9 by omega)
  have hA1 := hD.2.2.2.2.1.bank (nI a) (nI t)
  have hP1 := hD.2.2.2.2.2.1.bank (fun _ _ _ h => h) (nI a) (nI t)
  refine go_istore (z := 208) dL_act_206 rfl (by decide) ?_
  refine go_aload_n (z := 209) dL_act_208 rfl rfl ?_
  refine go_iload (z := 211) dL_act_209 rfl rfl ?_
  refine go_callV (z := 214) (t := 5) [.int (nI a)] dL_act_211 rfl mlX5_bankTime vL_84 ⟨by decide, rfl⟩ okC rfl rfl (by decide) (cat_i cat_nil) (by simp) (by decide) (by first | decide | omega) (by first | decide | omega) (c_ceBt hL hC) ?_
  refine ret_elim ?_
  rw [bt_v ha]
  refine go_istore (z := 216) dL_act_214 rfl (by decide) ?_
  refine go_aload_n (z := 217) dL_act_216 rfl rfl ?_
  refine go_iload (z := 219) dL_act_217 rfl rfl ?_
  refine go_iload (z := 221) dL_act_219 rfl rfl ?_
  refine go_callV (z := 224) (t := 5) [.int (nI a), .int (nI t)] dL_act_221 rfl mlX5_setBankTime vL_87 ⟨by decide, rfl⟩ okC rfl rfl (by decide) (cat_i (cat_i cat_nil)) (by simp) (by decide) (by first | decide | omega) (by first | decide | omega) (c_ceBank hL hC hq) ?_
  rintro v1 n1 i1 r1 ⟨p1, p2, hC1, ho1⟩
  rw [p1, p2]
  generalize aBank A (nI a) (nI t) = o at o1 o2 o4 o5 o6 hA1 hP1 hC1 ⊢
  have fin : ActQ G n C K T B (some (.int 1)) n i1 r1 := act_fin hS ho1 hC1 hA1 hP1 (T1 := T) (B1 := B) (by rw [o5]; exact hS.2.1) (hS.2.2.1.ways o5 o6) o4 (by omega) (by omega)
  have c238 : ∀ x, o.1 = x → Go l G mL_act 9 120 840 238 [some (.ref C), some (.int v), some (.int w), some (.ref (C + 1105)), some (.int (nI a)), some (.int (nI b)), some (.int la), some (.int (nI t)), some (.int (A.1.2.1 (a * 7 + 6))), none, none, none, none, none] [.int x, .int o.1] n i1 r1 (ActQ G n C K T B) := by
    intro x hx
    refine go_icmp_ne (z := 256) (z2 := 241) dL_act_238 rfl (by decide) (fun q => absurd hx q) (fun _ => ?_)
    refine go_aload_n (z := 242) dL_act_241 rfl rfl ?_
    refine go_iload (z := 244) dL_act_242 rfl rfl ?_
    refine go_callV (z := 247) (t := 5) [.int (nI a)] dL_act_244 rfl mlX5_bankTime vL_84 ⟨by decide, rfl⟩ okC rfl rfl (by decide) (cat_i cat_nil) (by simp) (by decide) (by first | decide | omega) (by first | decide | omega) (c_ceBt hL hC1) ?_
    refine ret_elim ?_
    rw [bt_v ha]
    refine go_iload (z := 249) dL_act_247 rfl rfl ?_
    refine go_icmp_ne (z := 256) (z2 := 252) dL_act_249 rfl (by decide) (fun q => absurd o2 q) (fun _ => ?_)
    refine go_iconst (z := 253) (v := 1) dL_act_252 rfl (by decide) ?_
    refine go_goto (z := 257) dL_act_253 (by decide) ?_
    exact go_zret dL_act_257 rfl (congrArg Value.int (by decide)) fin
  refine go_iload (z := 226) dL_act_224 rfl rfl ?_
  refine go_iload (z := 228) dL_act_226 rfl rfl ?_
  refine go_icmp_ne (z := 236) (z2 := 231) dL_act_228 rfl (by decide) (fun q => ?_) (fun q => ?_)
  · refine go_iload (z := 238) dL_act_236 rfl rfl ?_
    exact go_lo rfl (c238 _ (by rw [o1, if_neg q]))
  · refine go_bipush (z := 233) (v := (-5)) dL_act_231 rfl (by decide) ?_
    refine go_goto (z := 238) dL_act_233 (by decide) ?_
    exact go_lo rfl (c238 _ (by rw [o1, if_pos q]))
/-- s: the setting's place among the numbers; x in its range -/
theorem set_ok {s x : Nat} (hs : s < 2) (h1 : s = 0 → 2 ≤ x ∧ x ≤ 16) (h2 : s = 1 → 1 ≤ x ∧ x ≤ 99) : (aSet A (nI s) (nI x)).1 = (if A.1.1 (1 + s) = nI x then -5 else A.1.1 (1 + s)) ∧ (aSet A (nI s) (nI x)).2.1.1 (1 + s) = nI x ∧ ((aSet A (nI s) (nI x)).2.1 = A.1 ∨ (aSet A (nI s) (nI x)).2.1 = sZ A.1 (1 + s) (nI x)) := by
  rcases (show s = 0 ∨ s = 1 by omega) with q | q
  · subst q
    have h1 := h1 rfl
    unfold aSet
    rw [if_pos (show nI 0 = 0 from rfl)]
    unfold aPow
    rw [if_pos ⟨show (2 : Int32) ≤ nI x from (nI_leI (a := 2) (by omega) (by omega)).mpr h1.1, show nI x ≤ 16 from (nI_leI (b := 16) (by omega) (by omega)).mpr h1.2⟩]
    by_cases c : A.1.1 1 = nI x
    · rw [if_pos c, if_pos (show A.1.1 (1 + 0) = nI x from c)]
      exact ⟨rfl, c, Or.inl rfl⟩
    · rw [if_neg c, if_neg (show ¬ A.1.1 (1 + 0) = nI x from c)]
      exact ⟨rfl, (show up1 A.1.1 1 (nI x) 1 = nI x from up1_s), Or.inr rfl⟩
  · subst q
    have h2 := h2 rfl
    unfold aSet
    rw [if_neg (show ¬ nI 1 = 0 by decide), if_pos (show nI 1 = 1 from rfl)]
    unfold aLea
    rw [if_pos ⟨show (1 : Int32) ≤ nI x from (nI_leI (a := 1) (by omega) (by omega)).mpr h2.1, show nI x ≤ 99 from (nI_leI (b := 99) (by omega) (by omega)).mpr h2.2⟩]
    by_cases c : A.1.1 2 = nI x
    · rw [if_pos c, if_pos (show A.1.1 (1 + 1) = nI x from c)]
      exact ⟨rfl, c, Or.inl rfl⟩
    · rw [if_neg c, if_neg (show ¬ A.1.1 (1 + 1) = nI x from c)]
      exact ⟨rfl, (show up1 A.1.1 2 (nI x) 2 = nI x from up1_s), Or.inr rfl⟩
theorem tot_s {s : Nat} (hs : s < 2) : aTot A (13 + nI s) = A.1.1 (1 + s) := by
  rcases (show s = 0 ∨ s = 1 by omega) with q | q
  · subst q; rfl
  · subst q; rfl
theorem act_set (hS : LawS G n C E Gd K T B c0 c1 c3 A i r) : Go l G mL_act 9 120 840 258 (actLo C v w a b la) [] n i r (ActQ G n C K T B) := by
  have hD := hS.1
  have okC := hD.1.1
  have hL := hD.1
  have hC := hD.2.1
  have hq := AInv.q hD.2.2.2.2.1.1 hD.2.2.1
  have hs := lowN_lt (v := w >>> (3 &&& 31)) (N := 2) (by omega)
  refine go_iload_n (z := 259) dL_act_258 rfl rfl ?_
  refine go_iconst (z := 260) (v := 3) dL_act_259 rfl (by decide) ?_
  refine go_ishr (z := 261) dL_act_260 rfl ?_
  refine go_iconst (z := 262) (v := 2) dL_act_261 rfl (by decide) ?_
  refine go_callS (z := 265) [.int (w >>> (3 &&& 31)), .int (nI 2)] dL_act_262 rfl mlL_low sL_20 rfl rfl (by decide) (cat_i (cat_i cat_nil)) (by simp) (by decide) (by first | decide | omega) (by first | decide | omega) (c_low (by omega) (by omega)) ?_
  refine ret_elim ?_
  refine go_istore (z := 267) dL_act_265 rfl (by decide) ?_
  generalize lowN (w >>> (3 &&& 31)) 2 = s at hs ⊢
  have c325 : ∀ x, (s = 0 → 2 ≤ x ∧ x ≤ 16) → (s = 1 → 1 ≤ x ∧ x ≤ 99) → Go l G mL_act 9 120 840 325 [some (.ref C), some (.int v), some (.int w), some (.ref (C + 1105)), some (.int (nI a)), some (.int (nI b)), some (.int la), some (.int (nI s)), none, none, none, none, none, none] [.int (nI x)] n i r (ActQ G n C K T B) := by
    intro x h1 h2
    obtain ⟨o1, o2, o3⟩ := set_ok (A := A) hs h1 h2
    have hA1 := hD.2.2.2.2.1.set (nI s) (nI x)
    have hP1 := hD.2.2.2.2.2.1.set (fun _ _ _ h => h) (nI s) (nI x)
    refine go_istore (z := 327) dL_act_325 rfl (by decide) ?_
    refine go_aload_n (z := 328) dL_act_327 rfl rfl ?_
    refine go_bipush (z := 330) (v := 13) dL_act_328 rfl (by decide) ?_
    refine go_iload (z := 332) dL_act_330 rfl rfl ?_
    refine go_iadd (z := 333) dL_act_332 rfl ?_
    refine go_callV (z := 336) (t := 5) [.int (13 + nI s)] dL_act_333 rfl mlX5_total vL_30 ⟨by decide, rfl⟩ okC rfl rfl (by decide) (cat_i cat_nil) (by simp) (by decide) (by first | decide | omega) (by first | decide | omega) (c_ceTot hL hC) ?_
    refine ret_elim ?_
    rw [tot_s hs]
    refine go_istore (z := 338) dL_act_336 rfl (by decide) ?_
    refine go_aload_n (z := 339) dL_act_338 rfl rfl ?_
    refine go_iload (z := 341) dL_act_339 rfl rfl ?_
    refine go_iload (z := 343) dL_act_341 rfl rfl ?_
    refine go_callV (z := 346) (t := 5) [.int (nI s), .int (nI x)] dL_act_343 rfl mlX5_set vL_90 ⟨by decide, rfl⟩ okC rfl rfl (by decide) (cat_i (cat_i cat_nil)) (by simp) (by decide) (by first | decide | omega) (by first | decide | omega) (c_ceSet hL hC hq) ?_
    rintro v1 n1 i1 r1 ⟨p1, p2, hC1, ho1⟩
    rw [p1, p2]
    generalize aSet A (nI s) (nI x) = o at o1 o2 o3 hA1 hP1 hC1 ⊢
    have fin : ActQ G n C K T B (some (.int 1)) n i1 r1 := by
      rcases o3 with e | e
      · exact act_fin hS ho1 hC1 hA1 hP1 (T1 := T) (B1 := B) (by rw [e]; exact hS.2.1) (by rw [e]; exact hS.2.2.1) (by rw [e]; exact hS.2.2.2.1) (by omega) (by omega)
      · exact act_fin hS ho1 hC1 hA1 hP1 (T1 := T) (B1 := B) (by rw [e]; exact (up1_n (by omega)).trans hS.2.1) (by rw [e]; exact hS.2.2.1.setZ (by omega)) (by rw [e]; exact hS.2.2.2.1) (by omega) (by omega)
    have c360 : ∀ y, o.1 = y → Go l G mL_act 9 120 840 360 [some (.ref C), some (.int v), some (.int w), some (.ref (C + 1105)), some (.int (nI a)), some (.int (nI b)), some (.int la), some (.int (nI s)), some (.int (nI x)), some (.int (A.1.1 (1 + s))), none, none, none, none] [.int y, .int o.1] n i1 r1 (ActQ G n C K T B) := by
      intro y hy
      refine go_icmp_ne (z := 381) (z2 := 363) dL_act_360 rfl (by decide) (fun q => absurd hy q) (fun _ => ?_)
      refine go_aload_n (z := 364) dL_act_363 rfl rfl ?_
      refine go_bipush (z := 366) (v := 13) dL_act_364 rfl (by decide) ?_
      refine go_iload (z := 368) dL_act_366 rfl rfl ?_
      refine go_iadd (z := 369) dL_act_368 rfl ?_
      refine go_callV (z := 372) (t := 5) [.int (13 + nI s)] dL_act_369 rfl mlX5_total vL_30 ⟨by decide, rfl⟩ okC rfl rfl (by decide) (cat_i cat_nil) (by simp) (by decide) (by first | decide | omega) (by first | decide | omega) (c_ceTot hL hC1) ?_
      refine ret_elim ?_
      rw [tot_s hs]
      refine go_iload (z := 374) dL_act_372 rfl rfl ?_
      refine go_icmp_ne (z := 381) (z2 := 377) dL_act_374 rfl (by decide) (fun q => absurd o2 q) (fun _ => ?_)
      refine go_iconst (z := 378) (v := 1) dL_act_377 rfl (by decide) ?_
      refine go_goto (z := 382) dL_act_378 (by decide) ?_
      exact go_zret dL_act_382 rfl (congrArg Value.int (by decide)) fin
    refine go_iload (z := 348) dL_act_346 rfl rfl ?_
    refine go_iload (z := 350) dL_act_348 rfl rfl ?_
    refine go_icmp_ne (z := 358) (z2 := 353) dL_act_350 rfl (by decide) (fun q => ?_) (fun q => ?_)
    · refine go_iload (z := 360) dL_act_358 rfl rfl ?_
      exact go_lo rfl (c360 _ (by rw [o1, if_neg q]))
    · refine go_bipush (z := 355) (v := (-5)) dL_act_353 rfl (by decide) ?_
      refine go_goto (z := 360) dL_act_355 (by decide) ?_
      exact go_lo rfl (c360 _ (by rw [o1, if_pos q]))
  refine go_iload (z := 269) dL_act_267 rfl rfl ?_
  refine go_if_ne (z := 300) (z2 := 272) dL_act_269 rfl (by decide) (fun q => ?_) (fun q => ?_)
  · have hs1 : s = 1 := by
      rcases (show s = 0 ∨ s = 1 by omega) with c | c
      · rw [c] at q; exact absurd rfl q
      · exact c
    have c321 : ∀ M, 0 < M → M ≤ 99 → Go l G mL_act 9 120 840 321 [some (.ref C), some (.int v), some (.int w), some (.ref (C + 1105)), some (.int (nI a)), some (.int (nI b)), some (.int la), some (.int (nI s)), none, none, none, none, none, none] [.int (nI M), .int (w >>> (4 &&& 31)), .int 1] n i r (ActQ G n C K T B) := by
      intro M m1 m2
      have hlo := lowN_lt (v := w >>> (4 &&& 31)) m1
      refine go_callS (z := 324) [.int (w >>> (4 &&& 31)), .int (nI M)] dL_act_321 rfl mlL_low sL_20 rfl rfl (by decide) (cat_i (cat_i cat_nil)) (by simp) (by decide) (by first | decide | omega) (by first | decide | omega) (c_low m1 (by omega)) ?_
      refine ret_elim ?_
      refine go_iadd (z := 325) dL_act_324 rfl ?_
      rw [show (1 : Int32) + nI (lowN (w >>> (4 &&& 31)) M) = nI (1 + lowN (w >>> (4 &&& 31)) M) from nI_add 1 _]
      exact go_lo rfl (c325 _ (fun c => by omega) (fun _ => ⟨by omega, by omega⟩))
    refine go_iconst (z := 301) (v := 1) dL_act_300 rfl (by decide) ?_
    refine go_iload_n (z := 302) dL_act_301 rfl rfl ?_
    refine go_iconst (z := 303) (v := 4) dL_act_302 rfl (by decide) ?_
    refine go_ishr (z := 304) dL_act_303 rfl ?_
    refine go_iload_n (z := 305) dL_act_304 rfl rfl ?_
    refine go_bipush (z := 307) (v := 12) dL_act_305 rfl (by decide) ?_
    refine go_ishr (z := 308) dL_act_307 rfl ?_
    refine go_iconst (z := 309) (v := 2) dL_act_308 rfl (by decide) ?_
    refine go_callS (z := 312) [.int (w >>> (12 &&& 31)), .int (nI 2)] dL_act_309 rfl mlL_low sL_20 rfl rfl (by decide) (cat_i (cat_i cat_nil)) (by simp) (by decide) (by first | decide | omega) (by first | decide | omega) (c_low (by omega) (by omega)) ?_
    refine ret_elim ?_
    refine go_if_ne (z := 320) (z2 := 315) dL_act_312 rfl (by decide) (fun _ => ?_) (fun _ => ?_)
    · refine go_iconst (z := 321) (v := 4) dL_act_320 rfl (by decide) ?_
      exact go_lo rfl (c321 4 (by omega) (by omega))
    · refine go_bipush (z := 317) (v := 99) dL_act_315 rfl (by decide) ?_
      refine go_goto (z := 321) dL_act_317 (by decide) ?_
      exact go_lo rfl (c321 99 (by omega) (by omega))
  · have hs0 : s = 0 := (nI_eq (b := 0) (by omega) (by omega)).mp q
    have c293 : ∀ M, 0 < M → M ≤ 15 → Go l G mL_act 9 120 840 293 [some (.ref C), some (.int v), some (.int w), some (.ref (C + 1105)), some (.int (nI a)), some (.int (nI b)), some (.int la), some (.int (nI s)), none, none, none, none, none, none] [.int (nI M), .int (w >>> (4 &&& 31)), .int 2] n i r (ActQ G n C K T B) := by
      intro M m1 m2
      have hlo := lowN_lt (v := w >>> (4 &&& 31)) m1
      refine go_callS (z := 296) [.int (w >>> (4 &&& 31)), .int (nI M)] dL_act_293 rfl mlL_low sL_20 rfl rfl (by decide) (cat_i (cat_i cat_nil)) (by simp) (by decide) (by first | decide | omega) (by first | decide | omega) (c_low m1 (by omega)) ?_
      refine ret_elim ?_
      refine go_iadd (z := 297) dL_act_296 rfl ?_
      rw [show (2 : Int32) + nI (lowN (w >>> (4 &&& 31)) M) = nI (2 + lowN (w >>> (4 &&& 31)) M) from nI_add 2 _]
      refine go_goto (z := 325) dL_act_297 (by decide) ?_
      exact go_lo rfl (c325 _ (fun _ => ⟨by omega, by omega⟩) (fun c => by omega))
    refine go_iconst (z := 273) (v := 2) dL_act_272 rfl (by decide) ?_
    refine go_iload_n (z := 274) dL_act_273 rfl rfl ?_
    refine go_iconst (z := 275) (v := 4) dL_act_274 rfl (by decide) ?_
    refine go_ishr (z := 276) dL_act_275 rfl ?_
    refine go_iload_n (z := 277) dL_act_276 rfl rfl ?_
    refine go_bipush (z := 279) (v := 12) dL_act_277 rfl (by decide) ?_
    refine go_ishr (z := 280) dL_act_279 rfl ?_
    refine go_iconst (z := 281) (v := 2) dL_act_280 rfl (by decide) ?_
    refine go_callS (z := 284) [.int (w >>> (12 &&& 31)), .int (nI 2)] dL_act_281 rfl mlL_low sL_20 rfl rfl (by decide) (cat_i (cat_i cat_nil)) (by simp) (by decide) (by first | decide | omega) (by first | decide | omega) (c_low (by omega) (by omega)) ?_
    refine ret_elim ?_
    refine go_if_ne (z := 292) (z2 := 287) dL_act_284 rfl (by decide) (fun _ => ?_) (fun _ => ?_)
    · refine go_iconst (z := 293) (v := 3) dL_act_292 rfl (by decide) ?_
      exact go_lo rfl (c293 3 (by omega) (by omega))
    · refine go_bipush (z := 289) (v := 15) dL_act_287 rfl (by decide) ?_
      refine go_goto (z := 293) dL_act_289 (by decide) ?_
      exact go_lo rfl (c293 15 (by omega) (by omega))
end ACT1
