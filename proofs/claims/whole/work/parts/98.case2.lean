section LAWC
variable {l : Launch} {G : GG} {n : Nat} {i : IP} {r : RP} {C K O k j q : Nat} {E : EE} {Gd : Nat → Prop} {A : AP} {Q : QP} {nm : String}
theorem lw_c_bank0 (hS : LwS G C K O E Gd A n i r) (hl : G.2.2.2.1 ≤ 2048) (hq : 4 * q + 4 ≤ G.2.2.2.1) (hK : K + 1969350 ≤ 2 ^ 30) (hO : O + 2500000 < 2 ^ 31) (hk : 60 ≤ k) (hj : 420 ≤ j) (next : LwN l G nm C K O (k - 60) (j - 420) q Q) : Go l G (mLw nm) 11 k j 179 (lwLo G C q) [] n i r Q := by
  have hL := hS.1.1
  have hC := hS.2.1.1
  have hE := hS.2.1.2.1
  obtain ⟨hgn, hgC, h60, hEk⟩ := hS.gn
  have hY := hS.2.2.1.1
  have hR := hS.2.2.1.2
  have hW := hS.2.2.2.1
  have hA := hS.2.2.2.2.1
  have hP := hS.2.2.2.2.2
  have hq0 := AInv.q hA.1 hE
  obtain ⟨T, hT, hI⟩ := id hA.1
  have okC := hL.1
  have okM := hY.1.1
  refine go_aload_n (z := 180) dL_law_179 rfl rfl ?_
  refine go_aload_n (z := 181) dL_law_180 rfl rfl ?_
  refine go_iload_n (z := 182) dL_law_181 rfl rfl ?_
  refine go_iconst (z := 183) (v := 1) dL_law_182 rfl (by decide) ?_
  refine go_iadd (z := 184) dL_law_183 rfl ?_
  refine go_sld (z := 185) (4 * q + 1) (by omega) (nI_add (4 * q) 1) (by omega) dL_law_184 rfl ?_
  refine go_aload_n (z := 186) dL_law_185 rfl rfl ?_
  refine go_iload_n (z := 187) dL_law_186 rfl rfl ?_
  refine go_iconst (z := 188) (v := 2) dL_law_187 rfl (by decide) ?_
  refine go_iadd (z := 189) dL_law_188 rfl ?_
  refine go_sld (z := 190) (4 * q + 2) (by omega) (nI_add (4 * q) 2) (by omega) dL_law_189 rfl ?_
  refine go_callV (z := 193) (t := 5) [.int (G.2.2.2.2 (4 * q + 1)), .int (G.2.2.2.2 (4 * q + 2))] dL_law_190 rfl mlX5_setBankTime vL_18 ⟨by decide, rfl⟩ okC rfl rfl (by decide) (cat_i (cat_i cat_nil)) (by simp) (by decide) (by first | decide | omega) (by first | decide | omega) (c_ceBank hL hC hq0) ?_
  rintro v n1 i1 r1 ⟨p1, p2, hC1, ho1⟩
  obtain ⟨hY1, hR1⟩ := hS.mid ho1
  have okM1 := hY1.1.1
  rw [p1, p2]
  refine go_aload_n (z := 194) dL_law_193 rfl rfl ?_
  refine go_aload_n (z := 195) dL_law_194 rfl rfl ?_
  refine go_iload_n (z := 196) dL_law_195 rfl rfl ?_
  refine go_iconst (z := 197) (v := 1) dL_law_196 rfl (by decide) ?_
  refine go_iadd (z := 198) dL_law_197 rfl ?_
  refine go_sld (z := 199) (4 * q + 1) (by omega) (nI_add (4 * q) 1) (by omega) dL_law_198 rfl ?_
  refine go_aload_n (z := 200) dL_law_199 rfl rfl ?_
  refine go_iload_n (z := 201) dL_law_200 rfl rfl ?_
  refine go_iconst (z := 202) (v := 2) dL_law_201 rfl (by decide) ?_
  refine go_iadd (z := 203) dL_law_202 rfl ?_
  refine go_sld (z := 204) (4 * q + 2) (by omega) (nI_add (4 * q) 2) (by omega) dL_law_203 rfl ?_
  refine go_callV (z := 207) (t := 6) [.int (G.2.2.2.2 (4 * q + 1)), .int (G.2.2.2.2 (4 * q + 2))] dL_law_204 rfl mlX6_setBankTime vL_22 ⟨by decide, rfl⟩ okM1 rfl rfl (by decide) (cat_i (cat_i cat_nil)) (by simp) (by decide) (by first | decide | omega) (by first | decide | omega) (c_mBank hY1 hR1) ?_
  rintro v n2 i2 r2 ⟨q1, q2, q3, ho2, hR2⟩
  rw [q1, q2, q3]
  refine go_icmp_eq (z := 644) (z2 := 210) dL_law_207 rfl (by decide) (fun _ => ?_) (fun h => absurd rfl h)
  exact go_less (next _ _ _ _ _ _ ((hS.fin hC1 ho1 ho2 hR2 (hA.bank _ _) (hP.bank (fun _ k x h => h.sW k x) _ _)).more (by omega) (by omega))) (Nat.le_refl _) (by omega) (by omega)
theorem lw_c_set (hS : LwS G C K O E Gd A n i r) (hl : G.2.2.2.1 ≤ 2048) (hq : 4 * q + 4 ≤ G.2.2.2.1) (hK : K + 1969350 ≤ 2 ^ 30) (hO : O + 2500000 < 2 ^ 31) (hk : 60 ≤ k) (hj : 420 ≤ j) (next : LwN l G nm C K O (k - 60) (j - 420) q Q) : Go l G (mLw nm) 11 k j 212 (lwLo G C q) [] n i r Q := by
  have hL := hS.1.1
  have hC := hS.2.1.1
  have hE := hS.2.1.2.1
  obtain ⟨hgn, hgC, h60, hEk⟩ := hS.gn
  have hY := hS.2.2.1.1
  have hR := hS.2.2.1.2
  have hW := hS.2.2.2.1
  have hA := hS.2.2.2.2.1
  have hP := hS.2.2.2.2.2
  have hq0 := AInv.q hA.1 hE
  obtain ⟨T, hT, hI⟩ := id hA.1
  have okC := hL.1
  have okM := hY.1.1
  refine go_aload_n (z := 213) dL_law_212 rfl rfl ?_
  refine go_aload_n (z := 214) dL_law_213 rfl rfl ?_
  refine go_iload_n (z := 215) dL_law_214 rfl rfl ?_
  refine go_iconst (z := 216) (v := 1) dL_law_215 rfl (by decide) ?_
  refine go_iadd (z := 217) dL_law_216 rfl ?_
  refine go_sld (z := 218) (4 * q + 1) (by omega) (nI_add (4 * q) 1) (by omega) dL_law_217 rfl ?_
  refine go_aload_n (z := 219) dL_law_218 rfl rfl ?_
  refine go_iload_n (z := 220) dL_law_219 rfl rfl ?_
  refine go_iconst (z := 221) (v := 2) dL_law_220 rfl (by decide) ?_
  refine go_iadd (z := 222) dL_law_221 rfl ?_
  refine go_sld (z := 223) (4 * q + 2) (by omega) (nI_add (4 * q) 2) (by omega) dL_law_222 rfl ?_
  refine go_callV (z := 226) (t := 5) [.int (G.2.2.2.2 (4 * q + 1)), .int (G.2.2.2.2 (4 * q + 2))] dL_law_223 rfl mlX5_set vL_23 ⟨by decide, rfl⟩ okC rfl rfl (by decide) (cat_i (cat_i cat_nil)) (by simp) (by decide) (by first | decide | omega) (by first | decide | omega) (c_ceSet hL hC hq0) ?_
  rintro v n1 i1 r1 ⟨p1, p2, hC1, ho1⟩
  obtain ⟨hY1, hR1⟩ := hS.mid ho1
  have okM1 := hY1.1.1
  rw [p1, p2]
  refine go_aload_n (z := 227) dL_law_226 rfl rfl ?_
  refine go_aload_n (z := 228) dL_law_227 rfl rfl ?_
  refine go_iload_n (z := 229) dL_law_228 rfl rfl ?_
  refine go_iconst (z := 230) (v := 1) dL_law_229 rfl (by decide) ?_
  refine go_iadd (z := 231) dL_law_230 rfl ?_
  refine go_sld (z := 232) (4 * q + 1) (by omega) (nI_add (4 * q) 1) (by omega) dL_law_231 rfl ?_
  refine go_aload_n (z := 233) dL_law_232 rfl rfl ?_
  refine go_iload_n (z := 234) dL_law_233 rfl rfl ?_
  refine go_iconst (z := 235) (v := 2) dL_law_234 rfl (by decide) ?_
  refine go_iadd (z := 236) dL_law_235 rfl ?_
  refine go_sld (z := 237) (4 * q + 2) (by omega) (nI_add (4 * q) 2) (by omega) dL_law_236 rfl ?_
  refine go_callV (z := 240) (t := 6) [.int (G.2.2.2.2 (4 * q + 1)), .int (G.2.2.2.2 (4 * q + 2))] dL_law_237 rfl mlX6_set vL_26 ⟨by decide, rfl⟩ okM1 rfl rfl (by decide) (cat_i (cat_i cat_nil)) (by simp) (by decide) (by first | decide | omega) (by first | decide | omega) (c_mSet hY1 hR1) ?_
  rintro v n2 i2 r2 ⟨q1, q2, q3, ho2, hR2⟩
  rw [q1, q2, q3]
  refine go_icmp_eq (z := 644) (z2 := 243) dL_law_240 rfl (by decide) (fun _ => ?_) (fun h => absurd rfl h)
  exact go_less (next _ _ _ _ _ _ ((hS.fin hC1 ho1 ho2 hR2 (hA.set _ _) (hP.set (fun _ k x h => h.sZ k x) _ _)).more (by omega) (by omega))) (Nat.le_refl _) (by omega) (by omega)
theorem lw_c_pass (hS : LwS G C K O E Gd A n i r) (hl : G.2.2.2.1 ≤ 2048) (hq : 4 * q + 4 ≤ G.2.2.2.1) (hK : K + 1969350 ≤ 2 ^ 30) (hO : O + 2500000 < 2 ^ 31) (hk : 60 ≤ k) (hj : 420 ≤ j) (next : LwN l G nm C K O (k - 60) (j - 420) q Q) : Go l G (mLw nm) 11 k j 258 (lwLo G C q) [] n i r Q := by
  have hL := hS.1.1
  have hC := hS.2.1.1
  have hE := hS.2.1.2.1
  obtain ⟨hgn, hgC, h60, hEk⟩ := hS.gn
  have hY := hS.2.2.1.1
  have hR := hS.2.2.1.2
  have hW := hS.2.2.2.1
  have hA := hS.2.2.2.2.1
  have hP := hS.2.2.2.2.2
  have hq0 := AInv.q hA.1 hE
  obtain ⟨T, hT, hI⟩ := id hA.1
  have okC := hL.1
  have okM := hY.1.1
  refine go_aload_n (z := 259) dL_law_258 rfl rfl ?_
  refine go_aload_n (z := 260) dL_law_259 rfl rfl ?_
  refine go_iload_n (z := 261) dL_law_260 rfl rfl ?_
  refine go_iconst (z := 262) (v := 1) dL_law_261 rfl (by decide) ?_
  refine go_iadd (z := 263) dL_law_262 rfl ?_
  refine go_sld (z := 264) (4 * q + 1) (by omega) (nI_add (4 * q) 1) (by omega) dL_law_263 rfl ?_
  refine go_callV (z := 267) (t := 5) [.int (G.2.2.2.2 (4 * q + 1))] dL_law_264 rfl mlX5_pass vL_32 ⟨by decide, rfl⟩ okC rfl rfl (by decide) (cat_i cat_nil) (by simp) (by decide) (by first | decide | omega) (by first | decide | omega) (c_cePass hL hC hE hgC hq0 (pass_ok hA hEk)) ?_
  rintro v n1 i1 r1 ⟨p1, p2, hC1, ho1⟩
  obtain ⟨hY1, hR1⟩ := hS.mid ho1
  have okM1 := hY1.1.1
  rw [p1, p2]
  refine go_aload_n (z := 268) dL_law_267 rfl rfl ?_
  refine go_aload_n (z := 269) dL_law_268 rfl rfl ?_
  refine go_iload_n (z := 270) dL_law_269 rfl rfl ?_
  refine go_iconst (z := 271) (v := 1) dL_law_270 rfl (by decide) ?_
  refine go_iadd (z := 272) dL_law_271 rfl ?_
  refine go_sld (z := 273) (4 * q + 1) (by omega) (nI_add (4 * q) 1) (by omega) dL_law_272 rfl ?_
  refine go_callV (z := 276) (t := 6) [.int (G.2.2.2.2 (4 * q + 1))] dL_law_273 rfl mlX6_pass vL_36 ⟨by decide, rfl⟩ okM1 rfl rfl (by decide) (cat_i cat_nil) (by simp) (by decide) (by first | decide | omega) (by first | decide | omega) (c_mPass hY1 hEk hW hI hT hP.1 (by omega) hR1 (by omega)) ?_
  rintro v n2 i2 r2 ⟨q1, q2, q3, ho2, hR2⟩
  rw [q1, q2, q3]
  refine go_icmp_eq (z := 644) (z2 := 279) dL_law_276 rfl (by decide) (fun _ => ?_) (fun h => absurd rfl h)
  exact go_less (next _ _ _ _ _ _ ((hS.fin hC1 ho1 ho2 hR2 (hA.pass hEk _) (PA.pass hP hA hEk hW (by omega) _)).more (by omega) (by omega))) (Nat.le_refl _) (by omega) (by omega)
theorem lw_c_lose (hS : LwS G C K O E Gd A n i r) (hl : G.2.2.2.1 ≤ 2048) (hq : 4 * q + 4 ≤ G.2.2.2.1) (hK : K + 1969350 ≤ 2 ^ 30) (hO : O + 2500000 < 2 ^ 31) (hk : 60 ≤ k) (hj : 420 ≤ j) (next : LwN l G nm C K O (k - 60) (j - 420) q Q) : Go l G (mLw nm) 11 k j 281 (lwLo G C q) [] n i r Q := by
  have hL := hS.1.1
  have hC := hS.2.1.1
  have hE := hS.2.1.2.1
  obtain ⟨hgn, hgC, h60, hEk⟩ := hS.gn
  have hY := hS.2.2.1.1
  have hR := hS.2.2.1.2
  have hW := hS.2.2.2.1
  have hA := hS.2.2.2.2.1
  have hP := hS.2.2.2.2.2
  have hq0 := AInv.q hA.1 hE
  obtain ⟨T, hT, hI⟩ := id hA.1
  have okC := hL.1
  have okM := hY.1.1
  refine go_aload_n (z := 282) dL_law_281 rfl rfl ?_
  refine go_aload_n (z := 283) dL_law_282 rfl rfl ?_
  refine go_iload_n (z := 284) dL_law_283 rfl rfl ?_
  refine go_iconst (z := 285) (v := 1) dL_law_284 rfl (by decide) ?_
  refine go_iadd (z := 286) dL_law_285 rfl ?_
  refine go_sld (z := 287) (4 * q + 1) (by omega) (nI_add (4 * q) 1) (by omega) dL_law_286 rfl ?_
  refine go_callV (z := 290) (t := 5) [.int (G.2.2.2.2 (4 * q + 1))] dL_law_287 rfl mlX5_lose vL_37 ⟨by decide, rfl⟩ okC rfl rfl (by decide) (cat_i cat_nil) (by simp) (by decide) (by first | decide | omega) (by first | decide | omega) (c_ceLose hL hC hq0 (fun y hy => (hA.ms.1 y hy).1)) ?_
  rintro v n1 i1 r1 ⟨p1, p2, hC1, ho1⟩
  obtain ⟨hY1, hR1⟩ := hS.mid ho1
  have okM1 := hY1.1.1
  rw [p1, p2]
  refine go_aload_n (z := 291) dL_law_290 rfl rfl ?_
  refine go_aload_n (z := 292) dL_law_291 rfl rfl ?_
  refine go_iload_n (z := 293) dL_law_292 rfl rfl ?_
  refine go_iconst (z := 294) (v := 1) dL_law_293 rfl (by decide) ?_
  refine go_iadd (z := 295) dL_law_294 rfl ?_
  refine go_sld (z := 296) (4 * q + 1) (by omega) (nI_add (4 * q) 1) (by omega) dL_law_295 rfl ?_
  refine go_callV (z := 299) (t := 6) [.int (G.2.2.2.2 (4 * q + 1))] dL_law_296 rfl mlX6_lose vL_40 ⟨by decide, rfl⟩ okM1 rfl rfl (by decide) (cat_i cat_nil) (by simp) (by decide) (by first | decide | omega) (by first | decide | omega) (c_mLose hY1 hA.ms.1 hR1) ?_
  rintro v n2 i2 r2 ⟨q1, q2, q3, ho2, hR2⟩
  rw [q1, q2, q3]
  refine go_icmp_eq (z := 644) (z2 := 302) dL_law_299 rfl (by decide) (fun _ => ?_) (fun h => absurd rfl h)
  exact go_less (next _ _ _ _ _ _ ((hS.fin hC1 ho1 ho2 hR2 (hA.lose _) (PA.lose hP hA _)).more (by omega) (by omega))) (Nat.le_refl _) (by omega) (by omega)
theorem lw_c_good (hS : LwS G C K O E Gd A n i r) (hl : G.2.2.2.1 ≤ 2048) (hq : 4 * q + 4 ≤ G.2.2.2.1) (hK : K + 1969350 ≤ 2 ^ 30) (hO : O + 2500000 < 2 ^ 31) (hk : 60 ≤ k) (hj : 420 ≤ j) (next : LwN l G nm C K O (k - 60) (j - 420) q Q) : Go l G (mLw nm) 11 k j 304 (lwLo G C q) [] n i r Q := by
  have hL := hS.1.1
  have hC := hS.2.1.1
  have hE := hS.2.1.2.1
  obtain ⟨hgn, hgC, h60, hEk⟩ := hS.gn
  have hY := hS.2.2.1.1
  have hR := hS.2.2.1.2
  have hW := hS.2.2.2.1
  have hA := hS.2.2.2.2.1
  have hP := hS.2.2.2.2.2
  have hq0 := AInv.q hA.1 hE
  obtain ⟨T, hT, hI⟩ := id hA.1
  have okC := hL.1
  have okM := hY.1.1
  refine go_aload_n (z := 305) dL_law_304 rfl rfl ?_
  refine go_callV (z := 308) (t := 5) [] dL_law_305 rfl mlX5_makeGood vL_41 ⟨by decide, rfl⟩ okC rfl rfl (by decide) cat_nil (by simp) (by decide) (by first | decide | omega) (by first | decide | omega) (c_ceGood hL hC hE hgC hq0 (hI.good hEk (Nat.le_refl _)).1) ?_
  rintro v n1 i1 r1 ⟨p1, p2, hC1, ho1⟩
  obtain ⟨hY1, hR1⟩ := hS.mid ho1
  have okM1 := hY1.1.1
  rw [p1, p2]
  refine go_aload_n (z := 309) dL_law_308 rfl rfl ?_
  refine go_callV (z := 312) (t := 6) [] dL_law_309 rfl mlX6_makeGood vL_44 ⟨by decide, rfl⟩ okM1 rfl rfl (by decide) cat_nil (by simp) (by decide) (by first | decide | omega) (by first | decide | omega) (c_mGood hY1 hEk (hI.good hEk (Nat.le_refl _)).1 hR1) ?_
  rintro v n2 i2 r2 ⟨q1, q2, q3, ho2, hR2⟩
  rw [q1, q2, q3]
  refine go_icmp_eq (z := 644) (z2 := 315) dL_law_312 rfl (by decide) (fun _ => ?_) (fun h => absurd rfl h)
  exact go_less (next _ _ _ _ _ _ ((hS.fin hC1 ho1 ho2 hR2 (hA.good hEk) (PA.good hP hA hEk)).more (by omega) (by omega))) (Nat.le_refl _) (by omega) (by omega)
end LAWC
