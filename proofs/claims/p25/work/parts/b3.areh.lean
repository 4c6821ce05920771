/-! P25: areHouses -/
theorem sum_take {g : Nat → Nat} {q : List Nat} {p a : Nat} (ha : q[p]? = some a) : ((q.take (p + 1)).map g).sum = ((q.take p).map g).sum + g a := by
  rw [List.take_succ, ha]
  simp
theorem sumM_take {E : EE} {ms : List Mg} {k : Nat} {x : Mg} (hx : ms[k]? = some x) : sumM E (ms.take (k + 1)) = sumM E (ms.take k) + sz E x.2 := by
  rw [List.take_succ, hx]
  unfold sumM
  simp
theorem cnt_take {h : Nat} {ms : List Mg} {k : Nat} {x : Mg} (hx : ms[k]? = some x) : (ms.take (k + 1)).countP (agOf h) = (ms.take k).countP (agOf h) + agN h x := by
  rw [List.take_succ, hx]
  show (ms.take k ++ [x]).countP (agOf h) = _
  rw [List.countP_append]
  unfold agN
  rw [List.countP_cons]
  simp
section PAREH
variable {l : Launch} {G : GG} {n : Nat} {i : IP} {r : RP} {C : Nat} {E : EE} {Gd : Nat → Prop} {A : AP}
theorem c_areHouses {T B : Nat} {c0 c1 c3 : Int32} (hV : VW G n C E Gd A i r) (hI : Inv E Gd T T (fun _ => T) A.1) (hK : CI 0 c0 c1 c3 B 0 (fun _ => 0) (fun _ => True) (fun _ => c3 = 0) A.1) (hCc : OkA G n (C + 1105) 7 4) (hc3 : i (C + 1105) 3 = c3) (hEk : EOk E Gd) (hW : EW E Gd) : Go l G mL_areHouses 4 0 0 0 (lentry [.ref C, .ref (C + 1105)] 8) [] n i r (RetI 1 n i r) := by
  obtain ⟨hL, hC, hE, hgQ, hgM, hl⟩ := hV
  have okC := hL.1
  have t6 : aTot A 6 = nI A.1.2.2.2.2.length := tot_v.2.2.2.2.2.2.1
  have hall := hI.2.2.2.2.1
  have msg3 : ∀ d k (o4 o5 o6 o7 : Option Value), k + d = A.1.2.2.2.2.length → Go l G mL_areHouses 4 0 0 326 [some (.ref C), some (.ref (C + 1105)), some (.int (nI (sumQ E A.1.2.2.2.1 6 + sumM E (A.1.2.2.2.2.take k)))), some (.int (nI k)), o4, o5, o6, o7] [] n i r (RetI 1 n i r) := by
    intro d
    induction d with
    | zero =>
      intro k o4 o5 o6 o7 hk
      have hk2 : k = A.1.2.2.2.2.length := by omega
      subst hk2
      rw [List.take_of_length_le (Nat.le_refl _)]
      refine go_iload_n (z := 327) dL_areHouses_326 rfl rfl ?_
      refine go_aload_n (z := 328) dL_areHouses_327 rfl rfl ?_
      refine go_bipush (z := 330) (v := 6) dL_areHouses_328 rfl (by decide) ?_
      refine go_callV (z := 333) (t := 5) [.int 6] dL_areHouses_330 rfl mlX5_total vL_30 ⟨by decide, rfl⟩ okC rfl rfl (by decide) (cat_i cat_nil) (by simp) (by decide) (by first | decide | omega) (by first | decide | omega) (c_ceTot hL hC) ?_
      refine ret_elim ?_
      rw [t6]
      refine go_icmp_ge (z := 352) (z2 := 336) dL_areHouses_333 rfl (by decide) (fun _ => ?_) (fun h => absurd (nI_le (by omega) (by omega)) h)
      unfold mAll at hall
      refine go_iload_n (z := 353) dL_areHouses_352 rfl rfl ?_
      refine go_bipush (z := 355) (v := 80) dL_areHouses_353 rfl (by decide) ?_
      refine go_icmp_gt (z := 362) (z2 := 358) dL_areHouses_355 rfl (by decide) (fun h => absurd h (nI_nlt (b := sumQ E A.1.2.2.2.1 6 + sumM E A.1.2.2.2.2) (a := 80) hall (by omega))) (fun _ => ?_)
      refine go_iconst (z := 359) (v := 1) dL_areHouses_358 rfl (by decide) ?_
      refine go_goto (z := 363) dL_areHouses_359 (by decide) ?_
      exact go_zret dL_areHouses_363 rfl (congrArg Value.int (by decide)) ret_ok
    | succ d ih =>
      intro k o4 o5 o6 o7 hk
      obtain ⟨x, hx⟩ : ∃ x, A.1.2.2.2.2[k]? = some x := ⟨_, List.getElem?_eq_getElem (show k < A.1.2.2.2.2.length by omega)⟩
      have v6 := (msg_v (E := E) hx (by omega)).2.2.2.2.2.2
      rw [eAll_sz] at v6
      refine go_iload_n (z := 327) dL_areHouses_326 rfl rfl ?_
      refine go_aload_n (z := 328) dL_areHouses_327 rfl rfl ?_
      refine go_bipush (z := 330) (v := 6) dL_areHouses_328 rfl (by decide) ?_
      refine go_callV (z := 333) (t := 5) [.int 6] dL_areHouses_330 rfl mlX5_total vL_30 ⟨by decide, rfl⟩ okC rfl rfl (by decide) (cat_i cat_nil) (by simp) (by decide) (by first | decide | omega) (by first | decide | omega) (c_ceTot hL hC) ?_
      refine ret_elim ?_
      rw [t6]
      refine go_icmp_ge (z := 352) (z2 := 336) dL_areHouses_333 rfl (by decide) (fun h => absurd h (nI_ge (by omega) (by omega))) (fun _ => ?_)
      refine go_iload_n (z := 337) dL_areHouses_336 rfl rfl ?_
      refine go_aload_n (z := 338) dL_areHouses_337 rfl rfl ?_
      refine go_iload_n (z := 339) dL_areHouses_338 rfl rfl ?_
      refine go_bipush (z := 341) (v := 6) dL_areHouses_339 rfl (by decide) ?_
      refine go_callV (z := 344) (t := 5) [.int (nI k), .int 6] dL_areHouses_341 rfl mlX5_message vL_34 ⟨by decide, rfl⟩ okC rfl rfl (by decide) (cat_i (cat_i cat_nil)) (by simp) (by decide) (by first | decide | omega) (by first | decide | omega) (c_ceMsg hL hC hE hgM) ?_
      refine ret_elim ?_
      rw [v6]
      refine go_iadd (z := 345) dL_areHouses_344 rfl ?_
      refine go_istore_n (z := 346) dL_areHouses_345 rfl (by decide) ?_
      refine go_iinc (z := 349) dL_areHouses_346 rfl rfl (nI_1 k) (by decide) ?_
      refine go_goto (z := 326) dL_areHouses_349 (by decide) ?_
      rw [nI_add]
      refine go_lo ?_ (ih (k + 1) o4 o5 o6 o7 (by omega))
      rw [sumM_take hx, ← Nat.add_assoc]
      rfl
  refine go_iconst (z := 1) (v := 0) dL_areHouses_0 rfl (by decide) ?_
  refine go_istore_n (z := 2) dL_areHouses_1 rfl (by decide) ?_
  refine go_iconst (z := 3) (v := 0) dL_areHouses_2 rfl (by decide) ?_
  refine go_istore_n (z := 4) dL_areHouses_3 rfl (by decide) ?_
  have loop : ∀ d h (o4 o5 o6 o7 : Option Value), h + d = 6 → Go l G mL_areHouses 4 0 0 4 [some (.ref C), some (.ref (C + 1105)), some (.int (nI (sumQ E A.1.2.2.2.1 h))), some (.int (nI h)), o4, o5, o6, o7] [] n i r (RetI 1 n i r) := by
    intro d
    induction d with
    | zero =>
      intro h o4 o5 o6 o7 hh
      have hh : h = 6 := by omega
      subst hh
      refine go_iload_n (z := 5) dL_areHouses_4 rfl rfl ?_
      refine go_bipush (z := 7) (v := 6) dL_areHouses_5 rfl (by decide) ?_
      refine go_icmp_ge (z := 324) (z2 := 10) dL_areHouses_7 rfl (by decide) (fun _ => ?_) (fun h => absurd (by decide) h)
      refine go_iconst (z := 325) (v := 0) dL_areHouses_324 rfl (by decide) ?_
      refine go_istore_n (z := 326) dL_areHouses_325 rfl (by decide) ?_
      exact go_lo rfl (msg3 A.1.2.2.2.2.length 0 o4 o5 o6 o7 (by omega))
    | succ d ih =>
      intro h o4 o5 o6 o7 hh
      have hh6 : h < 6 := by omega
      obtain ⟨w0, w1, w2, w3, w4⟩ := hou_v (A := A) hh6
      obtain ⟨a1, a2, a3, a4, a5, a6, a7, a8, a9⟩ := hK.2.2.1 h hh6
      have a6 : A.1.2.2.2.2.countP (agOf h) + 0 + n01 (A.1.2.2.1 h 5) = n01 (A.1.2.2.1 h 4) := a6
      have hql := hI.qlen hEk hh6
      have hqg := hI.2.2.1 h hh6
      rw [a9] at w3
      have hb4 : (if A.1.2.2.1 h 4 = 0 then 0 else 1 : Int32) = nI (n01 (A.1.2.2.1 h 4)) := by
        unfold n01
        split
        · rfl
        · rfl
      rw [hb4] at w4
      have n4 := n01_le (A.1.2.2.1 h 4)
      have q2 : ∀ d p (o4 o5 o7 : Option Value), p + d = (A.1.2.2.2.1 h).length → Go l G mL_areHouses 4 0 0 205 [some (.ref C), some (.ref (C + 1105)), some (.int (nI (sumQ E A.1.2.2.2.1 h + (((A.1.2.2.2.1 h).take p).map E.2.2.1).sum))), some (.int (nI h)), o4, o5, some (.int (nI p)), o7] [] n i r (RetI 1 n i r) := by
        intro d2
        induction d2 with
        | zero =>
          intro p o4 o5 o7 hp
          refine go_iload (z := 207) dL_areHouses_205 rfl rfl ?_
          refine go_aload_n (z := 208) dL_areHouses_207 rfl rfl ?_
          refine go_iload_n (z := 209) dL_areHouses_208 rfl rfl ?_
          refine go_iconst (z := 210) (v := 3) dL_areHouses_209 rfl (by decide) ?_
          refine go_callV (z := 213) (t := 5) [.int (nI h), .int 3] dL_areHouses_210 rfl mlX5_house vL_37 ⟨by decide, rfl⟩ okC rfl rfl (by decide) (cat_i (cat_i cat_nil)) (by simp) (by decide) (by first | decide | omega) (by first | decide | omega) (c_ceHouse hL hC) ?_
          refine ret_elim ?_
          rw [w3]
          refine go_icmp_ge (z := 299) (z2 := 216) dL_areHouses_213 rfl (by decide) (fun _ => ?_) (fun h => absurd (nI_le (by omega) (by omega)) h)
          refine go_aload_n (z := 300) dL_areHouses_299 rfl rfl ?_
          refine go_iload_n (z := 301) dL_areHouses_300 rfl rfl ?_
          refine go_aload_n (z := 302) dL_areHouses_301 rfl rfl ?_
          refine go_iload_n (z := 303) dL_areHouses_302 rfl rfl ?_
          refine go_iconst (z := 304) (v := 3) dL_areHouses_303 rfl (by decide) ?_
          refine go_callV (z := 307) (t := 5) [.int (nI h), .int 3] dL_areHouses_304 rfl mlX5_house vL_37 ⟨by decide, rfl⟩ okC rfl rfl (by decide) (cat_i (cat_i cat_nil)) (by simp) (by decide) (by first | decide | omega) (by first | decide | omega) (c_ceHouse hL hC) ?_
          refine ret_elim ?_
          rw [w3]
          refine go_iconst (z := 308) (v := 0) dL_areHouses_307 rfl (by decide) ?_
          refine go_callV (z := 311) (t := 5) [.int (nI h), .int (nI (A.1.2.2.2.1 h).length), .int 0] dL_areHouses_308 rfl mlX5_waiting vL_40 ⟨by decide, rfl⟩ okC rfl rfl (by decide) (cat_i (cat_i (cat_i cat_nil))) (by simp) (by decide) (by first | decide | omega) (by first | decide | omega) (c_ceWait hL hC hE hgQ) ?_
          refine ret_elim ?_
          rw [wai_at hh6 (by omega) (by decide) (by decide), List.getElem?_eq_none (Nat.le_refl _)]
          refine go_bipush (z := 313) (v := (-5)) dL_areHouses_311 rfl (by decide) ?_
          refine go_icmp_eq (z := 318) (z2 := 316) dL_areHouses_313 rfl (by decide) (fun _ => ?_) (fun h => absurd rfl h)
          refine go_iinc (z := 321) dL_areHouses_318 rfl rfl (nI_1 h) (by decide) ?_
          refine go_goto (z := 4) dL_areHouses_321 (by decide) ?_
          refine go_lo ?_ (ih (h + 1) o4 o5 (some (.int (nI p))) o7 (by omega))
          rw [List.take_of_length_le (by omega)]
          rfl
        | succ d2 ih2 =>
          intro p o4 o5 o7 hp
          obtain ⟨a, ha⟩ : ∃ a, (A.1.2.2.2.1 h)[p]? = some a := ⟨_, List.getElem?_eq_getElem (show p < (A.1.2.2.2.1 h).length by omega)⟩
          have hg := hqg a (List.mem_of_getElem? ha)
          obtain ⟨u0, u1, u2, u3⟩ := wai_v (A := A) (E := E) hh6 (show p < 2 ^ 31 by omega) ha
          obtain ⟨w, b1, b2⟩ := hW a hg
          rw [b2] at u1
          have hEa := hEk a hg
          have hkid := hEk.kids hg
          refine go_iload (z := 207) dL_areHouses_205 rfl rfl ?_
          refine go_aload_n (z := 208) dL_areHouses_207 rfl rfl ?_
          refine go_iload_n (z := 209) dL_areHouses_208 rfl rfl ?_
          refine go_iconst (z := 210) (v := 3) dL_areHouses_209 rfl (by decide) ?_
          refine go_callV (z := 213) (t := 5) [.int (nI h), .int 3] dL_areHouses_210 rfl mlX5_house vL_37 ⟨by decide, rfl⟩ okC rfl rfl (by decide) (cat_i (cat_i cat_nil)) (by simp) (by decide) (by first | decide | omega) (by first | decide | omega) (c_ceHouse hL hC) ?_
          refine ret_elim ?_
          rw [w3]
          refine go_icmp_ge (z := 299) (z2 := 216) dL_areHouses_213 rfl (by decide) (fun h => absurd h (nI_ge (by omega) (by omega))) (fun _ => ?_)
          refine go_aload_n (z := 217) dL_areHouses_216 rfl rfl ?_
          refine go_iload_n (z := 218) dL_areHouses_217 rfl rfl ?_
          refine go_iload (z := 220) dL_areHouses_218 rfl rfl ?_
          refine go_iconst (z := 221) (v := 3) dL_areHouses_220 rfl (by decide) ?_
          refine go_callV (z := 224) (t := 5) [.int (nI h), .int (nI p), .int 3] dL_areHouses_221 rfl mlX5_waiting vL_40 ⟨by decide, rfl⟩ okC rfl rfl (by decide) (cat_i (cat_i (cat_i cat_nil))) (by simp) (by decide) (by first | decide | omega) (by first | decide | omega) (c_ceWait hL hC hE hgQ) ?_
          refine ret_elim ?_
          rw [u3]
          refine go_istore (z := 226) dL_areHouses_224 rfl (by decide) ?_
          refine go_iload_n (z := 227) dL_areHouses_226 rfl rfl ?_
          refine go_iload (z := 229) dL_areHouses_227 rfl rfl ?_
          refine go_iadd (z := 230) dL_areHouses_229 rfl ?_
          refine go_istore_n (z := 231) dL_areHouses_230 rfl (by decide) ?_
          refine go_aload_n (z := 232) dL_areHouses_231 rfl rfl ?_
          refine go_iload_n (z := 233) dL_areHouses_232 rfl rfl ?_
          refine go_iload (z := 235) dL_areHouses_233 rfl rfl ?_
          refine go_iconst (z := 236) (v := 0) dL_areHouses_235 rfl (by decide) ?_
          refine go_callV (z := 239) (t := 5) [.int (nI h), .int (nI p), .int 0] dL_areHouses_236 rfl mlX5_waiting vL_40 ⟨by decide, rfl⟩ okC rfl rfl (by decide) (cat_i (cat_i (cat_i cat_nil))) (by simp) (by decide) (by first | decide | omega) (by first | decide | omega) (c_ceWait hL hC hE hgQ) ?_
          refine ret_elim ?_
          rw [u0]
          refine go_if_lt (z := 291) (z2 := 242) dL_areHouses_239 rfl (by decide) (fun h => absurd h (nI_pos (by omega))) (fun _ => ?_)
          refine go_aload_n (z := 243) dL_areHouses_242 rfl rfl ?_
          refine go_iload_n (z := 244) dL_areHouses_243 rfl rfl ?_
          refine go_iload (z := 246) dL_areHouses_244 rfl rfl ?_
          refine go_iconst (z := 247) (v := 0) dL_areHouses_246 rfl (by decide) ?_
          refine go_callV (z := 250) (t := 5) [.int (nI h), .int (nI p), .int 0] dL_areHouses_247 rfl mlX5_waiting vL_40 ⟨by decide, rfl⟩ okC rfl rfl (by decide) (cat_i (cat_i (cat_i cat_nil))) (by simp) (by decide) (by first | decide | omega) (by first | decide | omega) (c_ceWait hL hC hE hgQ) ?_
          refine ret_elim ?_
          rw [u0]
          refine go_iconst (z := 251) (v := 5) dL_areHouses_250 rfl (by decide) ?_
          refine go_icmp_gt (z := 291) (z2 := 254) dL_areHouses_251 rfl (by decide) (fun h => absurd h (nI_nlt (b := E.1 a) (a := 5) (by omega) (by omega))) (fun _ => ?_)
          refine go_aload_n (z := 255) dL_areHouses_254 rfl rfl ?_
          refine go_iload_n (z := 256) dL_areHouses_255 rfl rfl ?_
          refine go_iload (z := 258) dL_areHouses_256 rfl rfl ?_
          refine go_iconst (z := 259) (v := 1) dL_areHouses_258 rfl (by decide) ?_
          refine go_callV (z := 262) (t := 5) [.int (nI h), .int (nI p), .int 1] dL_areHouses_259 rfl mlX5_waiting vL_40 ⟨by decide, rfl⟩ okC rfl rfl (by decide) (cat_i (cat_i (cat_i cat_nil))) (by simp) (by decide) (by first | decide | omega) (by first | decide | omega) (c_ceWait hL hC hE hgQ) ?_
          refine ret_elim ?_
          rw [u1]
          refine go_if_lt (z := 291) (z2 := 265) dL_areHouses_262 rfl (by decide) (fun h => absurd h (nI_pos (by omega))) (fun _ => ?_)
          refine go_aload_n (z := 266) dL_areHouses_265 rfl rfl ?_
          refine go_iload_n (z := 267) dL_areHouses_266 rfl rfl ?_
          refine go_iload (z := 269) dL_areHouses_267 rfl rfl ?_
          refine go_iconst (z := 270) (v := 1) dL_areHouses_269 rfl (by decide) ?_
          refine go_callV (z := 273) (t := 5) [.int (nI h), .int (nI p), .int 1] dL_areHouses_270 rfl mlX5_waiting vL_40 ⟨by decide, rfl⟩ okC rfl rfl (by decide) (cat_i (cat_i (cat_i cat_nil))) (by simp) (by decide) (by first | decide | omega) (by first | decide | omega) (c_ceWait hL hC hE hgQ) ?_
          refine ret_elim ?_
          rw [u1]
          refine go_bipush (z := 275) (v := 20) dL_areHouses_273 rfl (by decide) ?_
          refine go_icmp_gt (z := 291) (z2 := 278) dL_areHouses_275 rfl (by decide) (fun h => absurd h (nI_nlt (b := w) (a := 20) (by omega) (by omega))) (fun _ => ?_)
          refine go_iload (z := 280) dL_areHouses_278 rfl rfl ?_
          refine go_aload_n (z := 281) dL_areHouses_280 rfl rfl ?_
          refine go_iload_n (z := 282) dL_areHouses_281 rfl rfl ?_
          refine go_iload (z := 284) dL_areHouses_282 rfl rfl ?_
          refine go_iconst (z := 285) (v := 2) dL_areHouses_284 rfl (by decide) ?_
          refine go_callV (z := 288) (t := 5) [.int (nI h), .int (nI p), .int 2] dL_areHouses_285 rfl mlX5_waiting vL_40 ⟨by decide, rfl⟩ okC rfl rfl (by decide) (cat_i (cat_i (cat_i cat_nil))) (by simp) (by decide) (by first | decide | omega) (by first | decide | omega) (c_ceWait hL hC hE hgQ) ?_
          refine ret_elim ?_
          rw [u2]
          refine go_icmp_gt (z := 293) (z2 := 291) dL_areHouses_288 rfl (by decide) (fun _ => ?_) (fun h => absurd (nI_lt (by omega) (by omega)) h)
          refine go_iinc (z := 296) dL_areHouses_293 rfl rfl (nI_1 p) (by decide) ?_
          refine go_goto (z := 205) dL_areHouses_296 (by decide) ?_
          rw [nI_add]
          refine go_lo ?_ (ih2 (p + 1) o4 o5 (some (.int (nI (E.2.2.1 a)))) (by omega))
          rw [sum_take ha, ← Nat.add_assoc]
          rfl
      have c202 : ∀ (o4 o5 o6 o7 : Option Value), Go l G mL_areHouses 4 0 0 202 [some (.ref C), some (.ref (C + 1105)), some (.int (nI (sumQ E A.1.2.2.2.1 h))), some (.int (nI h)), o4, o5, o6, o7] [] n i r (RetI 1 n i r) := by
        intro o4 o5 o6 o7
        refine go_iconst (z := 203) (v := 0) dL_areHouses_202 rfl (by decide) ?_
        refine go_istore (z := 205) dL_areHouses_203 rfl (by decide) ?_
        exact go_lo rfl (q2 (A.1.2.2.2.1 h).length 0 o4 o5 o7 (by omega))
      have c182 : ∀ (o4 o5 o6 o7 : Option Value), Go l G mL_areHouses 4 0 0 182 [some (.ref C), some (.ref (C + 1105)), some (.int (nI (sumQ E A.1.2.2.2.1 h))), some (.int (nI h)), o4, o5, o6, o7] [] n i r (RetI 1 n i r) := by
        intro o4 o5 o6 o7
        refine go_aload_n (z := 183) dL_areHouses_182 rfl rfl ?_
        refine go_iload_n (z := 184) dL_areHouses_183 rfl rfl ?_
        refine go_iconst (z := 185) (v := 3) dL_areHouses_184 rfl (by decide) ?_
        refine go_callV (z := 188) (t := 5) [.int (nI h), .int 3] dL_areHouses_185 rfl mlX5_house vL_37 ⟨by decide, rfl⟩ okC rfl rfl (by decide) (cat_i (cat_i cat_nil)) (by simp) (by decide) (by first | decide | omega) (by first | decide | omega) (c_ceHouse hL hC) ?_
        refine ret_elim ?_
        rw [w3]
        refine go_if_le (z := 202) (z2 := 191) dL_areHouses_188 rfl (by decide) (fun _ => c202 _ _ _ _) (fun hq => ?_)
        have h4 : A.1.2.2.1 h 4 = 1 := a7 trivial (fun q => hq (by rw [q]; decide))
        refine go_aload_n (z := 192) dL_areHouses_191 rfl rfl ?_
        refine go_iload_n (z := 193) dL_areHouses_192 rfl rfl ?_
        refine go_iconst (z := 194) (v := 4) dL_areHouses_193 rfl (by decide) ?_
        refine go_callV (z := 197) (t := 5) [.int (nI h), .int 4] dL_areHouses_194 rfl mlX5_house vL_37 ⟨by decide, rfl⟩ okC rfl rfl (by decide) (cat_i (cat_i cat_nil)) (by simp) (by decide) (by first | decide | omega) (by first | decide | omega) (c_ceHouse hL hC) ?_
        refine ret_elim ?_
        rw [w4]
        refine go_if_ne (z := 202) (z2 := 200) dL_areHouses_197 rfl (by decide) (fun _ => c202 _ _ _ _) (fun hq => ?_)
        rw [h4] at hq
        exact absurd hq (by decide)
      have c154 : ∀ (o4 o6 o7 : Option Value), Go l G mL_areHouses 4 0 0 154 [some (.ref C), some (.ref (C + 1105)), some (.int (nI (sumQ E A.1.2.2.2.1 h))), some (.int (nI h)), o4, some (.int (nI (A.1.2.2.2.2.countP (agOf h)))), o6, o7] [] n i r (RetI 1 n i r) := by
        intro o4 o6 o7
        refine go_iload (z := 156) dL_areHouses_154 rfl rfl ?_
        refine go_aload_n (z := 157) dL_areHouses_156 rfl rfl ?_
        refine go_iload_n (z := 158) dL_areHouses_157 rfl rfl ?_
        refine go_iconst (z := 159) (v := 4) dL_areHouses_158 rfl (by decide) ?_
        refine go_callV (z := 162) (t := 5) [.int (nI h), .int 4] dL_areHouses_159 rfl mlX5_house vL_37 ⟨by decide, rfl⟩ okC rfl rfl (by decide) (cat_i (cat_i cat_nil)) (by simp) (by decide) (by first | decide | omega) (by first | decide | omega) (c_ceHouse hL hC) ?_
        refine ret_elim ?_
        rw [w4]
        refine go_icmp_gt (z := 200) (z2 := 165) dL_areHouses_162 rfl (by decide) (fun hq => absurd hq (nI_nlt (by omega) (by omega))) (fun _ => ?_)
        refine go_aload_n (z := 166) dL_areHouses_165 rfl rfl ?_
        refine go_iconst (z := 167) (v := 3) dL_areHouses_166 rfl (by decide) ?_
        refine go_iald (z := 168) 3 hCc (by decide) rfl (by omega) dL_areHouses_167 rfl ?_
        rw [hc3]
        refine go_if_ne (z := 182) (z2 := 171) dL_areHouses_168 rfl (by decide) (fun _ => c182 _ _ _ _) (fun hq => ?_)
        have h5 : n01 (A.1.2.2.1 h 5) = 0 := by rw [a8 hq]; rfl
        refine go_iload (z := 173) dL_areHouses_171 rfl rfl ?_
        refine go_aload_n (z := 174) dL_areHouses_173 rfl rfl ?_
        refine go_iload_n (z := 175) dL_areHouses_174 rfl rfl ?_
        refine go_iconst (z := 176) (v := 4) dL_areHouses_175 rfl (by decide) ?_
        refine go_callV (z := 179) (t := 5) [.int (nI h), .int 4] dL_areHouses_176 rfl mlX5_house vL_37 ⟨by decide, rfl⟩ okC rfl rfl (by decide) (cat_i (cat_i cat_nil)) (by simp) (by decide) (by first | decide | omega) (by first | decide | omega) (c_ceHouse hL hC) ?_
        refine ret_elim ?_
        rw [w4]
        refine go_icmp_ne (z := 200) (z2 := 182) dL_areHouses_179 rfl (by decide) (fun hq => absurd (congrArg nI (by omega)) hq) (fun _ => c182 _ _ _ _)
      have c104 : ∀ (o6 o7 : Option Value), Go l G mL_areHouses 4 0 0 104 [some (.ref C), some (.ref (C + 1105)), some (.int (nI (sumQ E A.1.2.2.2.1 h))), some (.int (nI h)), some (.int (if A.1.2.2.1 h 0 = 0 then 0 else 1)), some (.int (nI (A.1.2.2.2.2.countP (agOf h)))), o6, o7] [] n i r (RetI 1 n i r) := by
        intro o6 o7
        rcases a1 with q | q
        · obtain ⟨z1, z2, z3, z4⟩ := a5 q
          have x1 : aHouse A (nI h) 1 = 0 := w1.trans z1
          have x2 : aHouse A (nI h) 2 = 0 := w2.trans z2
          have x3 : aHouse A (nI h) 3 = 0 := by rw [w3, z3]; rfl
          have x4 : aHouse A (nI h) 4 = 0 := by rw [w4, z4]; rfl
          rw [if_pos q]
          refine go_iload (z := 106) dL_areHouses_104 rfl rfl ?_
          refine go_if_eq (z := 122) (z2 := 109) dL_areHouses_106 rfl (by decide) (fun _ => ?_) (fun hq => absurd rfl hq)
          refine go_aload_n (z := 123) dL_areHouses_122 rfl rfl ?_
          refine go_iload_n (z := 124) dL_areHouses_123 rfl rfl ?_
          refine go_iconst (z := 125) (v := 1) dL_areHouses_124 rfl (by decide) ?_
          refine go_callV (z := 128) (t := 5) [.int (nI h), .int 1] dL_areHouses_125 rfl mlX5_house vL_37 ⟨by decide, rfl⟩ okC rfl rfl (by decide) (cat_i (cat_i cat_nil)) (by simp) (by decide) (by first | decide | omega) (by first | decide | omega) (c_ceHouse hL hC) ?_
          refine ret_elim ?_
          rw [x1]
          refine go_aload_n (z := 129) dL_areHouses_128 rfl rfl ?_
          refine go_iload_n (z := 130) dL_areHouses_129 rfl rfl ?_
          refine go_iconst (z := 131) (v := 2) dL_areHouses_130 rfl (by decide) ?_
          refine go_callV (z := 134) (t := 5) [.int (nI h), .int 2] dL_areHouses_131 rfl mlX5_house vL_37 ⟨by decide, rfl⟩ okC rfl rfl (by decide) (cat_i (cat_i cat_nil)) (by simp) (by decide) (by first | decide | omega) (by first | decide | omega) (c_ceHouse hL hC) ?_
          refine ret_elim ?_
          rw [x2]
          refine go_iadd (z := 135) dL_areHouses_134 rfl ?_
          refine go_aload_n (z := 136) dL_areHouses_135 rfl rfl ?_
          refine go_iload_n (z := 137) dL_areHouses_136 rfl rfl ?_
          refine go_iconst (z := 138) (v := 3) dL_areHouses_137 rfl (by decide) ?_
          refine go_callV (z := 141) (t := 5) [.int (nI h), .int 3] dL_areHouses_138 rfl mlX5_house vL_37 ⟨by decide, rfl⟩ okC rfl rfl (by decide) (cat_i (cat_i cat_nil)) (by simp) (by decide) (by first | decide | omega) (by first | decide | omega) (c_ceHouse hL hC) ?_
          refine ret_elim ?_
          rw [x3]
          refine go_iadd (z := 142) dL_areHouses_141 rfl ?_
          refine go_aload_n (z := 143) dL_areHouses_142 rfl rfl ?_
          refine go_iload_n (z := 144) dL_areHouses_143 rfl rfl ?_
          refine go_iconst (z := 145) (v := 4) dL_areHouses_144 rfl (by decide) ?_
          refine go_callV (z := 148) (t := 5) [.int (nI h), .int 4] dL_areHouses_145 rfl mlX5_house vL_37 ⟨by decide, rfl⟩ okC rfl rfl (by decide) (cat_i (cat_i cat_nil)) (by simp) (by decide) (by first | decide | omega) (by first | decide | omega) (c_ceHouse hL hC) ?_
          refine ret_elim ?_
          rw [x4]
          refine go_iadd (z := 149) dL_areHouses_148 rfl ?_
          exact go_if_le (z := 154) (z2 := 152) dL_areHouses_149 rfl (by decide) (fun _ => c154 _ _ _) (fun hq => absurd (by decide) hq)
        · have hb := a4 q
          rw [if_neg (by rw [q]; decide)]
          refine go_iload (z := 106) dL_areHouses_104 rfl rfl ?_
          refine go_if_eq (z := 122) (z2 := 109) dL_areHouses_106 rfl (by decide) (fun hq => absurd hq (by decide)) (fun _ => ?_)
          refine go_aload_n (z := 110) dL_areHouses_109 rfl rfl ?_
          refine go_iload_n (z := 111) dL_areHouses_110 rfl rfl ?_
          refine go_iconst (z := 112) (v := 1) dL_areHouses_111 rfl (by decide) ?_
          refine go_callV (z := 115) (t := 5) [.int (nI h), .int 1] dL_areHouses_112 rfl mlX5_house vL_37 ⟨by decide, rfl⟩ okC rfl rfl (by decide) (cat_i (cat_i cat_nil)) (by simp) (by decide) (by first | decide | omega) (by first | decide | omega) (c_ceHouse hL hC) ?_
          refine ret_elim ?_
          rw [w1]
          refine go_iconst (z := 116) (v := 1) dL_areHouses_115 rfl (by decide) ?_
          exact go_icmp_ge (z := 154) (z2 := 119) dL_areHouses_116 rfl (by decide) (fun _ => c154 _ _ _) (fun hq => absurd hb hq)
      have m1 : ∀ d k (o7 : Option Value), k + d = A.1.2.2.2.2.length → Go l G mL_areHouses 4 0 0 33 [some (.ref C), some (.ref (C + 1105)), some (.int (nI (sumQ E A.1.2.2.2.1 h))), some (.int (nI h)), some (.int (if A.1.2.2.1 h 0 = 0 then 0 else 1)), some (.int (nI ((A.1.2.2.2.2.take k).countP (agOf h)))), some (.int (nI k)), o7] [] n i r (RetI 1 n i r) := by
        intro d3
        induction d3 with
        | zero =>
          intro k o7 hk
          refine go_iload (z := 35) dL_areHouses_33 rfl rfl ?_
          refine go_aload_n (z := 36) dL_areHouses_35 rfl rfl ?_
          refine go_bipush (z := 38) (v := 6) dL_areHouses_36 rfl (by decide) ?_
          refine go_callV (z := 41) (t := 5) [.int 6] dL_areHouses_38 rfl mlX5_total vL_30 ⟨by decide, rfl⟩ okC rfl rfl (by decide) (cat_i cat_nil) (by simp) (by decide) (by first | decide | omega) (by first | decide | omega) (c_ceTot hL hC) ?_
          refine ret_elim ?_
          rw [t6]
          refine go_icmp_ge (z := 104) (z2 := 44) dL_areHouses_41 rfl (by decide) (fun _ => ?_) (fun h => absurd (nI_le (by omega) (by omega)) h)
          rw [List.take_of_length_le (by omega)]
          exact c104 _ _
        | succ d3 ih3 =>
          intro k o7 hk
          obtain ⟨x, hx⟩ : ∃ x, A.1.2.2.2.2[k]? = some x := ⟨_, List.getElem?_eq_getElem (show k < A.1.2.2.2.2.length by omega)⟩
          obtain ⟨v0, v1, v2, -⟩ := msg_v (E := E) hx (show k < 2 ^ 31 by omega)
          refine go_iload (z := 35) dL_areHouses_33 rfl rfl ?_
          refine go_aload_n (z := 36) dL_areHouses_35 rfl rfl ?_
          refine go_bipush (z := 38) (v := 6) dL_areHouses_36 rfl (by decide) ?_
          refine go_callV (z := 41) (t := 5) [.int 6] dL_areHouses_38 rfl mlX5_total vL_30 ⟨by decide, rfl⟩ okC rfl rfl (by decide) (cat_i cat_nil) (by simp) (by decide) (by first | decide | omega) (by first | decide | omega) (c_ceTot hL hC) ?_
          refine ret_elim ?_
          rw [t6]
          refine go_icmp_ge (z := 104) (z2 := 44) dL_areHouses_41 rfl (by decide) (fun h => absurd h (nI_ge (by omega) (by omega))) (fun _ => ?_)
          have c95 : ∀ v, v = agN h x → Go l G mL_areHouses 4 0 0 95 [some (.ref C), some (.ref (C + 1105)), some (.int (nI (sumQ E A.1.2.2.2.1 h))), some (.int (nI h)), some (.int (if A.1.2.2.1 h 0 = 0 then 0 else 1)), some (.int (nI ((A.1.2.2.2.2.take k).countP (agOf h)))), some (.int (nI k)), o7] [.int (nI v), .int (nI ((A.1.2.2.2.2.take k).countP (agOf h)))] n i r (RetI 1 n i r) := by
            intro v hv
            refine go_iadd (z := 96) dL_areHouses_95 rfl ?_
            refine go_istore (z := 98) dL_areHouses_96 rfl (by decide) ?_
            refine go_iinc (z := 101) dL_areHouses_98 rfl rfl (nI_1 k) (by decide) ?_
            refine go_goto (z := 33) dL_areHouses_101 (by decide) ?_
            rw [nI_add]
            refine go_lo ?_ (ih3 (k + 1) o7 (by omega))
            rw [cnt_take hx, hv]
            rfl
          have c94 : agOf h x = false → Go l G mL_areHouses 4 0 0 94 [some (.ref C), some (.ref (C + 1105)), some (.int (nI (sumQ E A.1.2.2.2.1 h))), some (.int (nI h)), some (.int (if A.1.2.2.1 h 0 = 0 then 0 else 1)), some (.int (nI ((A.1.2.2.2.2.take k).countP (agOf h)))), some (.int (nI k)), o7] [.int (nI ((A.1.2.2.2.2.take k).countP (agOf h)))] n i r (RetI 1 n i r) := by
            intro hf
            refine go_iconst (z := 95) (v := 0) dL_areHouses_94 rfl (by decide) ?_
            refine c95 0 ?_
            unfold agN
            rw [hf]
            rfl
          have c90 : agOf h x = true → Go l G mL_areHouses 4 0 0 90 [some (.ref C), some (.ref (C + 1105)), some (.int (nI (sumQ E A.1.2.2.2.1 h))), some (.int (nI h)), some (.int (if A.1.2.2.1 h 0 = 0 then 0 else 1)), some (.int (nI ((A.1.2.2.2.2.take k).countP (agOf h)))), some (.int (nI k)), o7] [.int (nI ((A.1.2.2.2.2.take k).countP (agOf h)))] n i r (RetI 1 n i r) := by
            intro hf
            refine go_iconst (z := 91) (v := 1) dL_areHouses_90 rfl (by decide) ?_
            refine go_goto (z := 95) dL_areHouses_91 (by decide) ?_
            refine c95 1 ?_
            unfold agN
            rw [hf]
            rfl
          have c68 : ¬ (x.1 0 = 1 ∧ x.1 1 = nI h) → Go l G mL_areHouses 4 0 0 68 [some (.ref C), some (.ref (C + 1105)), some (.int (nI (sumQ E A.1.2.2.2.1 h))), some (.int (nI h)), some (.int (if A.1.2.2.1 h 0 = 0 then 0 else 1)), some (.int (nI ((A.1.2.2.2.2.take k).countP (agOf h)))), some (.int (nI k)), o7] [.int (nI ((A.1.2.2.2.2.take k).countP (agOf h)))] n i r (RetI 1 n i r) := by
            intro hn
            refine go_aload_n (z := 69) dL_areHouses_68 rfl rfl ?_
            refine go_iload (z := 71) dL_areHouses_69 rfl rfl ?_
            refine go_iconst (z := 72) (v := 0) dL_areHouses_71 rfl (by decide) ?_
            refine go_callV (z := 75) (t := 5) [.int (nI k), .int 0] dL_areHouses_72 rfl mlX5_message vL_34 ⟨by decide, rfl⟩ okC rfl rfl (by decide) (cat_i (cat_i cat_nil)) (by simp) (by decide) (by first | decide | omega) (by first | decide | omega) (c_ceMsg hL hC hE hgM) ?_
            refine ret_elim ?_
            rw [v0]
            refine go_iconst (z := 76) (v := 2) dL_areHouses_75 rfl (by decide) ?_
            refine go_icmp_ne (z := 94) (z2 := 79) dL_areHouses_76 rfl (by decide) (fun q => c94 (decide_eq_false (fun c => c.elim hn (fun c => q c.1)))) (fun q => ?_)
            refine go_aload_n (z := 80) dL_areHouses_79 rfl rfl ?_
            refine go_iload (z := 82) dL_areHouses_80 rfl rfl ?_
            refine go_iconst (z := 83) (v := 2) dL_areHouses_82 rfl (by decide) ?_
            refine go_callV (z := 86) (t := 5) [.int (nI k), .int 2] dL_areHouses_83 rfl mlX5_message vL_34 ⟨by decide, rfl⟩ okC rfl rfl (by decide) (cat_i (cat_i cat_nil)) (by simp) (by decide) (by first | decide | omega) (by first | decide | omega) (c_ceMsg hL hC hE hgM) ?_
            refine ret_elim ?_
            rw [v2]
            refine go_iload_n (z := 87) dL_areHouses_86 rfl rfl ?_
            exact go_icmp_ne (z := 94) (z2 := 90) dL_areHouses_87 rfl (by decide) (fun q2 => c94 (decide_eq_false (fun c => c.elim hn (fun c => q2 c.2)))) (fun q2 => c90 (decide_eq_true (Or.inr ⟨q, q2⟩)))
          refine go_iload (z := 46) dL_areHouses_44 rfl rfl ?_
          refine go_aload_n (z := 47) dL_areHouses_46 rfl rfl ?_
          refine go_iload (z := 49) dL_areHouses_47 rfl rfl ?_
          refine go_iconst (z := 50) (v := 0) dL_areHouses_49 rfl (by decide) ?_
          refine go_callV (z := 53) (t := 5) [.int (nI k), .int 0] dL_areHouses_50 rfl mlX5_message vL_34 ⟨by decide, rfl⟩ okC rfl rfl (by decide) (cat_i (cat_i cat_nil)) (by simp) (by decide) (by first | decide | omega) (by first | decide | omega) (c_ceMsg hL hC hE hgM) ?_
          refine ret_elim ?_
          rw [v0]
          refine go_iconst (z := 54) (v := 1) dL_areHouses_53 rfl (by decide) ?_
          refine go_icmp_ne (z := 68) (z2 := 57) dL_areHouses_54 rfl (by decide) (fun q => c68 (fun c => q c.1)) (fun q => ?_)
          refine go_aload_n (z := 58) dL_areHouses_57 rfl rfl ?_
          refine go_iload (z := 60) dL_areHouses_58 rfl rfl ?_
          refine go_iconst (z := 61) (v := 1) dL_areHouses_60 rfl (by decide) ?_
          refine go_callV (z := 64) (t := 5) [.int (nI k), .int 1] dL_areHouses_61 rfl mlX5_message vL_34 ⟨by decide, rfl⟩ okC rfl rfl (by decide) (cat_i (cat_i cat_nil)) (by simp) (by decide) (by first | decide | omega) (by first | decide | omega) (c_ceMsg hL hC hE hgM) ?_
          refine ret_elim ?_
          rw [v1]
          refine go_iload_n (z := 65) dL_areHouses_64 rfl rfl ?_
          exact go_icmp_eq (z := 90) (z2 := 68) dL_areHouses_65 rfl (by decide) (fun q2 => c90 (decide_eq_true (Or.inl ⟨q, q2⟩))) (fun q2 => c68 (fun c => q2 c.2))
      have c25 : ∀ v, v = (if A.1.2.2.1 h 0 = 0 then 0 else 1 : Int32) → Go l G mL_areHouses 4 0 0 25 [some (.ref C), some (.ref (C + 1105)), some (.int (nI (sumQ E A.1.2.2.2.1 h))), some (.int (nI h)), o4, o5, o6, o7] [.int v] n i r (RetI 1 n i r) := by
        intro v hv
        subst hv
        refine go_istore (z := 27) dL_areHouses_25 rfl (by decide) ?_
        refine go_iconst (z := 28) (v := 0) dL_areHouses_27 rfl (by decide) ?_
        refine go_istore (z := 30) dL_areHouses_28 rfl (by decide) ?_
        refine go_iconst (z := 31) (v := 0) dL_areHouses_30 rfl (by decide) ?_
        refine go_istore (z := 33) dL_areHouses_31 rfl (by decide) ?_
        exact go_lo rfl (m1 A.1.2.2.2.2.length 0 o7 (by omega))
      refine go_iload_n (z := 5) dL_areHouses_4 rfl rfl ?_
      refine go_bipush (z := 7) (v := 6) dL_areHouses_5 rfl (by decide) ?_
      refine go_icmp_ge (z := 324) (z2 := 10) dL_areHouses_7 rfl (by decide) (fun q => absurd q (nI_ge (b := 6) hh6 (by omega))) (fun _ => ?_)
      refine go_aload_n (z := 11) dL_areHouses_10 rfl rfl ?_
      refine go_iload_n (z := 12) dL_areHouses_11 rfl rfl ?_
      refine go_iconst (z := 13) (v := 0) dL_areHouses_12 rfl (by decide) ?_
      refine go_callV (z := 16) (t := 5) [.int (nI h), .int 0] dL_areHouses_13 rfl mlX5_house vL_37 ⟨by decide, rfl⟩ okC rfl rfl (by decide) (cat_i (cat_i cat_nil)) (by simp) (by decide) (by first | decide | omega) (by first | decide | omega) (c_ceHouse hL hC) ?_
      refine ret_elim ?_
      rw [w0]
      refine go_iconst (z := 17) (v := 1) dL_areHouses_16 rfl (by decide) ?_
      refine go_icmp_ne (z := 24) (z2 := 20) dL_areHouses_17 rfl (by decide) (fun q => ?_) (fun q => ?_)
      · refine go_iconst (z := 25) (v := 0) dL_areHouses_24 rfl (by decide) ?_
        refine c25 0 ?_
        rcases a1 with c | c
        · rw [if_pos c]
        · rw [if_neg (by rw [c]; decide)] at q
          exact absurd rfl q
      · refine go_iconst (z := 21) (v := 1) dL_areHouses_20 rfl (by decide) ?_
        refine go_goto (z := 25) dL_areHouses_21 (by decide) ?_
        exact c25 1 q.symm
  exact go_lo rfl (loop 6 0 _ _ _ _ rfl)
end PAREH
