/-! P25: areMessages -/
theorem sumG_F (l : List Mg) : sumG l = sumF g3 l := by
  induction l with
  | nil => rfl
  | cons x l ih => show x.1 3 + sumG l = x.1 3 + sumF g3 l; rw [ih]
def MK (Gd : Nat → Prop) (x : Mg) : Prop := (x.1 0 = 0 ∧ (∃ t, t < 6 ∧ x.1 2 = nI t) ∧ 1 ≤ x.1 3 ∧ ∃ a, x.2 = some a ∧ Gd a) ∨ (x.1 0 = 1 ∧ (∃ f, f < 6 ∧ x.1 1 = nI f) ∧ x.1 2 = 6 ∧ x.1 3 = 0 ∧ x.2 = none) ∨ (x.1 0 = 2 ∧ x.1 1 = 6 ∧ (∃ t, t < 6 ∧ x.1 2 = nI t) ∧ 4 ≤ x.1 3 ∧ x.2 = none) ∨ (x.1 0 = 3 ∧ (∃ f, f < 6 ∧ x.1 1 = nI f) ∧ x.1 2 = 6 ∧ 1 ≤ x.1 3 ∧ x.2 = none)
theorem mk_of {Gd : Nat → Prop} {x : Mg} (h : MgOk Gd x) (hV : MV x) : MK Gd x := by
  obtain ⟨f, t, hf, ht, e1, e2, hk⟩ := h
  rcases hk with ⟨k0, ht6, a, ha, hg⟩ | ⟨k1, hf6, hn⟩ | ⟨k2, ht6, hn⟩ | ⟨k3, hf6, hn⟩
  · rcases hV with q | q | q | q
    · exact Or.inl ⟨k0, ⟨t, ht6, e2⟩, q.2, a, ha, hg⟩
    · rw [k0] at q; exact absurd q.1 (by decide)
    · rw [k0] at q; exact absurd q.1 (by decide)
    · rw [k0] at q; exact absurd q.1 (by decide)
  · rcases hV with q | q | q | q
    · rw [k1] at q; exact absurd q.1 (by decide)
    · exact Or.inr (Or.inl ⟨k1, ⟨f, hf6, e1⟩, q.2.1, q.2.2, hn⟩)
    · rw [k1] at q; exact absurd q.1 (by decide)
    · rw [k1] at q; exact absurd q.1 (by decide)
  · rcases hV with q | q | q | q
    · rw [k2] at q; exact absurd q.1 (by decide)
    · rw [k2] at q; exact absurd q.1 (by decide)
    · exact Or.inr (Or.inr (Or.inl ⟨k2, q.2.1, ⟨t, ht6, e2⟩, q.2.2, hn⟩))
    · rw [k2] at q; exact absurd q.1 (by decide)
  · rcases hV with q | q | q | q
    · rw [k3] at q; exact absurd q.1 (by decide)
    · rw [k3] at q; exact absurd q.1 (by decide)
    · rw [k3] at q; exact absurd q.1 (by decide)
    · exact Or.inr (Or.inr (Or.inr ⟨k3, ⟨f, hf6, e1⟩, q.2.1, q.2.2, hn⟩))
theorem no_ge6 {f : Nat} {x : Int32} (hf : f < 6) (hx : x = nI f) : ¬ 6 ≤ x := by rw [hx]; exact nI_ge (b := 6) hf (by omega)
theorem no_le0 {x : Int32} (h : 1 ≤ x) : ¬ x ≤ 0 := fun q => absurd (Int32.le_trans h q) (by decide)
theorem idle_take {ms : List Mg} {k : Nat} {x : Mg} (hx : ms[k]? = some x) : mIdleM (ms.take (k + 1)) = (mIdleM (ms.take k) && decide (x.1 0 = 3)) := by
  rw [List.take_succ, hx]
  show List.all (ms.take k ++ [x]) _ = _
  rw [List.all_append]
  simp [mIdleM]
section PAREM
variable {l : Launch} {G : GG} {n : Nat} {i : IP} {r : RP} {C : Nat} {E : EE} {Gd : Nat → Prop} {A : AP}
theorem c_areMessages {T : Nat} (hV : VW G n C E Gd A i r) (hI : Inv E Gd T T (fun _ => T) A.1) (hM : ∀ x ∈ A.1.2.2.2.2, MV x) (hEk : EOk E Gd) (hW : EW E Gd) : Go l G mL_areMessages 4 0 0 0 (lentry [.ref C] 12) [] n i r (RetI 1 n i r) := by
  obtain ⟨hL, hC, hE, hgQ, hgM, hl⟩ := hV
  have okC := hL.1
  obtain ⟨-, -, -, -, t4, -, t6, t7, -, -, -, t12, -⟩ := tot_v (A := A)
  have hz := hI.1.1
  have hT := hI.1.2.1
  have hsr := hI.2.2.2.2.2.2.2
  refine go_iconst (z := 1) (v := 0) dL_areMessages_0 rfl (by decide) ?_
  refine go_istore_n (z := 2) dL_areMessages_1 rfl (by decide) ?_
  refine go_iconst (z := 3) (v := 1) dL_areMessages_2 rfl (by decide) ?_
  refine go_istore_n (z := 4) dL_areMessages_3 rfl (by decide) ?_
  refine go_iconst (z := 5) (v := 1) dL_areMessages_4 rfl (by decide) ?_
  refine go_istore_n (z := 6) dL_areMessages_5 rfl (by decide) ?_
  refine go_iconst (z := 7) (v := 0) dL_areMessages_6 rfl (by decide) ?_
  refine go_istore (z := 9) dL_areMessages_7 rfl (by decide) ?_
  have loop : ∀ d k (la : Nat) (o5 o6 o7 o8 o9 o10 o11 : Option Value), k + d = A.1.2.2.2.2.length → 1 ≤ la → la ≤ 9 → (∀ j y, k ≤ j → A.1.2.2.2.2[j]? = some y → nI (T + la) ≤ y.1 4) → Go l G mL_areMessages 4 0 0 9 [some (.ref C), some (.int (sumF g3 (A.1.2.2.2.2.take k))), some (.int (nI la)), some (.int (b2i (mIdleM (A.1.2.2.2.2.take k)))), some (.int (nI k)), o5, o6, o7, o8, o9, o10, o11] [] n i r (RetI 1 n i r) := by
    intro d
    induction d with
    | zero =>
      intro k la o5 o6 o7 o8 o9 o10 o11 hk l1 l9 hla
      have hk2 : k = A.1.2.2.2.2.length := by omega
      subst hk2
      rw [List.take_of_length_le (Nat.le_refl _)]
      refine go_iload (z := 11) dL_areMessages_9 rfl rfl ?_
      refine go_aload_n (z := 12) dL_areMessages_11 rfl rfl ?_
      refine go_bipush (z := 14) (v := 6) dL_areMessages_12 rfl (by decide) ?_
      refine go_callV (z := 17) (t := 5) [.int 6] dL_areMessages_14 rfl mlX5_total vL_30 ⟨by decide, rfl⟩ okC rfl rfl (by decide) (cat_i cat_nil) (by simp) (by decide) (by first | decide | omega) (by first | decide | omega) (c_ceTot hL hC) ?_
      refine ret_elim ?_
      rw [t6]
      refine go_icmp_ge (z := 318) (z2 := 20) dL_areMessages_17 rfl (by decide) (fun _ => ?_) (fun h => absurd (nI_le (by omega) (by omega)) h)
      refine go_aload_n (z := 319) dL_areMessages_318 rfl rfl ?_
      refine go_aload_n (z := 320) dL_areMessages_319 rfl rfl ?_
      refine go_bipush (z := 322) (v := 6) dL_areMessages_320 rfl (by decide) ?_
      refine go_callV (z := 325) (t := 5) [.int 6] dL_areMessages_322 rfl mlX5_total vL_30 ⟨by decide, rfl⟩ okC rfl rfl (by decide) (cat_i cat_nil) (by simp) (by decide) (by first | decide | omega) (by first | decide | omega) (c_ceTot hL hC) ?_
      refine ret_elim ?_
      rw [t6]
      refine go_iconst (z := 326) (v := 0) dL_areMessages_325 rfl (by decide) ?_
      refine go_callV (z := 329) (t := 5) [.int (nI A.1.2.2.2.2.length), .int 0] dL_areMessages_326 rfl mlX5_message vL_34 ⟨by decide, rfl⟩ okC rfl rfl (by decide) (cat_i (cat_i cat_nil)) (by simp) (by decide) (by first | decide | omega) (by first | decide | omega) (c_ceMsg hL hC hE hgM) ?_
      refine ret_elim ?_
      rw [msg_out (List.getElem?_eq_none (Nat.le_refl _)) (by omega) (by decide) (by decide)]
      refine go_bipush (z := 331) (v := (-5)) dL_areMessages_329 rfl (by decide) ?_
      refine go_icmp_ne (z := 374) (z2 := 334) dL_areMessages_331 rfl (by decide) (fun h => absurd rfl h) (fun _ => ?_)
      refine go_aload_n (z := 335) dL_areMessages_334 rfl rfl ?_
      refine go_iconst (z := 336) (v := 4) dL_areMessages_335 rfl (by decide) ?_
      refine go_callV (z := 339) (t := 5) [.int 4] dL_areMessages_336 rfl mlX5_total vL_30 ⟨by decide, rfl⟩ okC rfl rfl (by decide) (cat_i cat_nil) (by simp) (by decide) (by first | decide | omega) (by first | decide | omega) (c_ceTot hL hC) ?_
      refine ret_elim ?_
      rw [t4]
      refine go_iload_n (z := 340) dL_areMessages_339 rfl rfl ?_
      refine go_icmp_ne (z := 374) (z2 := 343) dL_areMessages_340 rfl (by decide) (fun h => absurd ((gsum_sumG _).trans (sumG_F _)) h) (fun _ => ?_)
      have tail : ∀ v, b2i (mIdle A.1) = v → Go l G mL_areMessages 4 0 0 367 [some (.ref C), some (.int (sumF g3 A.1.2.2.2.2)), some (.int (nI la)), some (.int (b2i (mIdleM A.1.2.2.2.2))), some (.int (nI A.1.2.2.2.2.length)), o5, o6, o7, o8, o9, o10, o11] [.int v, .int (b2i (mIdle A.1))] n i r (RetI 1 n i r) := by
        intro v hv
        refine go_icmp_ne (z := 374) (z2 := 370) dL_areMessages_367 rfl (by decide) (fun h => absurd hv h) (fun _ => ?_)
        refine go_iconst (z := 371) (v := 1) dL_areMessages_370 rfl (by decide) ?_
        refine go_goto (z := 375) dL_areMessages_371 (by decide) ?_
        exact go_zret dL_areMessages_375 rfl (congrArg Value.int (by decide)) ret_ok
      refine go_aload_n (z := 344) dL_areMessages_343 rfl rfl ?_
      refine go_bipush (z := 346) (v := 12) dL_areMessages_344 rfl (by decide) ?_
      refine go_callV (z := 349) (t := 5) [.int 12] dL_areMessages_346 rfl mlX5_total vL_30 ⟨by decide, rfl⟩ okC rfl rfl (by decide) (cat_i cat_nil) (by simp) (by decide) (by first | decide | omega) (by first | decide | omega) (c_ceTot hL hC) ?_
      refine ret_elim ?_
      rw [t12]
      refine go_iload_n (z := 350) dL_areMessages_349 rfl rfl ?_
      refine go_if_eq (z := 366) (z2 := 353) dL_areMessages_350 rfl (by decide) (fun h => ?_) (fun h => ?_)
      · refine go_iconst (z := 367) (v := 0) dL_areMessages_366 rfl (by decide) ?_
        refine tail 0 ?_
        unfold mIdle
        cases hM2 : mIdleM A.1.2.2.2.2 with
        | true => rw [hM2] at h; exact absurd h (by decide)
        | false => rw [Bool.and_false]; rfl
      · have hM2 : mIdleM A.1.2.2.2.2 = true := by
          cases hM2 : mIdleM A.1.2.2.2.2 with
          | true => rfl
          | false => rw [hM2] at h; exact absurd rfl h
        refine go_aload_n (z := 354) dL_areMessages_353 rfl rfl ?_
        refine go_bipush (z := 356) (v := 7) dL_areMessages_354 rfl (by decide) ?_
        refine go_callV (z := 359) (t := 5) [.int 7] dL_areMessages_356 rfl mlX5_total vL_30 ⟨by decide, rfl⟩ okC rfl rfl (by decide) (cat_i cat_nil) (by simp) (by decide) (by first | decide | omega) (by first | decide | omega) (c_ceTot hL hC) ?_
        refine ret_elim ?_
        rw [t7]
        refine go_if_ne (z := 366) (z2 := 362) dL_areMessages_359 rfl (by decide) (fun h => ?_) (fun h => ?_)
        · refine go_iconst (z := 367) (v := 0) dL_areMessages_366 rfl (by decide) ?_
          refine tail 0 ?_
          unfold mIdle
          rw [decide_eq_false h, Bool.false_and]
          rfl
        · refine go_iconst (z := 363) (v := 1) dL_areMessages_362 rfl (by decide) ?_
          refine go_goto (z := 367) dL_areMessages_363 (by decide) ?_
          refine tail 1 ?_
          unfold mIdle
          rw [decide_eq_true h, hM2]
          rfl
    | succ d ih =>
      intro k la o5 o6 o7 o8 o9 o10 o11 hk l1 l9 hla
      have hkl : k < A.1.2.2.2.2.length := by omega
      obtain ⟨x, hx⟩ : ∃ x, A.1.2.2.2.2[k]? = some x := ⟨_, List.getElem?_eq_getElem hkl⟩
      have hxm := List.mem_of_getElem? hx
      obtain ⟨hok, a, a1, a2, a3⟩ := hI.2.2.2.1 x hxm
      have hmk := mk_of hok (hM x hxm)
      obtain ⟨v0, v1, v2, v3, v4, v5, v6⟩ := msg_v (E := E) hx (by omega)
      have e4 : x.1 4 - A.1.1 0 = nI (a - T) := by rw [a3, hz]; exact pk_sub (by omega)
      rw [e4] at v4
      have hla2 : la ≤ a - T := by
        have q := hla k x (Nat.le_refl _) hx
        rw [a3] at q
        have := (nI_leI (by omega) (by omega)).mp q
        omega
      have hnx : ∀ j y, k + 1 ≤ j → A.1.2.2.2.2[j]? = some y → nI (T + (a - T)) ≤ y.1 4 := by
        intro j y hj hy
        obtain ⟨hjl, hy2⟩ := List.getElem?_eq_some_iff.mp hy
        obtain ⟨_, hx2⟩ := List.getElem?_eq_some_iff.mp hx
        have q := List.pairwise_iff_getElem.mp hsr k j hkl hjl (by omega)
        rw [hx2, hy2, a3] at q
        rw [show T + (a - T) = a by omega]
        exact q
      refine go_iload (z := 11) dL_areMessages_9 rfl rfl ?_
      refine go_aload_n (z := 12) dL_areMessages_11 rfl rfl ?_
      refine go_bipush (z := 14) (v := 6) dL_areMessages_12 rfl (by decide) ?_
      refine go_callV (z := 17) (t := 5) [.int 6] dL_areMessages_14 rfl mlX5_total vL_30 ⟨by decide, rfl⟩ okC rfl rfl (by decide) (cat_i cat_nil) (by simp) (by decide) (by first | decide | omega) (by first | decide | omega) (c_ceTot hL hC) ?_
      refine ret_elim ?_
      rw [t6]
      refine go_icmp_ge (z := 318) (z2 := 20) dL_areMessages_17 rfl (by decide) (fun h => absurd h (nI_ge (by omega) (by omega))) (fun _ => ?_)
      have c303 : ∀ v, v = b2i (mIdleM (A.1.2.2.2.2.take (k + 1))) → Go l G mL_areMessages 4 0 0 303 [some (.ref C), some (.int (sumF g3 (A.1.2.2.2.2.take k))), some (.int (nI la)), some (.int (b2i (mIdleM (A.1.2.2.2.2.take k)))), some (.int (nI k)), some (.int (x.1 0)), some (.int (x.1 1)), some (.int (x.1 2)), some (.int (x.1 3)), some (.int (nI (a - T))), some (.int 1), some (.int 1)] [.int v] n i r (RetI 1 n i r) := by
        intro v hv
        refine go_istore_n (z := 304) dL_areMessages_303 rfl (by decide) ?_
        refine go_iload_n (z := 305) dL_areMessages_304 rfl rfl ?_
        refine go_iload (z := 307) dL_areMessages_305 rfl rfl ?_
        refine go_iadd (z := 308) dL_areMessages_307 rfl ?_
        refine go_istore_n (z := 309) dL_areMessages_308 rfl (by decide) ?_
        refine go_iload (z := 311) dL_areMessages_309 rfl rfl ?_
        refine go_istore_n (z := 312) dL_areMessages_311 rfl (by decide) ?_
        refine go_iinc (z := 315) dL_areMessages_312 rfl rfl (nI_1 k) (by decide) ?_
        refine go_goto (z := 9) dL_areMessages_315 (by decide) ?_
        refine go_lo ?_ (ih (k + 1) (a - T) (some (.int (x.1 0))) (some (.int (x.1 1))) (some (.int (x.1 2))) (some (.int (x.1 3))) (some (.int (nI (a - T)))) (some (.int 1)) (some (.int 1)) (by omega) (by omega) (by omega) hnx)
        rw [hv, sumF_take hx]
        rfl
      have c261 : Go l G mL_areMessages 4 0 0 261 [some (.ref C), some (.int (sumF g3 (A.1.2.2.2.2.take k))), some (.int (nI la)), some (.int (b2i (mIdleM (A.1.2.2.2.2.take k)))), some (.int (nI k)), some (.int (x.1 0)), some (.int (x.1 1)), some (.int (x.1 2)), some (.int (x.1 3)), some (.int (nI (a - T))), some (.int 1), o11] [.int 1] n i r (RetI 1 n i r) := by
        refine go_istore (z := 263) dL_areMessages_261 rfl (by decide) ?_
        refine go_iload (z := 265) dL_areMessages_263 rfl rfl ?_
        refine go_if_eq (z := 286) (z2 := 268) dL_areMessages_265 rfl (by decide) (fun h => absurd h (by decide)) (fun _ => ?_)
        refine go_iload (z := 270) dL_areMessages_268 rfl rfl ?_
        refine go_if_eq (z := 286) (z2 := 273) dL_areMessages_270 rfl (by decide) (fun h => absurd h (by decide)) (fun _ => ?_)
        refine go_iload (z := 275) dL_areMessages_273 rfl rfl ?_
        refine go_iload_n (z := 276) dL_areMessages_275 rfl rfl ?_
        refine go_icmp_lt (z := 286) (z2 := 279) dL_areMessages_276 rfl (by decide) (fun h => absurd h (nI_nlt hla2 (by omega))) (fun _ => ?_)
        refine go_iload (z := 281) dL_areMessages_279 rfl rfl ?_
        refine go_bipush (z := 283) (v := 9) dL_areMessages_281 rfl (by decide) ?_
        refine go_icmp_le (z := 288) (z2 := 286) dL_areMessages_283 rfl (by decide) (fun _ => ?_) (fun h => absurd (nI_le (b := 9) (by omega) (by omega)) h)
        refine go_iload_n (z := 289) dL_areMessages_288 rfl rfl ?_
        refine go_if_eq (z := 302) (z2 := 292) dL_areMessages_289 rfl (by decide) (fun h => ?_) (fun h => ?_)
        · refine go_iconst (z := 303) (v := 0) dL_areMessages_302 rfl (by decide) ?_
          refine go_lo rfl (c303 0 ?_)
          rw [idle_take hx]
          cases hM2 : mIdleM (A.1.2.2.2.2.take k) with
          | true => rw [hM2] at h; exact absurd h (by decide)
          | false => rw [Bool.false_and]; rfl
        · have hM2 : mIdleM (A.1.2.2.2.2.take k) = true := by
            cases hM2 : mIdleM (A.1.2.2.2.2.take k) with
            | true => rfl
            | false => rw [hM2] at h; exact absurd rfl h
          refine go_iload (z := 294) dL_areMessages_292 rfl rfl ?_
          refine go_iconst (z := 295) (v := 3) dL_areMessages_294 rfl (by decide) ?_
          refine go_icmp_ne (z := 302) (z2 := 298) dL_areMessages_295 rfl (by decide) (fun h => ?_) (fun h => ?_)
          · refine go_iconst (z := 303) (v := 0) dL_areMessages_302 rfl (by decide) ?_
            refine go_lo rfl (c303 0 ?_)
            rw [idle_take hx, decide_eq_false h, Bool.and_false]
            rfl
          · refine go_iconst (z := 299) (v := 1) dL_areMessages_298 rfl (by decide) ?_
            refine go_goto (z := 303) dL_areMessages_299 (by decide) ?_
            refine go_lo rfl (c303 1 ?_)
            rw [idle_take hx, decide_eq_true h, hM2]
            rfl
      have c187 : Go l G mL_areMessages 4 0 0 187 [some (.ref C), some (.int (sumF g3 (A.1.2.2.2.2.take k))), some (.int (nI la)), some (.int (b2i (mIdleM (A.1.2.2.2.2.take k)))), some (.int (nI k)), some (.int (x.1 0)), some (.int (x.1 1)), some (.int (x.1 2)), some (.int (x.1 3)), some (.int (nI (a - T))), o10, o11] [.int 1] n i r (RetI 1 n i r) := by
        refine go_istore (z := 189) dL_areMessages_187 rfl (by decide) ?_
        refine go_iload (z := 191) dL_areMessages_189 rfl rfl ?_
        refine go_if_ne (z := 235) (z2 := 194) dL_areMessages_191 rfl (by decide) (fun h => ?_) (fun h => ?_)
        · have hn : x.2 = none := by
            rcases hmk with q | q | q | q
            · exact absurd q.1 h
            · exact q.2.2.2.2
            · exact q.2.2.2.2
            · exact q.2.2.2.2
          have w5 : eWork E x.2 = 0 := by rw [hn]; rfl
          have w6 : eAll E x.2 = 0 := by rw [hn]; rfl
          refine go_aload_n (z := 236) dL_areMessages_235 rfl rfl ?_
          refine go_iload (z := 238) dL_areMessages_236 rfl rfl ?_
          refine go_iconst (z := 239) (v := 5) dL_areMessages_238 rfl (by decide) ?_
          refine go_callV (z := 242) (t := 5) [.int (nI k), .int 5] dL_areMessages_239 rfl mlX5_message vL_34 ⟨by decide, rfl⟩ okC rfl rfl (by decide) (cat_i (cat_i cat_nil)) (by simp) (by decide) (by first | decide | omega) (by first | decide | omega) (c_ceMsg hL hC hE hgM) ?_
          refine ret_elim ?_
          rw [v5, w5]
          refine go_if_ne (z := 260) (z2 := 245) dL_areMessages_242 rfl (by decide) (fun h => absurd rfl h) (fun _ => ?_)
          refine go_aload_n (z := 246) dL_areMessages_245 rfl rfl ?_
          refine go_iload (z := 248) dL_areMessages_246 rfl rfl ?_
          refine go_bipush (z := 250) (v := 6) dL_areMessages_248 rfl (by decide) ?_
          refine go_callV (z := 253) (t := 5) [.int (nI k), .int 6] dL_areMessages_250 rfl mlX5_message vL_34 ⟨by decide, rfl⟩ okC rfl rfl (by decide) (cat_i (cat_i cat_nil)) (by simp) (by decide) (by first | decide | omega) (by first | decide | omega) (c_ceMsg hL hC hE hgM) ?_
          refine ret_elim ?_
          rw [v6, w6]
          refine go_if_ne (z := 260) (z2 := 256) dL_areMessages_253 rfl (by decide) (fun h => absurd rfl h) (fun _ => ?_)
          refine go_iconst (z := 257) (v := 1) dL_areMessages_256 rfl (by decide) ?_
          refine go_goto (z := 261) dL_areMessages_257 (by decide) ?_
          exact go_lo rfl c261
        · obtain ⟨e, he, hg⟩ : ∃ e, x.2 = some e ∧ Gd e := by
            rcases hmk with q | q | q | q
            · exact q.2.2.2
            · rw [h] at q; exact absurd q.1 (by decide)
            · rw [h] at q; exact absurd q.1 (by decide)
            · rw [h] at q; exact absurd q.1 (by decide)
          obtain ⟨w, w1, w2⟩ := hW e hg
          have hal := (hEk e hg).2.2.2
          have w5 : eWork E x.2 = nI w := by rw [he]; exact w2
          have w6 : eAll E x.2 = nI (E.2.2.1 e) := by rw [he]; rfl
          refine go_aload_n (z := 195) dL_areMessages_194 rfl rfl ?_
          refine go_iload (z := 197) dL_areMessages_195 rfl rfl ?_
          refine go_iconst (z := 198) (v := 5) dL_areMessages_197 rfl (by decide) ?_
          refine go_callV (z := 201) (t := 5) [.int (nI k), .int 5] dL_areMessages_198 rfl mlX5_message vL_34 ⟨by decide, rfl⟩ okC rfl rfl (by decide) (cat_i (cat_i cat_nil)) (by simp) (by decide) (by first | decide | omega) (by first | decide | omega) (c_ceMsg hL hC hE hgM) ?_
          refine ret_elim ?_
          rw [v5, w5]
          refine go_if_lt (z := 231) (z2 := 204) dL_areMessages_201 rfl (by decide) (fun h => absurd h (nI_pos (by omega))) (fun _ => ?_)
          refine go_aload_n (z := 205) dL_areMessages_204 rfl rfl ?_
          refine go_iload (z := 207) dL_areMessages_205 rfl rfl ?_
          refine go_iconst (z := 208) (v := 5) dL_areMessages_207 rfl (by decide) ?_
          refine go_callV (z := 211) (t := 5) [.int (nI k), .int 5] dL_areMessages_208 rfl mlX5_message vL_34 ⟨by decide, rfl⟩ okC rfl rfl (by decide) (cat_i (cat_i cat_nil)) (by simp) (by decide) (by first | decide | omega) (by first | decide | omega) (c_ceMsg hL hC hE hgM) ?_
          refine ret_elim ?_
          rw [v5, w5]
          refine go_bipush (z := 213) (v := 20) dL_areMessages_211 rfl (by decide) ?_
          refine go_icmp_gt (z := 231) (z2 := 216) dL_areMessages_213 rfl (by decide) (fun h => absurd h (nI_nlt (b := w) (a := 20) (by omega) (by omega))) (fun _ => ?_)
          refine go_aload_n (z := 217) dL_areMessages_216 rfl rfl ?_
          refine go_iload (z := 219) dL_areMessages_217 rfl rfl ?_
          refine go_bipush (z := 221) (v := 6) dL_areMessages_219 rfl (by decide) ?_
          refine go_callV (z := 224) (t := 5) [.int (nI k), .int 6] dL_areMessages_221 rfl mlX5_message vL_34 ⟨by decide, rfl⟩ okC rfl rfl (by decide) (cat_i (cat_i cat_nil)) (by simp) (by decide) (by first | decide | omega) (by first | decide | omega) (c_ceMsg hL hC hE hgM) ?_
          refine ret_elim ?_
          rw [v6, w6]
          refine go_if_le (z := 231) (z2 := 227) dL_areMessages_224 rfl (by decide) (fun h => absurd h (nI_nle (by omega) (by omega))) (fun _ => ?_)
          refine go_iconst (z := 228) (v := 1) dL_areMessages_227 rfl (by decide) ?_
          refine go_goto (z := 261) dL_areMessages_228 (by decide) ?_
          exact go_lo rfl c261
      refine go_aload_n (z := 21) dL_areMessages_20 rfl rfl ?_
      refine go_iload (z := 23) dL_areMessages_21 rfl rfl ?_
      refine go_iconst (z := 24) (v := 0) dL_areMessages_23 rfl (by decide) ?_
      refine go_callV (z := 27) (t := 5) [.int (nI k), .int 0] dL_areMessages_24 rfl mlX5_message vL_34 ⟨by decide, rfl⟩ okC rfl rfl (by decide) (cat_i (cat_i cat_nil)) (by simp) (by decide) (by first | decide | omega) (by first | decide | omega) (c_ceMsg hL hC hE hgM) ?_
      refine ret_elim ?_
      rw [v0]
      refine go_istore (z := 29) dL_areMessages_27 rfl (by decide) ?_
      refine go_aload_n (z := 30) dL_areMessages_29 rfl rfl ?_
      refine go_iload (z := 32) dL_areMessages_30 rfl rfl ?_
      refine go_iconst (z := 33) (v := 1) dL_areMessages_32 rfl (by decide) ?_
      refine go_callV (z := 36) (t := 5) [.int (nI k), .int 1] dL_areMessages_33 rfl mlX5_message vL_34 ⟨by decide, rfl⟩ okC rfl rfl (by decide) (cat_i (cat_i cat_nil)) (by simp) (by decide) (by first | decide | omega) (by first | decide | omega) (c_ceMsg hL hC hE hgM) ?_
      refine ret_elim ?_
      rw [v1]
      refine go_istore (z := 38) dL_areMessages_36 rfl (by decide) ?_
      refine go_aload_n (z := 39) dL_areMessages_38 rfl rfl ?_
      refine go_iload (z := 41) dL_areMessages_39 rfl rfl ?_
      refine go_iconst (z := 42) (v := 2) dL_areMessages_41 rfl (by decide) ?_
      refine go_callV (z := 45) (t := 5) [.int (nI k), .int 2] dL_areMessages_42 rfl mlX5_message vL_34 ⟨by decide, rfl⟩ okC rfl rfl (by decide) (cat_i (cat_i cat_nil)) (by simp) (by decide) (by first | decide | omega) (by first | decide | omega) (c_ceMsg hL hC hE hgM) ?_
      refine ret_elim ?_
      rw [v2]
      refine go_istore (z := 47) dL_areMessages_45 rfl (by decide) ?_
      refine go_aload_n (z := 48) dL_areMessages_47 rfl rfl ?_
      refine go_iload (z := 50) dL_areMessages_48 rfl rfl ?_
      refine go_iconst (z := 51) (v := 3) dL_areMessages_50 rfl (by decide) ?_
      refine go_callV (z := 54) (t := 5) [.int (nI k), .int 3] dL_areMessages_51 rfl mlX5_message vL_34 ⟨by decide, rfl⟩ okC rfl rfl (by decide) (cat_i (cat_i cat_nil)) (by simp) (by decide) (by first | decide | omega) (by first | decide | omega) (c_ceMsg hL hC hE hgM) ?_
      refine ret_elim ?_
      rw [v3]
      refine go_istore (z := 56) dL_areMessages_54 rfl (by decide) ?_
      refine go_aload_n (z := 57) dL_areMessages_56 rfl rfl ?_
      refine go_iload (z := 59) dL_areMessages_57 rfl rfl ?_
      refine go_iconst (z := 60) (v := 4) dL_areMessages_59 rfl (by decide) ?_
      refine go_callV (z := 63) (t := 5) [.int (nI k), .int 4] dL_areMessages_60 rfl mlX5_message vL_34 ⟨by decide, rfl⟩ okC rfl rfl (by decide) (cat_i (cat_i cat_nil)) (by simp) (by decide) (by first | decide | omega) (by first | decide | omega) (c_ceMsg hL hC hE hgM) ?_
      refine ret_elim ?_
      rw [v4]
      refine go_istore (z := 65) dL_areMessages_63 rfl (by decide) ?_
      refine go_iload (z := 67) dL_areMessages_65 rfl rfl ?_
      rcases hmk with ⟨k0, ⟨t, ht, e2⟩, g1, -⟩ | ⟨k1, ⟨f, hf, e1⟩, e2, g0, -⟩ | ⟨k2, e1, ⟨t, ht, e2⟩, g4, -⟩ | ⟨k3, ⟨f, hf, e1⟩, e2, g1, -⟩
      · refine go_if_ne (z := 90) (z2 := 70) dL_areMessages_67 rfl (by decide) (fun h => absurd k0 h) (fun _ => ?_)
        refine go_iload (z := 72) dL_areMessages_70 rfl rfl ?_
        refine go_bipush (z := 74) (v := 6) dL_areMessages_72 rfl (by decide) ?_
        refine go_icmp_ge (z := 86) (z2 := 77) dL_areMessages_74 rfl (by decide) (fun h => absurd h (no_ge6 ht e2)) (fun _ => ?_)
        refine go_iload (z := 79) dL_areMessages_77 rfl rfl ?_
        refine go_if_le (z := 86) (z2 := 82) dL_areMessages_79 rfl (by decide) (fun h => absurd h (no_le0 g1)) (fun _ => ?_)
        refine go_iconst (z := 83) (v := 1) dL_areMessages_82 rfl (by decide) ?_
        refine go_goto (z := 187) dL_areMessages_83 (by decide) ?_
        exact go_lo rfl c187
      · refine go_if_ne (z := 90) (z2 := 70) dL_areMessages_67 rfl (by decide) (fun _ => ?_) (fun h => absurd (k1.symm.trans h) (by decide))
        refine go_iload (z := 92) dL_areMessages_90 rfl rfl ?_
        refine go_iconst (z := 93) (v := 1) dL_areMessages_92 rfl (by decide) ?_
        refine go_icmp_ne (z := 123) (z2 := 96) dL_areMessages_93 rfl (by decide) (fun h => absurd k1 h) (fun _ => ?_)
        refine go_iload (z := 98) dL_areMessages_96 rfl rfl ?_
        refine go_bipush (z := 100) (v := 6) dL_areMessages_98 rfl (by decide) ?_
        refine go_icmp_ge (z := 119) (z2 := 103) dL_areMessages_100 rfl (by decide) (fun h => absurd h (no_ge6 hf e1)) (fun _ => ?_)
        refine go_iload (z := 105) dL_areMessages_103 rfl rfl ?_
        refine go_bipush (z := 107) (v := 6) dL_areMessages_105 rfl (by decide) ?_
        refine go_icmp_ne (z := 119) (z2 := 110) dL_areMessages_107 rfl (by decide) (fun h => absurd e2 h) (fun _ => ?_)
        refine go_iload (z := 112) dL_areMessages_110 rfl rfl ?_
        refine go_if_ne (z := 119) (z2 := 115) dL_areMessages_112 rfl (by decide) (fun h => absurd g0 h) (fun _ => ?_)
        refine go_iconst (z := 116) (v := 1) dL_areMessages_115 rfl (by decide) ?_
        refine go_goto (z := 187) dL_areMessages_116 (by decide) ?_
        exact go_lo rfl c187
      · refine go_if_ne (z := 90) (z2 := 70) dL_areMessages_67 rfl (by decide) (fun _ => ?_) (fun h => absurd (k2.symm.trans h) (by decide))
        refine go_iload (z := 92) dL_areMessages_90 rfl rfl ?_
        refine go_iconst (z := 93) (v := 1) dL_areMessages_92 rfl (by decide) ?_
        refine go_icmp_ne (z := 123) (z2 := 96) dL_areMessages_93 rfl (by decide) (fun _ => ?_) (fun h => absurd (k2.symm.trans h) (by decide))
        refine go_iload (z := 125) dL_areMessages_123 rfl rfl ?_
        refine go_iconst (z := 126) (v := 2) dL_areMessages_125 rfl (by decide) ?_
        refine go_icmp_ne (z := 157) (z2 := 129) dL_areMessages_126 rfl (by decide) (fun h => absurd k2 h) (fun _ => ?_)
        refine go_iload (z := 131) dL_areMessages_129 rfl rfl ?_
        refine go_bipush (z := 133) (v := 6) dL_areMessages_131 rfl (by decide) ?_
        refine go_icmp_ne (z := 153) (z2 := 136) dL_areMessages_133 rfl (by decide) (fun h => absurd e1 h) (fun _ => ?_)
        refine go_iload (z := 138) dL_areMessages_136 rfl rfl ?_
        refine go_bipush (z := 140) (v := 6) dL_areMessages_138 rfl (by decide) ?_
        refine go_icmp_ge (z := 153) (z2 := 143) dL_areMessages_140 rfl (by decide) (fun h => absurd h (no_ge6 ht e2)) (fun _ => ?_)
        refine go_iload (z := 145) dL_areMessages_143 rfl rfl ?_
        refine go_iconst (z := 146) (v := 3) dL_areMessages_145 rfl (by decide) ?_
        refine go_icmp_le (z := 153) (z2 := 149) dL_areMessages_146 rfl (by decide) (fun h => absurd (Int32.le_trans g4 h) (by decide)) (fun _ => ?_)
        refine go_iconst (z := 150) (v := 1) dL_areMessages_149 rfl (by decide) ?_
        refine go_goto (z := 187) dL_areMessages_150 (by decide) ?_
        exact go_lo rfl c187
      · refine go_if_ne (z := 90) (z2 := 70) dL_areMessages_67 rfl (by decide) (fun _ => ?_) (fun h => absurd (k3.symm.trans h) (by decide))
        refine go_iload (z := 92) dL_areMessages_90 rfl rfl ?_
        refine go_iconst (z := 93) (v := 1) dL_areMessages_92 rfl (by decide) ?_
        refine go_icmp_ne (z := 123) (z2 := 96) dL_areMessages_93 rfl (by decide) (fun _ => ?_) (fun h => absurd (k3.symm.trans h) (by decide))
        refine go_iload (z := 125) dL_areMessages_123 rfl rfl ?_
        refine go_iconst (z := 126) (v := 2) dL_areMessages_125 rfl (by decide) ?_
        refine go_icmp_ne (z := 157) (z2 := 129) dL_areMessages_126 rfl (by decide) (fun _ => ?_) (fun h => absurd (k3.symm.trans h) (by decide))
        refine go_iload (z := 159) dL_areMessages_157 rfl rfl ?_
        refine go_iconst (z := 160) (v := 3) dL_areMessages_159 rfl (by decide) ?_
        refine go_icmp_ne (z := 186) (z2 := 163) dL_areMessages_160 rfl (by decide) (fun h => absurd k3 h) (fun _ => ?_)
        refine go_iload (z := 165) dL_areMessages_163 rfl rfl ?_
        refine go_bipush (z := 167) (v := 6) dL_areMessages_165 rfl (by decide) ?_
        refine go_icmp_ge (z := 186) (z2 := 170) dL_areMessages_167 rfl (by decide) (fun h => absurd h (no_ge6 hf e1)) (fun _ => ?_)
        refine go_iload (z := 172) dL_areMessages_170 rfl rfl ?_
        refine go_bipush (z := 174) (v := 6) dL_areMessages_172 rfl (by decide) ?_
        refine go_icmp_ne (z := 186) (z2 := 177) dL_areMessages_174 rfl (by decide) (fun h => absurd e2 h) (fun _ => ?_)
        refine go_iload (z := 179) dL_areMessages_177 rfl rfl ?_
        refine go_if_le (z := 186) (z2 := 182) dL_areMessages_179 rfl (by decide) (fun h => absurd h (no_le0 g1)) (fun _ => ?_)
        refine go_iconst (z := 183) (v := 1) dL_areMessages_182 rfl (by decide) ?_
        refine go_goto (z := 187) dL_areMessages_183 (by decide) ?_
        exact go_lo rfl c187
  refine go_lo rfl (loop A.1.2.2.2.2.length 0 1 _ _ _ _ _ _ _ (by omega) (by omega) (by omega) (fun j y _ hy => ?_))
  obtain ⟨-, a, a1, a2, a3⟩ := hI.2.2.2.1 y (List.mem_of_getElem? hy)
  rw [a3]
  exact nI_le (by omega) (by omega)
end PAREM
