/-! a message is lost at the reference -/
section MLOSE
variable {E : EE} {Gd : Nat → Prop} {β : Nat → Nat} {qs ps : Nat → List Nat} {ml : RM} {bs : List Nat} {e0 o : Nat} {m : MS} {s s2 : Nat → Int32}
/-- an errand on the road goes with all within it -/
theorem Str.drop {bs' : List Nat} {e : Nat} (hS : Str s o qs ps bs) (hb : List.Perm bs (e :: bs')) (h10 : s2 10 = s 10) (hf : ∀ x f, x < 80 → f < 4 → eF s2 x f = eF s x f) (h4 : ∀ x, x < 80 → eF s2 x 4 = if subP s e x = true then 0 else eF s x 4) : Str s2 o qs (fun x => if subP s e x = true then [] else ps x) bs' := by
  have hSS := hS
  have hU := hS.2.1
  obtain ⟨a, b, c, d, k, f, g⟩ := hS.perm hb
  obtain ⟨e1, e2⟩ := (g e).mp List.mem_cons_self
  obtain ⟨f1, f2⟩ := List.nodup_cons.mp f
  have keep : ∀ x, x < 80 → ¬ subP s e x = true → eF s2 x 4 = eF s x 4 := fun x hx hn => by rw [h4 x hx, if_neg hn]
  have gone : ∀ x, x < 80 → subP s e x = true → eF s2 x 4 = 0 := fun x hx hn => by rw [h4 x hx, if_pos hn]
  have sub_of : ∀ x, subP s e x = true ↔ 0 < eF s x 4 ∧ wth s e (x + 1) = true := fun x => by
    unfold subP aliP
    rw [Bool.and_eq_true, decide_eq_true_iff]
  have root : ∀ x, x < 80 → eF s x 2 = nI 0 → subP s e x = true → x = e := fun x hx h2 hp => by
    have hw := ((sub_of x).mp hp).2
    rw [wth_s hU hx h2 (Nat.zero_le _)] at hw
    by_cases q : x = e
    · exact q
    · rw [if_neg q] at hw; cases hw
  have kid : ∀ x y, x < 80 → eF s x 4 = nI 8 → eF s x 2 = nI (y + 1) → y < x → 0 < eF s y 4 → (subP s e x = true ↔ subP s e y = true) := fun x y hx h8 h2 hyx hy => by
    have hxe : x ≠ e := fun q => by
      rw [q, e2] at h8
      exact absurd h8 (by decide)
    rw [sub_of, sub_of, wth_s hU hx h2 (by omega), if_neg hxe]
    have : 0 < eF s x 4 := by rw [h8]; decide
    exact ⟨fun q => ⟨hy, q.2⟩, fun q => ⟨this, q.2⟩⟩
  have mem0 : ∀ x, x < 80 → ∀ w, 1 ≤ w → w < 9 → eF s2 x 4 = nI w → ¬ subP s e x = true := fun x hx w hw hw9 hxw q => by
    rw [gone x hx q] at hxw
    have := (nI_eq (a := 0) (by omega) (by omega)).mp hxw
    omega
  refine ⟨h10.trans a, b.congr (fun x hx => hf x 2 hx (by omega)), fun x hx => ?_, fun q hq => ⟨fun x => ?_, ?_⟩, fun q hq => ?_, f2, fun x => ?_⟩
  · by_cases hp : subP s e x = true
    · exact ⟨0, by omega, gone x hx hp, fun q => absurd rfl q, fun q => absurd q (by omega), fun q => absurd q (by omega)⟩
    · obtain ⟨w, w1, w2, w3, w4, w5⟩ := c x hx
      refine ⟨w, w1, by rw [keep x hx hp]; exact w2, by rw [hf x 3 hx (by omega)]; exact w3, by rw [hf x 2 hx (by omega)]; exact w4, fun h8 => ?_⟩
      obtain ⟨u, u1, u2, u3⟩ := w5 h8
      refine ⟨u, u1, by rw [hf x 2 hx (by omega)]; exact u2, ?_⟩
      rw [keep u (by omega) (fun q => hp ((kid x u hx (by rw [w2, h8]) u2 u1 u3).mpr q))]
      exact u3
  · rw [(d q hq).1 x]
    constructor
    · rintro ⟨x1, x2, x3⟩
      have hn : ¬ subP s e x = true := fun hp => by
        have := root x x1 x3 hp
        rw [this, e2] at x2
        have := (nI_eq (a := 7) (by omega) (by omega)).mp x2
        omega
      exact ⟨x1, by rw [keep x x1 hn]; exact x2, by rw [hf x 2 x1 (by omega)]; exact x3⟩
    · rintro ⟨x1, x2, x3⟩
      have hn := mem0 x x1 (q + 1) (by omega) (by omega) x2
      rw [keep x x1 hn] at x2
      rw [hf x 2 x1 (by omega)] at x3
      exact ⟨x1, x2, x3⟩
  · refine (d q hq).2.imp_of_mem (fun {u v} hu hv huv => ?_)
    rw [hf u 3 (((d q hq).1 u).mp hu).1 (by omega), hf v 3 (((d q hq).1 v).mp hv).1 (by omega)]
    exact huv
  · show AtL s2 8 (q + 1) (if subP s e q = true then [] else ps q)
    by_cases hp : subP s e q = true
    · rw [if_pos hp]
      refine ⟨fun x => ⟨fun q => (by cases q), ?_⟩, List.Pairwise.nil⟩
      rintro ⟨x1, x2, x3⟩
      exfalso
      have hn := mem0 x x1 8 (by omega) (by omega) x2
      rw [keep x x1 hn] at x2
      rw [hf x 2 x1 (by omega)] at x3
      rcases hSS.up x1 (by rw [x2]; decide) with ⟨q1, -⟩ | ⟨-, u, u1, u2, u3⟩
      · rw [x3] at q1
        have := (nI_eq (by omega) (by omega)).mp q1
        omega
      · have hqu : q = u := by
          rw [x3] at u2
          have := (nI_eq (by omega) (by omega)).mp u2
          omega
        subst hqu
        exact hn ((kid x q x1 x2 x3 u1 u3).mpr hp)
    · rw [if_neg hp]
      refine ⟨fun x => ?_, (k q hq).2.imp_of_mem (fun {u v} hu hv huv => by
        rw [hf u 3 (((k q hq).1 u).mp hu).1 (by omega), hf v 3 (((k q hq).1 v).mp hv).1 (by omega)]
        exact huv)⟩
      rw [(k q hq).1 x]
      constructor
      · rintro ⟨x1, x2, x3⟩
        have hn : ¬ subP s e x = true := fun hpx => by
          rcases hSS.up x1 (by rw [x2]; decide) with ⟨q1, -⟩ | ⟨-, u, u1, u2, u3⟩
          · rw [x3] at q1
            have := (nI_eq (by omega) (by omega)).mp q1
            omega
          · have hqu : q = u := by
              rw [x3] at u2
              have := (nI_eq (by omega) (by omega)).mp u2
              omega
            subst hqu
            exact hp ((kid x q x1 x2 x3 u1 u3).mp hpx)
        exact ⟨x1, by rw [keep x x1 hn]; exact x2, by rw [hf x 2 x1 (by omega)]; exact x3⟩
      · rintro ⟨x1, x2, x3⟩
        have hn := mem0 x x1 8 (by omega) (by omega) x2
        rw [keep x x1 hn] at x2
        rw [hf x 2 x1 (by omega)] at x3
        exact ⟨x1, x2, x3⟩
  · have hx := g x
    rw [List.mem_cons] at hx
    constructor
    · intro hm
      obtain ⟨x1, x2⟩ := hx.mp (Or.inr hm)
      have hxe : x ≠ e := fun q => f1 (by rw [← q]; exact hm)
      have x3 : eF s x 2 = nI 0 := by
        rcases hSS.up x1 (by rw [x2]; decide) with q | q
        · exact q.1
        · rw [x2] at q
          exact absurd q.1 (by decide)
      exact ⟨x1, by rw [keep x x1 (fun hp => hxe (root x x1 x3 hp))]; exact x2⟩
    · rintro ⟨x1, x2⟩
      have hn := mem0 x x1 7 (by omega) (by omega) x2
      rw [keep x x1 hn] at x2
      rcases hx.mpr ⟨x1, x2⟩ with q | q
      · exfalso
        rw [q] at hn
        refine hn ((sub_of e).mpr ⟨by rw [e2]; decide, ?_⟩)
        obtain ⟨w, hw, ew⟩ := hU e e1
        rw [wth_s hU e1 ew hw, if_pos rfl]
      · exact q
theorem RelG.drop {bs' : List Nat} {e : Nat} (hR : RelG E Gd β qs ps ml bs 80 o m s) (hb : List.Perm bs (e :: bs')) (hi : ∀ k, k < 108 ∨ 508 ≤ k → s2 k = s k) (hf : ∀ x f, x < 80 → f < 4 → eF s2 x f = eF s x f) (h4 : ∀ x, x < 80 → eF s2 x 4 = if subP s e x = true then 0 else eF s x 4) : RelG E Gd β qs (fun x => if subP s e x = true then [] else ps x) ml bs' 80 o m s2 := by
  obtain ⟨r1, r2, r3, r4, r5, r6, r7, r8, r9⟩ := hR
  refine ⟨r1.congr (fun k a _ _ => hi k (by omega)) rfl, r2.congr (fun k a b => hi k (by omega)) rfl, r3.congr (fun k a b => hi k (by omega)) rfl rfl, r4.drop hb (hi 10 (by omega)) hf h4, fun x hx hn ha => ?_, r6, r7.congr (fun k hk => hi k (by omega)), r8, r9⟩
  by_cases hp : subP s e x = true
  · rw [h4 x hx, if_pos hp] at ha
    exact absurd ha (by decide)
  · rw [h4 x hx, if_neg hp] at ha
    obtain ⟨l1, l2, l3, l4⟩ := r5 x hx hn ha
    refine ⟨l1, by rw [hf x 0 hx (by omega)]; exact l2, by rw [hf x 1 hx (by omega)]; exact l3, ?_⟩
    show (if subP s e x = true then [] else ps x).map β = _
    rw [if_neg hp]
    exact l4
theorem rDrop_4 {e : Nat} (hS : Str s o qs ps bs) (he : e < 80) (ha : 0 < eF s e 4) : ∀ x, x < 80 → eF (rDrop s e) x 4 = if subP s e x = true then 0 else eF s x 4 := by
  intro x hx
  obtain ⟨d1, d2, d3, d4⟩ := drp_same (s := s) (o := e) 80
  unfold rDrop
  have hee : subP s e e = true := by
    unfold subP aliP
    rw [decide_eq_true ha, Bool.true_and]
    obtain ⟨w, hw, ew⟩ := hS.2.1 e he
    rw [wth_s hS.2.1 he ew hw, if_pos rfl]
  by_cases hxe : x = e
  · subst hxe
    rw [uE_s, if_pos hee]
  · rw [uE_o (by omega) (by omega) (by omega), d4 x hx]
    have : drpP s e x = subP s e x := by
      unfold drpP
      rw [decide_eq_true hxe, Bool.true_and]
    rw [this]
theorem rDrop_f {e : Nat} : ∀ x f, f < 4 → eF (rDrop s e) x f = eF s x f := by
  intro x f hf
  obtain ⟨d1, d2, d3, d4⟩ := drp_same (s := s) (o := e) 80
  unfold rDrop
  rw [uE_o (by omega) (by omega) (by omega)]
  exact d1 x f hf
theorem rDrop_o {e : Nat} (he : e < 80) : ∀ k, k < 108 ∨ 508 ≤ k → rDrop s e k = s k := by
  intro k hk
  obtain ⟨d1, d2, d3, d4⟩ := drp_same (s := s) (o := e) 80
  unfold rDrop
  show up1 (drpF s e 80) (108 + 5 * e + 4) 0 k = s k
  rw [up1_n (by omega)]
  exact d3 k hk (Nat.le_refl _)
end MLOSE
section MLOSEW
variable {l : Launch} {G : GG} {n : Nat} {i : IP} {r : RP} {M : Nat} {E : EE} {Gd : Nat → Prop} {O : Nat} {A : AP}
/-- what is counted behind a loss -/
theorem c_mLoseTail {m : MS} {s : Nat → Int32} {ml : RM} {β : Nat → Nat} {qs ps : Nat → List Nat} {bs : List Nat} {o j c : Nat} {y : Mg × Nat} {q : Nat} {i0 : IP} {o1 o3 o5 : Option Value} (hX : MoX G n M r) (hR : RelG E Gd β qs ps ml bs 80 o m s) (hj : ml[j]? = some y) (hc : ml.length = c + 1) (hbs : List.Perm bs (bsOf (ml.eraseIdx j))) (hsort : isort ((ml.eraseIdx j).map Prod.fst) = m.2.2.2.2.eraseIdx q) (ho : o ≤ O) (K : ∀ s', RelS E Gd O [] (mOut q (sZ (sZ (sZ m 9 (m.1 9 + y.1.1 3)) 12 (m.1 12 + 1)) 13 1)) s' → RefR E Gd O (aR A (mOut q (sZ (sZ (sZ m 9 (m.1 9 + y.1.1 3)) 12 (m.1 12 + 1)) 13 1))) M (upr i0 (M + 1) s')) (hout : OutM M i i0) : Go l G mX6_lose 4 0 0 92 [some (.ref M), o1, some (.int (nI j)), o3, some (.int (y.1.1 3)), o5] [] n (upr i0 (M + 1) s) r (PQ (y.1.1 3) (RefR E Gd O (aR A (mOut q (sZ (sZ (sZ m 9 (m.1 9 + y.1.1 3)) 12 (m.1 12 + 1)) 13 1))) M) M n i r) := by
  obtain ⟨hM, hr0, hs⟩ := id hX
  have hjl : j < ml.length := (List.getElem?_eq_some_iff.mp hj).1
  have h144 := hR.2.2.2.2.2.2.1.2.1
  have s4 : s 4 = nI (c + 1) := by rw [hR.2.2.2.2.2.2.1.1, hc]
  have hT := hR.take hjl hc
  have hT2 : RelA E Gd β qs ps (ml.eraseIdx j) o (sM m (isort ((ml.eraseIdx j).map Prod.fst))) (rTake s c j) := ⟨hT.1, hT.2.1, hT.2.2.1, hT.2.2.2.1.perm hbs, hT.2.2.2.2⟩
  rw [hsort] at hT2
  have t3 : rTake s c j 3 = m.1 9 := hT2.1 3 (by omega) (by omega) (by omega)
  have t7 : rTake s c j 7 = m.1 12 := hT2.1 7 (by omega) (by omega) (by omega)
  refine go_aload_n (z := 93) dX6_lose_92 rfl rfl ?_
  refine go_iload_n (z := 94) dX6_lose_93 rfl rfl ?_
  refine go_callV (z := 97) (t := 6) [.int (nI j)] dX6_lose_94 rfl mlX6_takeAway vX6_84 ⟨by decide, rfl⟩ hM rfl rfl (by decide) (cat_i cat_nil) (by simp) (by decide) (by first | decide | omega) (by first | decide | omega) (c_mTake (c := c) hX s4 (by omega) (by omega)) ?_
  refine ret_elim ?_
  refine go_aload_n (z := 98) dX6_lose_97 rfl rfl ?_
  refine go_getR (z := 101) dX6_lose_98 rfl fX6_7 (by assumption) rfl (by assumption) ?_
  refine go_iconst (z := 102) (v := 3) dX6_lose_101 rfl (by decide) ?_
  refine go_dup2 (z := 103) dX6_lose_102 rfl rfl rfl ?_
  refine go_ialdM (z := 104) 3 (by assumption) (by decide) rfl (by omega) dX6_lose_103 rfl ?_
  rw [t3]
  refine go_iload (z := 106) dX6_lose_104 rfl rfl ?_
  refine go_iadd (z := 107) dX6_lose_106 rfl ?_
  refine go_iastM (z := 108) 3 (by assumption) (by decide) rfl (by omega) dX6_lose_107 rfl ?_
  refine go_aload_n (z := 109) dX6_lose_108 rfl rfl ?_
  refine go_getR (z := 112) dX6_lose_109 rfl fX6_7 (by assumption) rfl (by assumption) ?_
  refine go_bipush (z := 114) (v := 7) dX6_lose_112 rfl (by decide) ?_
  refine go_dup2 (z := 115) dX6_lose_114 rfl rfl rfl ?_
  refine go_ialdM (z := 116) 7 (by assumption) (by decide) rfl (by omega) dX6_lose_115 rfl ?_
  rw [up1_n (show (7 : Nat) ≠ 3 by decide), t7]
  refine go_iconst (z := 117) (v := 1) dX6_lose_116 rfl (by decide) ?_
  refine go_iadd (z := 118) dX6_lose_117 rfl ?_
  refine go_iastM (z := 119) 7 (by assumption) (by decide) rfl (by omega) dX6_lose_118 rfl ?_
  refine go_aload_n (z := 120) dX6_lose_119 rfl rfl ?_
  refine go_getR (z := 123) dX6_lose_120 rfl fX6_7 (by assumption) rfl (by assumption) ?_
  refine go_bipush (z := 125) (v := 11) dX6_lose_123 rfl (by decide) ?_
  refine go_iconst (z := 126) (v := 1) dX6_lose_125 rfl (by decide) ?_
  refine go_iastM (z := 127) 11 (by assumption) (by decide) rfl (by omega) dX6_lose_126 rfl ?_
  refine go_iload (z := 129) dX6_lose_127 rfl rfl ?_
  refine go_iret dX6_lose_129 rfl ⟨rfl, rfl, rfl, hout.tr (OutM.pr (a := M + 1) (by omega) (by omega)), K _ ?_⟩
  exact ⟨β, qs, ps, ml.eraseIdx j, o, ho, ((hT2.z (w := 3) (by omega) (by omega) (by omega)).z (w := 7) (by omega) (by omega) (by omega)).z (w := 11) (by omega) (by omega) (by omega)⟩
theorem c_mLose {x : Int32} (hY : MoY G n M r) (hM0 : ∀ y ∈ A.1.2.2.2.2, MgOk Gd y ∧ ∃ a, a < 2 ^ 30 ∧ y.1 4 = nI a) (hR : RefR E Gd O A M i) : Go l G mX6_lose 4 0 0 0 (lentry [.ref M, .int x] 6) [] n i r (PQ (aLose A x).1 (RefR E Gd O (aLose A x).2 M) M n i r) := by
  obtain ⟨⟨hM, hr0, hs⟩, ⟨hr1, hr3, hr5, hr6, hr8, hr12⟩, hA2, hA3, hA4, hA5, hA6, hA7⟩ := id hY
  have hX := hY.1
  obtain ⟨β, qs, ps, ml, o, ho, hA⟩ := id hR.1
  have hA : RelA E Gd β qs ps ml o A.1 (i (M + 1)) := hA
  have hmem : ∀ y ∈ ml, y.1 ∈ A.1.2.2.2.2 := fun y hy => by
    rw [hA.2.2.2.2.2.2.2.2]
    exact (isort_perm _).mem_iff.mpr (List.mem_map.mpr ⟨y, hy, rfl⟩)
  have hB : ArrB ml := fun y hy => (hM0 y.1 (hmem y hy)).2
  have h144 := hA.2.2.2.2.2.2.1.2.1
  unfold aLose
  refine go_iload_n (z := 1) dX6_lose_0 rfl rfl ?_
  refine go_if_ge (z := 7) (z2 := 4) dX6_lose_1 rfl (by decide) (fun h0 => ?_) (fun h0 => ?_)
  · rw [if_neg (Int32.not_lt.mpr h0)]
    obtain ⟨q, hq, eq⟩ := nI_of (Int32.not_lt.mpr h0)
    subst eq
    rw [nI_clamp hq]
    refine go_aload_n (z := 8) dX6_lose_7 rfl rfl ?_
    refine go_iload_n (z := 9) dX6_lose_8 rfl rfl ?_
    refine go_callV (z := 12) (t := 6) [.int (nI q)] dX6_lose_9 rfl mlX6_ranked vX6_152 ⟨by decide, rfl⟩ hM rfl rfl (by decide) (cat_i cat_nil) (by simp) (by decide) (by first | decide | omega) (by first | decide | omega) (at_i (a := M + 1) (c_mRanked hX hA.2.2.2.2.2.2.1.1 h144)) ?_
    refine ret_elim ?_
    refine go_istore_n (z := 13) dX6_lose_12 rfl (by decide) ?_
    refine go_iload_n (z := 14) dX6_lose_13 rfl rfl ?_
    refine go_bipush (z := 16) (v := (-5)) dX6_lose_14 rfl (by decide) ?_
    rcases hA.rank hB hq with ⟨r1, r2⟩ | ⟨j, y, r1, r2, r3, r4⟩
    · rw [r1, r2]
      refine go_icmp_ne (z := 21) (z2 := 19) dX6_lose_16 rfl (by decide) (fun h => absurd rfl h) (fun _ => ?_)
      refine go_iconst (z := 20) (v := (-1)) dX6_lose_19 rfl (by decide) ?_
      exact go_iret dX6_lose_20 rfl (pq_same hR)
    · rw [r1, r3]
      have hj : j < ml.length := (List.getElem?_eq_some_iff.mp r2).1
      obtain ⟨c, hc⟩ : ∃ c, ml.length = c + 1 := ⟨ml.length - 1, by omega⟩
      obtain ⟨g, g5⟩ := hA.2.2.2.2.2.2.1.2.2 j y r2
      have hyl := List.mem_of_getElem? r2
      obtain ⟨⟨f, t, hf, ht, e1, e2, hk⟩, -⟩ := hM0 y.1 (hmem y hyl)
      have hBb := hA.2.2.2.2.2.2.2.1 y hyl
      have c1 : (y.1.1 1).toNatClampNeg = f := by rw [e1]; exact nI_clamp (by omega)
      have c2 : (y.1.1 2).toNatClampNeg = t := by rw [e2]; exact nI_clamp (by omega)
      refine go_icmp_ne (z := 21) (z2 := 19) dX6_lose_16 rfl (by decide) (fun _ => ?_) (fun h => absurd h (o2i_n (k := j) (by omega)))
      show Go l G mX6_lose _ _ _ 21 _ _ n i r (PQ (y.1.1 3) (RefR E Gd O (aR A (mDrop q y.1 A.1)) M) M n i r)
      unfold mDrop
      rw [c1, c2]
      dsimp only
      have Kr : ∀ m' s', RelS E Gd O [] m' s' → RefR E Gd O (aR A m') M (upr (recI i M A.2.1.length) (M + 1) s') := fun m' s' h => hR.aR h
      refine go_aload_n (z := 22) dX6_lose_21 rfl rfl ?_
      refine go_callV (z := 25) (t := 6) [] dX6_lose_22 rfl mlX6_record vX6_107 ⟨by decide, rfl⟩ hM rfl rfl (by decide) cat_nil (by simp) (by decide) (by first | decide | omega) (by first | decide | omega) (c_mRecord hY hR.2.1.1 hR.2.1.2.1) ?_
      refine ret_elim ?_
      refine go_i (upr_id (a := M + 1)).symm ?_
      rw [recI_1]
      refine go_aload_n (z := 26) dX6_lose_25 rfl rfl ?_
      refine go_iload_n (z := 27) dX6_lose_26 rfl rfl ?_
      refine go_iconst (z := 28) (v := 0) dX6_lose_27 rfl (by decide) ?_
      refine go_callV (z := 31) (t := 6) [.int (nI j), .int (nI 0)] dX6_lose_28 rfl mlX6_ofMessage vX6_60 ⟨by decide, rfl⟩ hM rfl rfl (by decide) (cat_i (cat_i cat_nil)) (by simp) (by decide) (by first | decide | omega) (by first | decide | omega) (c_mOfMsg hX (by omega) (by omega)) ?_
      refine ret_elim ?_
      rw [g 0 (by omega)]
      refine go_istore_n (z := 32) dX6_lose_31 rfl (by decide) ?_
      refine go_aload_n (z := 33) dX6_lose_32 rfl rfl ?_
      refine go_iload_n (z := 34) dX6_lose_33 rfl rfl ?_
      refine go_iconst (z := 35) (v := 3) dX6_lose_34 rfl (by decide) ?_
      refine go_callV (z := 38) (t := 6) [.int (nI j), .int (nI 3)] dX6_lose_35 rfl mlX6_ofMessage vX6_60 ⟨by decide, rfl⟩ hM rfl rfl (by decide) (cat_i (cat_i cat_nil)) (by simp) (by decide) (by first | decide | omega) (by first | decide | omega) (c_mOfMsg hX (by omega) (by omega)) ?_
      refine ret_elim ?_
      rw [g 3 (by omega)]
      refine go_istore (z := 40) dX6_lose_38 rfl (by decide) ?_
      refine go_aload_n (z := 41) dX6_lose_40 rfl rfl ?_
      refine go_iload_n (z := 42) dX6_lose_41 rfl rfl ?_
      refine go_iconst (z := 43) (v := 5) dX6_lose_42 rfl (by decide) ?_
      refine go_callV (z := 46) (t := 6) [.int (nI j), .int (nI 5)] dX6_lose_43 rfl mlX6_ofMessage vX6_60 ⟨by decide, rfl⟩ hM rfl rfl (by decide) (cat_i (cat_i cat_nil)) (by simp) (by decide) (by first | decide | omega) (by first | decide | omega) (c_mOfMsg hX (by omega) (by omega)) ?_
      refine ret_elim ?_
      rw [g5]
      refine go_iconst (z := 47) (v := 1) dX6_lose_46 rfl (by decide) ?_
      refine go_isub (z := 48) dX6_lose_47 rfl ?_
      refine go_istore (z := 50) dX6_lose_48 rfl (by decide) ?_
      refine go_iload_n (z := 51) dX6_lose_50 rfl rfl ?_
      rcases hk with ⟨k0, ht6, a, ha, hg⟩ | ⟨k1, hf6, hn⟩ | ⟨k2, ht6, hn⟩ | ⟨k3, hf6, hn⟩
      · rw [k0, if_neg (show ¬ (0 : Int32) = 1 by decide), if_neg (show ¬ (0 : Int32) = 2 by decide)]
        rcases hBb with ⟨b1, -⟩ | ⟨e, b1, b2⟩
        · rw [ha] at b1; cases b1
        · have hperm := bs_erase1 r2 b1
          obtain ⟨x1, x2⟩ := (hA.2.2.2.1.2.2.2.2.2.2 e).mp (hperm.mem_iff.mpr List.mem_cons_self)
          have xa : 0 < eF (i (M + 1)) e 4 := by rw [x2]; decide
          have hD := hA.drop (s2 := rDrop (i (M + 1)) e) hperm (rDrop_o x1) (fun x f _ hf => rDrop_f x f hf) (rDrop_4 hA.2.2.2.1 x1 xa)
          refine go_if_ne (z := 60) (z2 := 54) dX6_lose_51 rfl (by decide) (fun h => absurd rfl h) (fun _ => ?_)
          rw [b1, nI_pred]
          refine go_aload_n (z := 55) dX6_lose_54 rfl rfl ?_
          refine go_iload (z := 57) dX6_lose_55 rfl rfl ?_
          refine go_callV (z := 60) (t := 6) [.int (nI e)] dX6_lose_57 rfl mlX6_drop vX6_155 ⟨by decide, rfl⟩ hM rfl rfl (by decide) (cat_i cat_nil) (by simp) (by decide) (by first | decide | omega) (by first | decide | omega) (c_mDrop hX hA.2.2.2.1.2.1 x1) ?_
          refine ret_elim ?_
          refine go_iload_n (z := 61) dX6_lose_60 rfl rfl ?_
          refine go_iconst (z := 62) (v := 1) dX6_lose_61 rfl (by decide) ?_
          refine go_icmp_eq (z := 70) (z2 := 65) dX6_lose_62 rfl (by decide) (fun h => absurd h (by decide)) (fun _ => ?_)
          refine go_iload_n (z := 66) dX6_lose_65 rfl rfl ?_
          refine go_iconst (z := 67) (v := 2) dX6_lose_66 rfl (by decide) ?_
          refine go_icmp_ne (z := 92) (z2 := 70) dX6_lose_67 rfl (by decide) (fun _ => ?_) (fun h => absurd h (by decide))
          exact c_mLoseTail hX hD r2 hc (List.Perm.refl _) r4 ho (Kr _) recI_out
      · have hb0 : y.2 = 0 := by
          rcases hBb with ⟨-, b1⟩ | ⟨e, -, b2⟩
          · exact b1
          · rw [hn] at b2; cases b2
        rw [k1, if_pos rfl, if_neg (show ¬ (1 : Int32) = 2 by decide)]
        have hH := hA.house (h := f) (w := 8) (x := 1) hf6 (by omega) (fun _ => Or.inr rfl)
        refine go_if_ne (z := 60) (z2 := 54) dX6_lose_51 rfl (by decide) (fun _ => ?_) (fun h => absurd h (by decide))
        refine go_iload_n (z := 61) dX6_lose_60 rfl rfl ?_
        refine go_iconst (z := 62) (v := 1) dX6_lose_61 rfl (by decide) ?_
        refine go_icmp_eq (z := 70) (z2 := 65) dX6_lose_62 rfl (by decide) (fun _ => ?_) (fun h => absurd rfl h)
        refine go_aload_n (z := 71) dX6_lose_70 rfl rfl ?_
        refine go_aload_n (z := 72) dX6_lose_71 rfl rfl ?_
        refine go_iload_n (z := 73) dX6_lose_72 rfl rfl ?_
        refine go_iload_n (z := 74) dX6_lose_73 rfl rfl ?_
        refine go_iconst (z := 75) (v := 1) dX6_lose_74 rfl (by decide) ?_
        refine go_icmp_ne (z := 82) (z2 := 78) dX6_lose_75 rfl (by decide) (fun h => absurd rfl h) (fun _ => ?_)
        refine go_iconst (z := 79) (v := 1) dX6_lose_78 rfl (by decide) ?_
        refine go_goto (z := 83) dX6_lose_79 (by decide) ?_
        refine go_callV (z := 86) (t := 6) [.int (nI j), .int (nI 1)] dX6_lose_83 rfl mlX6_ofMessage vX6_60 ⟨by decide, rfl⟩ hM rfl rfl (by decide) (cat_i (cat_i cat_nil)) (by simp) (by decide) (by first | decide | omega) (by first | decide | omega) (c_mOfMsg hX (by omega) (by omega)) ?_
        refine ret_elim ?_
        rw [g 1 (by omega), e1]
        refine go_bipush (z := 88) (v := 8) dX6_lose_86 rfl (by decide) ?_
        refine go_iconst (z := 89) (v := 1) dX6_lose_88 rfl (by decide) ?_
        refine go_callV (z := 92) (t := 6) [.int (nI f), .int (nI 8), .int 1] dX6_lose_89 rfl mlX6_setHouse vX6_77 ⟨by decide, rfl⟩ hM rfl rfl (by decide) (cat_i (cat_i (cat_i cat_nil))) (by simp) (by decide) (by first | decide | omega) (by first | decide | omega) (c_mSetHouse hX hf6 (by omega)) ?_
        refine ret_elim ?_
        exact c_mLoseTail hX hH r2 hc (by rw [bs_erase0 r2 hb0]) r4 ho (Kr _) recI_out
      · have hb0 : y.2 = 0 := by
          rcases hBb with ⟨-, b1⟩ | ⟨e, -, b2⟩
          · exact b1
          · rw [hn] at b2; cases b2
        rw [k2, if_neg (show ¬ (2 : Int32) = 1 by decide), if_pos rfl]
        have hH := hA.house (h := t) (w := 8) (x := 1) ht6 (by omega) (fun _ => Or.inr rfl)
        refine go_if_ne (z := 60) (z2 := 54) dX6_lose_51 rfl (by decide) (fun _ => ?_) (fun h => absurd h (by decide))
        refine go_iload_n (z := 61) dX6_lose_60 rfl rfl ?_
        refine go_iconst (z := 62) (v := 1) dX6_lose_61 rfl (by decide) ?_
        refine go_icmp_eq (z := 70) (z2 := 65) dX6_lose_62 rfl (by decide) (fun h => absurd h (by decide)) (fun _ => ?_)
        refine go_iload_n (z := 66) dX6_lose_65 rfl rfl ?_
        refine go_iconst (z := 67) (v := 2) dX6_lose_66 rfl (by decide) ?_
        refine go_icmp_ne (z := 92) (z2 := 70) dX6_lose_67 rfl (by decide) (fun h => absurd rfl h) (fun _ => ?_)
        refine go_aload_n (z := 71) dX6_lose_70 rfl rfl ?_
        refine go_aload_n (z := 72) dX6_lose_71 rfl rfl ?_
        refine go_iload_n (z := 73) dX6_lose_72 rfl rfl ?_
        refine go_iload_n (z := 74) dX6_lose_73 rfl rfl ?_
        refine go_iconst (z := 75) (v := 1) dX6_lose_74 rfl (by decide) ?_
        refine go_icmp_ne (z := 82) (z2 := 78) dX6_lose_75 rfl (by decide) (fun _ => ?_) (fun h => absurd h (by decide))
        refine go_iconst (z := 83) (v := 2) dX6_lose_82 rfl (by decide) ?_
        refine go_callV (z := 86) (t := 6) [.int (nI j), .int (nI 2)] dX6_lose_83 rfl mlX6_ofMessage vX6_60 ⟨by decide, rfl⟩ hM rfl rfl (by decide) (cat_i (cat_i cat_nil)) (by simp) (by decide) (by first | decide | omega) (by first | decide | omega) (c_mOfMsg hX (by omega) (by omega)) ?_
        refine ret_elim ?_
        rw [g 2 (by omega), e2]
        refine go_bipush (z := 88) (v := 8) dX6_lose_86 rfl (by decide) ?_
        refine go_iconst (z := 89) (v := 1) dX6_lose_88 rfl (by decide) ?_
        refine go_callV (z := 92) (t := 6) [.int (nI t), .int (nI 8), .int 1] dX6_lose_89 rfl mlX6_setHouse vX6_77 ⟨by decide, rfl⟩ hM rfl rfl (by decide) (cat_i (cat_i (cat_i cat_nil))) (by simp) (by decide) (by first | decide | omega) (by first | decide | omega) (c_mSetHouse hX ht6 (by omega)) ?_
        refine ret_elim ?_
        exact c_mLoseTail hX hH r2 hc (by rw [bs_erase0 r2 hb0]) r4 ho (Kr _) recI_out
      · have hb0 : y.2 = 0 := by
          rcases hBb with ⟨-, b1⟩ | ⟨e, -, b2⟩
          · exact b1
          · rw [hn] at b2; cases b2
        rw [k3, if_neg (show ¬ (3 : Int32) = 1 by decide), if_neg (show ¬ (3 : Int32) = 2 by decide)]
        refine go_if_ne (z := 60) (z2 := 54) dX6_lose_51 rfl (by decide) (fun _ => ?_) (fun h => absurd h (by decide))
        refine go_iload_n (z := 61) dX6_lose_60 rfl rfl ?_
        refine go_iconst (z := 62) (v := 1) dX6_lose_61 rfl (by decide) ?_
        refine go_icmp_eq (z := 70) (z2 := 65) dX6_lose_62 rfl (by decide) (fun h => absurd h (by decide)) (fun _ => ?_)
        refine go_iload_n (z := 66) dX6_lose_65 rfl rfl ?_
        refine go_iconst (z := 67) (v := 2) dX6_lose_66 rfl (by decide) ?_
        refine go_icmp_ne (z := 92) (z2 := 70) dX6_lose_67 rfl (by decide) (fun _ => ?_) (fun h => absurd h (by decide))
        exact c_mLoseTail hX hA r2 hc (by rw [bs_erase0 r2 hb0]) r4 ho (Kr _) recI_out
  · rw [if_pos (Int32.not_le.mp h0)]
    refine go_bipush (z := 6) (v := (-2)) dX6_lose_4 rfl (by decide) ?_
    exact go_iret dX6_lose_6 rfl (pq_same hR)
end MLOSEW
