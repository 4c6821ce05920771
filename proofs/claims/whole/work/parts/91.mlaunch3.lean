/-! launch at the reference -/
section MLAU
variable {l : Launch} {G : GG} {n n0 : Nat} {i : IP} {r : RP} {M : Nat} {E : EE} {Gd : Nat → Prop} {O : Nat} {A : AP}
theorem RefR.ext {E' : EE} {Gd' : Nat → Prop} (hR : RefR E Gd O A M i) (h : ∀ a, Gd a → Gd' a ∧ E'.1 a = E.1 a ∧ E'.2.1 a = E.2.1 a ∧ E'.2.2.2 a = E.2.2.2 a) : RefR E' Gd' O A M i := by
  obtain ⟨h1, ⟨h2, h3, h4⟩, h5, h6, h7⟩ := hR
  exact ⟨h1.ext h, ⟨h2, h3, fun j m hm => (h4 j m hm).ext h⟩, h5, fun hk => (h6 hk).ext h, h7⟩
theorem RefR.row7 {t : Nat → Int32} (hR : RefR E Gd O A M i) : RefR E Gd O A M (upr i (M + 7) t) := by
  obtain ⟨h1, ⟨h2, h3, h4⟩, h5, h6, h7, h8, h9⟩ := hR
  exact ⟨by rw [upr_n (by omega)]; exact h1, ⟨by rw [upr_n (by omega)]; exact h2, h3, fun j m hm => by rw [upr_n (show M + 2 ≠ M + 7 by omega)]; exact h4 j m hm⟩, by rw [upr_n (by omega)]; exact h5, fun hk => by rw [upr_n (show M + 3 ≠ M + 7 by omega)]; exact h6 hk, by rw [upr_n (by omega)]; exact h7, h8, fun k hk => by rw [upr_n (show M + 5 ≠ M + 7 by omega)]; exact h9 k hk⟩
theorem RdS.rec {p d c : Nat} {L : List RN} (h : RdS M p d L i) : RdS M p d L (recI i M c) := by
  have iM : ∀ k, k ≠ 2 → recI i M c M k = i M k := fun k hk => by
    unfold recI
    rw [ups_k hk, upr_n (by omega)]
  have i6 : recI i M c (M + 6) = i (M + 6) := by
    unfold recI
    rw [ups_row (by omega), upr_n (by omega)]
  exact ⟨(iM 10 (by decide)).trans h.1, (iM 9 (by decide)).trans h.2.1, (iM 11 (by decide)).trans h.2.2.1, fun k y hy => by rw [i6]; exact h.2.2.2 k y hy⟩
theorem c_mLaunch (hY : MoY G n M r) (hR : RefR E Gd O A M i) (hE : EOk E Gd) (hG : ∀ a, Gd a → a < n0) (hcap : mAll E A.1 + (aL A).length ≤ 80 → A.1.2.2.2.2.length + (aL A).length ≤ 141) (hO : O + 15 < 2 ^ 31) : Go l G mX6_launch 5 0 0 0 (lentry [.ref M] 2) [] n i r (PQ (aLaunch E Gd n0 A).1 (RefR (aLaunch E Gd n0 A).2.2.1 (aLaunch E Gd n0 A).2.2.2 (O + 15) (aLaunch E Gd n0 A).2.1 M) M n i r) := by
  obtain ⟨⟨hM, hr0, hs⟩, ⟨hr1, hr3, hr5, hr6, hr8, hr12⟩, hA2, hA3, hA4, hA5, hA6, hA7⟩ := id hY
  have hX := hY.1
  have hl60 := hR.2.2.2.2.2.1
  have hRO := hR.mono (show O ≤ O + 15 by omega)
  unfold aLaunch
  refine go_aload_n (z := 1) dX6_launch_0 rfl rfl ?_
  refine go_callV (z := 4) (t := 6) [] dX6_launch_1 rfl mlX6_readText vX6_136 ⟨by decide, rfl⟩ hM rfl rfl (by decide) cat_nil (by simp) (by decide) (by first | decide | omega) (by first | decide | omega) (c_mReadText hY hR) ?_
  refine rt_elim hl60 (fun p i' h1 h2 h3 => ?_) (fun i' p d h1 ho hS hL hV hB hne => ?_)
  · rw [h1]
    refine go_istore_n (z := 5) dX6_launch_4 rfl (by decide) ?_
    refine go_iload_n (z := 6) dX6_launch_5 rfl rfl ?_
    refine go_bipush (z := 8) (v := (-5)) dX6_launch_6 rfl (by decide) ?_
    refine go_icmp_eq (z := 16) (z2 := 11) dX6_launch_8 rfl (by decide) (fun h => absurd h (o2i_n (k := p) (by omega))) (fun _ => ?_)
    refine go_bipush (z := 13) (v := (-100)) dX6_launch_11 rfl (by decide) ?_
    refine go_iload_n (z := 14) dX6_launch_13 rfl rfl ?_
    refine go_isub (z := 15) dX6_launch_14 rfl ?_
    exact go_iret dX6_launch_15 rfl ⟨rfl, rfl, rfl, h3.m, hRO.out h3⟩
  · rw [h1]
    have hR1 := hR.out ho
    obtain ⟨β, qs, ps, ml, o, hoo, hA⟩ := id hR1.1
    have hA : RelA E Gd β qs ps ml o A.1 (i' (M + 1)) := hA
    have hall := RelG.allA hA hE
    unfold aLaunchO
    dsimp only
    refine go_istore_n (z := 5) dX6_launch_4 rfl (by decide) ?_
    refine go_iload_n (z := 6) dX6_launch_5 rfl rfl ?_
    refine go_bipush (z := 8) (v := (-5)) dX6_launch_6 rfl (by decide) ?_
    refine go_icmp_eq (z := 16) (z2 := 11) dX6_launch_8 rfl (by decide) (fun _ => ?_) (fun h => absurd rfl h)
    refine go_aload_n (z := 17) dX6_launch_16 rfl rfl ?_
    refine go_callV (z := 20) (t := 6) [] dX6_launch_17 rfl mlX6_underWay vX6_139 ⟨by decide, rfl⟩ hM rfl rfl (by decide) cat_nil (by simp) (by decide) (by first | decide | omega) (by first | decide | omega) (at_i (a := M + 1) (c_mUnderWay hX)) ?_
    refine ret_elim ?_
    refine go_aload_n (z := 21) dX6_launch_20 rfl rfl ?_
    refine go_getI (z := 24) dX6_launch_21 rfl fX6_122 (by assumption) rfl ?_
    rw [hall, hS.2.1]
    refine go_iadd (z := 25) dX6_launch_24 rfl ?_
    rw [nI_add]
    have hm80 : mAll E A.1 ≤ 80 := by rw [← hall]; exact cnt_le _ _
    refine go_bipush (z := 27) (v := 80) dX6_launch_25 rfl (by decide) ?_
    refine go_icmp_le (z := 33) (z2 := 30) dX6_launch_27 rfl (by decide) (fun hle => ?_) (fun hgt => ?_)
    · have hle := (nI_leI (b := 80) (by omega) (by omega)).mp hle
      rw [if_pos hle]
      refine go_aload_n (z := 34) dX6_launch_33 rfl rfl ?_
      refine go_callV (z := 37) (t := 6) [] dX6_launch_34 rfl mlX6_record vX6_107 ⟨by decide, rfl⟩ hM rfl rfl (by decide) cat_nil (by simp) (by decide) (by first | decide | omega) (by first | decide | omega) (c_mRecord hY hR1.2.1.1 hR1.2.1.2.1) ?_
      refine ret_elim ?_
      have hS2 : RelS E Gd O [] A.1 (recI i' M A.2.1.length (M + 1)) := by rw [recI_1]; exact hR1.1
      have hrec := hR1.rec
      have hext : ∀ a, Gd a → gExt n0 (aL A) Gd a ∧ (eExt n0 (aL A) E).1 a = E.1 a ∧ (eExt n0 (aL A) E).2.1 a = E.2.1 a ∧ (eExt n0 (aL A) E).2.2.2 a = E.2.2.2 a := fun a ha => ⟨Or.inl ha, (ext_old (hG a ha)).1, (ext_old (hG a ha)).2.1, (ext_old (hG a ha)).2.2.2⟩
      refine go_aload_n (z := 38) dX6_launch_37 rfl rfl ?_
      refine go_callV (z := 41) (t := 6) [] dX6_launch_38 rfl mlX6_launchAll vX6_142 ⟨by decide, rfl⟩ hM rfl rfl (by decide) cat_nil (by simp) (by decide) (by first | decide | omega) (by first | decide | omega) (c_mLaunchAll (n0 := n0) hY hS2 hS.rec hL hV hB hG (by rw [recI_1, hall]; exact hle) (hcap hle) hO) ?_
      rintro v n' i'' r'' ⟨q1, q2, q3, lt, s', q4, q5⟩
      rw [q1, q2, q3, q4]
      refine go_iret dX6_launch_41 rfl ⟨rfl, rfl, rfl, ho.m.tr (recI_out.tr ((OutM.pr (a := M + 7) (by omega) (by omega)).tr (OutM.pr (a := M + 1) (by omega) (by omega)))), ?_⟩
      exact (((hrec.mono (show O ≤ O + 15 by omega)).ext hext).row7).now q5
    · rw [if_neg (fun q => hgt ((nI_leI (b := 80) (by omega) (by omega)).mpr q))]
      refine go_bipush (z := 32) (v := (-3)) dX6_launch_30 rfl (by decide) ?_
      exact go_iret dX6_launch_32 rfl ⟨rfl, rfl, rfl, ho.m, hRO.out ho⟩
end MLAU
