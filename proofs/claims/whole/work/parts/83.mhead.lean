/-! a head is read at the reference -/
section MHEAD
variable {l : Launch} {G : GG} {n : Nat} {i : IP} {r : RP} {M : Nat} {tx : Nat → Int32} {len p d : Nat} {L : List RN} {R : Sum Nat RS}
theorem lt54 {x : Int32} (h : 48 ≤ x) : x < 54 ↔ x ≤ 53 := by
  obtain ⟨c, hc, e⟩ := nI_of (x := x) (fun q => absurd (Int32.lt_of_lt_of_le q (Int32.le_trans (by decide : (0 : Int32) ≤ 48) h)) Int32.lt_irrefl)
  subst e
  rw [show (54 : Int32) = nI 54 from rfl, show (53 : Int32) = nI 53 from rfl, nI_ltI hc (by omega), nI_leI hc (by omega)]
  omega
theorem rd_no {L : List RN} {d due : Nat} (h : due < 3) : rdOk (L, d, due) = false := decide_eq_false (fun q => by
  have : due = 3 ∨ due = 4 := q.2
  omega)
theorem c_mReadHead (hY : MoY G n M r) (hC : RdC M len tx i) (hS : RdS M p d L i) (hpl : p ≤ len) (hG : R = rgo tx (L, d, 0) p (len - p)) (hI : RInv (L, d, 0) p) : Go l G mX6_readHead 3 0 0 0 (lentry [.ref M] 3) [] n i r (HdQ M n p d L tx len R i r) := by
  obtain ⟨⟨hM, hr0, hs⟩, ⟨hr1, hr3, hr5, hr6, hr8, hr12⟩, hA2, hA3, hA4, hA5, hA6, hA7⟩ := id hY
  have hlen := hC.2.1
  refine go_aload_n (z := 1) dX6_readHead_0 rfl rfl ?_
  refine go_bipush (z := 3) (v := 48) dX6_readHead_1 rfl (by decide) ?_
  refine go_bipush (z := 5) (v := 53) dX6_readHead_3 rfl (by decide) ?_
  refine go_callV (z := 8) (t := 6) [.int 48, .int 53] dX6_readHead_5 rfl mlX6_isNext vX6_116 ⟨by decide, rfl⟩ hM rfl rfl (by decide) (cat_i (cat_i cat_nil)) (by simp) (by decide) (by first | decide | omega) (by first | decide | omega) (c_mIsNext hY hC hS.1 hpl) ?_
  refine ret_elim ?_
  refine go_if_ne (z := 13) (z2 := 11) dX6_readHead_8 rfl (by decide) (fun hb => ?_) (fun hb => ?_)
  · obtain ⟨hp1, hx1, hx2⟩ := of_decide_eq_true (b2i_ne hb)
    obtain ⟨c, k1, k2, k3, k4, k5⟩ := dig_of (b := 53) hx1 hx2 (by omega)
    have hs1 : rstep (L, d, 0) (tx p) = some (L ++ [(c - 48, 0, d)], d, 1) := by
      show (if 48 ≤ tx p ∧ tx p < 54 then some (L ++ [((tx p - 48).toNatClampNeg, 0, d)], d, 1) else none) = _
      rw [if_pos ⟨hx1, (lt54 hx1).mpr hx2⟩, k5]
    have hG1 := hG.trans (rgo_s hp1 hs1)
    have hI1 := rstep_inv hI hs1
    have hL15 : L.length < 15 := by
      have h4 := hI.2.2
      have : 4 * L.length ≤ p := by
        rcases h4 with q | q | q | q | q
        · exact q.2.2
        · exact absurd q.1 (show ¬ 0 = 1 by decide)
        · exact absurd q.1 (show ¬ 0 = 2 by decide)
        · exact absurd q.1 (show ¬ 0 = 3 by decide)
        · exact absurd q.1 (show ¬ 0 = 4 by decide)
      omega
    refine go_aload_n (z := 14) dX6_readHead_13 rfl rfl ?_
    refine go_getR (z := 17) dX6_readHead_14 rfl fX6_22 (by assumption) rfl (by assumption) ?_
    refine go_aload_n (z := 18) dX6_readHead_17 rfl rfl ?_
    refine go_getI (z := 21) dX6_readHead_18 rfl fX6_113 (by assumption) rfl ?_
    rw [hS.1]
    refine go_iald (z := 22) p (by assumption) (by decide) rfl (by omega) dX6_readHead_21 rfl ?_
    rw [hC.2.2 p (by omega)]
    refine go_bipush (z := 24) (v := 48) dX6_readHead_22 rfl (by decide) ?_
    refine go_isub (z := 25) dX6_readHead_24 rfl ?_
    rw [k4]
    refine go_istore_n (z := 26) dX6_readHead_25 rfl (by decide) ?_
    refine go_aload_n (z := 27) dX6_readHead_26 rfl rfl ?_
    refine go_dup (z := 28) dX6_readHead_27 rfl rfl ?_
    refine go_getI (z := 31) dX6_readHead_28 rfl fX6_113 (by assumption) rfl ?_
    rw [hS.1]
    refine go_iconst (z := 32) (v := 1) dX6_readHead_31 rfl (by decide) ?_
    refine go_iadd (z := 33) dX6_readHead_32 rfl ?_
    rw [nI_1]
    have o1 : OutX M i (ups i M 10 (nI (p + 1))) := OutX.pf (Or.inr (Or.inl rfl))
    have hC1 := hC.out o1
    have hS1 := hS.place (p' := p + 1)
    refine go_putI (z := 36) dX6_readHead_33 rfl fX6_113 (by assumption) rfl (Or.inl rfl) rfl ?_
    refine go_aload_n (z := 37) dX6_readHead_36 rfl rfl ?_
    refine go_bipush (z := 39) (v := 58) dX6_readHead_37 rfl (by decide) ?_
    refine go_callV (z := 42) (t := 6) [.int 58] dX6_readHead_39 rfl mlX6_takes vX6_119 ⟨by decide, rfl⟩ hM rfl rfl (by decide) (cat_i cat_nil) (by simp) (by decide) (by first | decide | omega) (by first | decide | omega) (c_mTakes (p := p + 1) hY hC1 hS1.1 (by omega)) ?_
    refine ret_elim ?_
    refine go_if_eq (z := 56) (z2 := 45) dX6_readHead_42 rfl (by decide) (fun hb2 => ?_) (fun hb2 => ?_)
    · have hf := b2i_eq hb2
      rw [hf]
      have hS2 := hS1.place (p' := p + 1 + b2n false)
      refine go_iconst (z := 57) (v := 0) dX6_readHead_56 rfl (by decide) ?_
      refine go_zret dX6_readHead_57 rfl (congrArg Value.int (by decide)) (hd_fail (o1.tr (OutX.pf (Or.inr (Or.inl rfl)))) hS2.1 (by show p + 1 + 0 ≤ len; omega) ?_)
      refine err_at (s := (L ++ [(c - 48, 0, d)], d, 1)) (by show p + 1 + 0 ≤ len; omega) hG1 (fun hlt => ?_) (rd_no (by omega))
      show (if tx (p + 1) = 58 then some (L ++ [(c - 48, 0, d)], d, 2) else none) = none
      rw [if_neg (fun q => by rw [(isN_eq (p := p + 1)).mpr ⟨hlt, q⟩] at hf; cases hf)]
    · have ht := b2i_ne hb2
      rw [ht]
      obtain ⟨hp2, hx58⟩ := isN_eq.mp ht
      have hs2 : rstep (L ++ [(c - 48, 0, d)], d, 1) (tx (p + 1)) = some (L ++ [(c - 48, 0, d)], d, 2) := by
        show (if tx (p + 1) = 58 then some (L ++ [(c - 48, 0, d)], d, 2) else none) = _
        rw [if_pos hx58]
      have hG2 := hG1.trans (rgo_s hp2 hs2)
      have hI2 := rstep_inv hI1 hs2
      have o2 : OutX M i (ups (ups i M 10 (nI (p + 1))) M 10 (nI (p + 1 + b2n true))) := o1.tr (OutX.pf (Or.inr (Or.inl rfl)))
      have hS2 := hS1.place (p' := p + 1 + b2n true)
      have e2 : p + 1 + b2n true = p + 2 := rfl
      rw [e2] at o2 hS2 ⊢
      have hC2 := hC.out o2
      generalize ups (ups i M 10 (nI (p + 1))) M 10 (nI (p + 2)) = i2 at o2 hS2 hC2
      refine go_aload_n (z := 46) dX6_readHead_45 rfl rfl ?_
      refine go_bipush (z := 48) (v := 48) dX6_readHead_46 rfl (by decide) ?_
      refine go_bipush (z := 50) (v := 57) dX6_readHead_48 rfl (by decide) ?_
      refine go_callV (z := 53) (t := 6) [.int 48, .int 57] dX6_readHead_50 rfl mlX6_isNext vX6_116 ⟨by decide, rfl⟩ hM rfl rfl (by decide) (cat_i (cat_i cat_nil)) (by simp) (by decide) (by first | decide | omega) (by first | decide | omega) (c_mIsNext (p := p + 2) hY hC2 hS2.1 (by omega)) ?_
      refine ret_elim ?_
      have rd2 : ∀ x, rstep (L ++ [(c - 48, 0, d)], d, 2) x = if 48 ≤ x ∧ x ≤ 57 ∧ 0 * 10 + (x - 48).toNatClampNeg ≤ 20 then some (L ++ [(c - 48, 0 * 10 + (x - 48).toNatClampNeg, d)], d, 3) else none := fun x => by
        show rDigit (L ++ [(c - 48, 0, d)], d, 2) x = _
        unfold rDigit
        rw [lastW_snoc, setW_snoc]
      refine go_if_ne (z := 58) (z2 := 56) dX6_readHead_53 rfl (by decide) (fun hb3 => ?_) (fun hb3 => ?_)
      · obtain ⟨hp3, hy1, hy2⟩ := of_decide_eq_true (b2i_ne hb3)
        obtain ⟨c2, j1, j2, j3, j4, j5⟩ := dig_of (b := 57) hy1 hy2 (by omega)
        have hs3 : rstep (L ++ [(c - 48, 0, d)], d, 2) (tx (p + 2)) = some (L ++ [(c - 48, c2 - 48, d)], d, 3) := by
          rw [rd2, if_pos ⟨hy1, hy2, by rw [j5]; omega⟩, j5, Nat.zero_mul, Nat.zero_add]
        have hG3 := hG2.trans (rgo_s hp3 hs3)
        have hI3 := rstep_inv hI2 hs3
        refine go_aload_n (z := 59) dX6_readHead_58 rfl rfl ?_
        refine go_getR (z := 62) dX6_readHead_59 rfl fX6_22 (by assumption) rfl (by assumption) ?_
        refine go_aload_n (z := 63) dX6_readHead_62 rfl rfl ?_
        refine go_getI (z := 66) dX6_readHead_63 rfl fX6_113 (by assumption) rfl ?_
        rw [hS2.1]
        refine go_iald (z := 67) (p + 2) (by assumption) (by decide) rfl (by omega) dX6_readHead_66 rfl ?_
        rw [hC2.2.2 (p + 2) (by omega)]
        refine go_bipush (z := 69) (v := 48) dX6_readHead_67 rfl (by decide) ?_
        refine go_isub (z := 70) dX6_readHead_69 rfl ?_
        rw [j4]
        refine go_istore_n (z := 71) dX6_readHead_70 rfl (by decide) ?_
        refine go_aload_n (z := 72) dX6_readHead_71 rfl rfl ?_
        refine go_dup (z := 73) dX6_readHead_72 rfl rfl ?_
        refine go_getI (z := 76) dX6_readHead_73 rfl fX6_113 (by assumption) rfl ?_
        rw [hS2.1]
        refine go_iconst (z := 77) (v := 1) dX6_readHead_76 rfl (by decide) ?_
        refine go_iadd (z := 78) dX6_readHead_77 rfl ?_
        rw [nI_1]
        have o3 : OutX M i (ups i2 M 10 (nI (p + 3))) := o2.tr (OutX.pf (Or.inr (Or.inl rfl)))
        have hS3 := hS2.place (p' := p + 3)
        have hC3 := hC.out o3
        generalize hi3 : ups i2 M 10 (nI (p + 3)) = i3 at o3 hS3 hC3
        have rd3 : ∀ x, 48 ≤ x → x ≤ 57 → rstep (L ++ [(c - 48, c2 - 48, d)], d, 3) x = if c2 - 48 = 0 then none else if 48 ≤ x ∧ x ≤ 57 ∧ (c2 - 48) * 10 + (x - 48).toNatClampNeg ≤ 20 then some (L ++ [(c - 48, (c2 - 48) * 10 + (x - 48).toNatClampNeg, d)], d, 3) else none := fun x x1 x2 => by
          show (if x = 40 then some (L ++ [(c - 48, c2 - 48, d)], d + 1, 0) else if 48 ≤ x ∧ x ≤ 57 then (if lastW (L ++ [(c - 48, c2 - 48, d)]) = 0 then none else rDigit (L ++ [(c - 48, c2 - 48, d)], d, 3) x) else rAfter (L ++ [(c - 48, c2 - 48, d)], d, 3) x) = _
          rw [if_neg (fun q => by rw [q] at x1; exact absurd x1 (by decide)), if_pos ⟨x1, x2⟩, lastW_snoc]
          unfold rDigit
          rw [lastW_snoc, setW_snoc]
        have fin : ∀ o2 : Option Value, (p + 3 < len → 48 ≤ tx (p + 3) → tx (p + 3) ≤ 57 → rstep (L ++ [(c - 48, c2 - 48, d)], d, 3) (tx (p + 3)) = none) → Go l G mX6_readHead 3 0 0 146 [some (.ref M), some (.int (nI (c - 48))), some (.int (nI (c2 - 48)))] [] n i3 r (HdQ M n p d L tx len R i r) := fun o2 hX => c_mHeadEnd hY hS3 (by omega) rfl (by omega) (by omega) o3 hG3 hI3 hX
        refine go_putI (z := 81) dX6_readHead_78 rfl fX6_113 (by assumption) rfl (Or.inl rfl) rfl ?_
        refine go_iload_n (z := 82) dX6_readHead_81 rfl rfl ?_
        rw [hi3]
        refine go_if_le (z := 146) (z2 := 85) dX6_readHead_82 rfl (by decide) (fun hw => fin none (fun _ x1 x2 => ?_)) (fun hw => ?_)
        · have := (nI_leI (b := 0) (by omega) (by omega)).mp hw
          rw [rd3 _ x1 x2, if_pos (by omega)]
        · have hw0 : ¬ c2 - 48 = 0 := fun q => hw (by rw [q]; decide)
          refine go_aload_n (z := 86) dX6_readHead_85 rfl rfl ?_
          refine go_bipush (z := 88) (v := 48) dX6_readHead_86 rfl (by decide) ?_
          refine go_bipush (z := 90) (v := 57) dX6_readHead_88 rfl (by decide) ?_
          refine go_callV (z := 93) (t := 6) [.int 48, .int 57] dX6_readHead_90 rfl mlX6_isNext vX6_116 ⟨by decide, rfl⟩ hM rfl rfl (by decide) (cat_i (cat_i cat_nil)) (by simp) (by decide) (by first | decide | omega) (by first | decide | omega) (c_mIsNext (p := p + 3) hY hC3 hS3.1 (by omega)) ?_
          refine ret_elim ?_
          refine go_if_eq (z := 146) (z2 := 96) dX6_readHead_93 rfl (by decide) (fun hb4 => fin none (fun x0 x1 x2 => absurd ⟨x0, x1, x2⟩ (fun q => b2i_no hb4 (fun _ => decide_eq_true q) trivial))) (fun hb4 => ?_)
          obtain ⟨hp4, hz1, hz2⟩ := of_decide_eq_true (b2i_ne hb4)
          obtain ⟨c3, m1, m2, m3, m4, m5⟩ := dig_of (b := 57) hz1 hz2 (by omega)
          have hv : (10 : Int32) * nI (c2 - 48) + nI c3 - 48 = nI ((c2 - 48) * 10 + (c3 - 48)) := by
            rw [show (10 : Int32) = nI 10 from rfl, pk_mul, nI_add, show (48 : Int32) = nI 48 from rfl, pk_sub (by omega)]
            congr 1
            omega
          refine go_bipush (z := 98) (v := 10) dX6_readHead_96 rfl (by decide) ?_
          refine go_iload_n (z := 99) dX6_readHead_98 rfl rfl ?_
          refine go_imul (z := 100) dX6_readHead_99 rfl ?_
          refine go_aload_n (z := 101) dX6_readHead_100 rfl rfl ?_
          refine go_getR (z := 104) dX6_readHead_101 rfl fX6_22 (by assumption) rfl (by assumption) ?_
          refine go_aload_n (z := 105) dX6_readHead_104 rfl rfl ?_
          refine go_getI (z := 108) dX6_readHead_105 rfl fX6_113 (by assumption) rfl ?_
          rw [hS3.1]
          refine go_iald (z := 109) (p + 3) (by assumption) (by decide) rfl (by omega) dX6_readHead_108 rfl ?_
          rw [hC3.2.2 (p + 3) (by omega), m3]
          refine go_iadd (z := 110) dX6_readHead_109 rfl ?_
          refine go_bipush (z := 112) (v := 48) dX6_readHead_110 rfl (by decide) ?_
          refine go_isub (z := 113) dX6_readHead_112 rfl ?_
          refine go_bipush (z := 115) (v := 20) dX6_readHead_113 rfl (by decide) ?_
          rw [hv]
          refine go_icmp_gt (z := 146) (z2 := 118) dX6_readHead_115 rfl (by decide) (fun hgt => fin none (fun _ x1 x2 => ?_)) (fun hle => ?_)
          · have := (nI_ltI (a := 20) (by omega) (by omega)).mp hgt
            rw [rd3 _ x1 x2, if_neg hw0, if_neg (fun q => by rw [m5] at q; omega)]
          · have h20 : (c2 - 48) * 10 + (c3 - 48) ≤ 20 := by
              rcases Nat.lt_or_ge 20 ((c2 - 48) * 10 + (c3 - 48)) with q | q
              · exact absurd ((nI_ltI (a := 20) (by omega) (by omega)).mpr q) hle
              · exact q
            have hs4 : rstep (L ++ [(c - 48, c2 - 48, d)], d, 3) (tx (p + 3)) = some (L ++ [(c - 48, (c2 - 48) * 10 + (c3 - 48), d)], d, 3) := by
              rw [rd3 _ hz1 hz2, if_neg hw0, if_pos ⟨hz1, hz2, by rw [m5]; exact h20⟩, m5]
            have hG4 := hG3.trans (rgo_s hp4 hs4)
            have hI4 := rstep_inv hI3 hs4
            have o4 : OutX M i (ups i3 M 10 (nI (p + 4))) := o3.tr (OutX.pf (Or.inr (Or.inl rfl)))
            have hS4 := hS3.place (p' := p + 4)
            refine go_bipush (z := 120) (v := 10) dX6_readHead_118 rfl (by decide) ?_
            refine go_iload_n (z := 121) dX6_readHead_120 rfl rfl ?_
            refine go_imul (z := 122) dX6_readHead_121 rfl ?_
            refine go_aload_n (z := 123) dX6_readHead_122 rfl rfl ?_
            refine go_getR (z := 126) dX6_readHead_123 rfl fX6_22 (by assumption) rfl (by assumption) ?_
            refine go_aload_n (z := 127) dX6_readHead_126 rfl rfl ?_
            refine go_getI (z := 130) dX6_readHead_127 rfl fX6_113 (by assumption) rfl ?_
            rw [hS3.1]
            refine go_iald (z := 131) (p + 3) (by assumption) (by decide) rfl (by omega) dX6_readHead_130 rfl ?_
            rw [hC3.2.2 (p + 3) (by omega), m3]
            refine go_iadd (z := 132) dX6_readHead_131 rfl ?_
            refine go_bipush (z := 134) (v := 48) dX6_readHead_132 rfl (by decide) ?_
            refine go_isub (z := 135) dX6_readHead_134 rfl ?_
            rw [hv]
            refine go_istore_n (z := 136) dX6_readHead_135 rfl (by decide) ?_
            refine go_aload_n (z := 137) dX6_readHead_136 rfl rfl ?_
            refine go_dup (z := 138) dX6_readHead_137 rfl rfl ?_
            refine go_getI (z := 141) dX6_readHead_138 rfl fX6_113 (by assumption) rfl ?_
            rw [hS3.1]
            refine go_iconst (z := 142) (v := 1) dX6_readHead_141 rfl (by decide) ?_
            refine go_iadd (z := 143) dX6_readHead_142 rfl ?_
            rw [nI_1]
            refine go_putI (z := 146) dX6_readHead_143 rfl fX6_113 (by assumption) rfl (Or.inl rfl) rfl ?_
            refine c_mHeadEnd (p := p + 4) hY hS4 (by omega) rfl (by omega) (by omega) o4 hG4 hI4 (fun _ x1 x2 => ?_)
            show (if tx (p + 4) = 40 then some (L ++ [(c - 48, (c2 - 48) * 10 + (c3 - 48), d)], d + 1, 0) else if 48 ≤ tx (p + 4) ∧ tx (p + 4) ≤ 57 then (if lastW (L ++ [(c - 48, (c2 - 48) * 10 + (c3 - 48), d)]) = 0 then none else rDigit (L ++ [(c - 48, (c2 - 48) * 10 + (c3 - 48), d)], d, 3) (tx (p + 4))) else rAfter (L ++ [(c - 48, (c2 - 48) * 10 + (c3 - 48), d)], d, 3) (tx (p + 4))) = none
            have lw : lastW (L ++ [(c - 48, (c2 - 48) * 10 + (c3 - 48), d)]) = (c2 - 48) * 10 + (c3 - 48) := lastW_snoc _ _
            rw [if_neg (fun q => by rw [q] at x1; exact absurd x1 (by decide)), if_pos ⟨x1, x2⟩, lw, if_neg (by omega)]
            unfold rDigit
            dsimp only
            rw [lw, if_neg (fun q => by have := q.2.2; omega)]
      · refine go_iconst (z := 57) (v := 0) dX6_readHead_56 rfl (by decide) ?_
        refine go_zret dX6_readHead_57 rfl (congrArg Value.int (by decide)) (hd_fail o2 hS2.1 (by omega) ?_)
        refine err_at (s := (L ++ [(c - 48, 0, d)], d, 2)) (by omega) hG2 (fun hlt => ?_) (rd_no (by omega))
        rw [rd2, if_neg (fun q => b2i_no hb3 (fun _ => decide_eq_true ⟨hlt, q.1, q.2.1⟩) trivial)]
  · refine go_iconst (z := 12) (v := 0) dX6_readHead_11 rfl (by decide) ?_
    refine go_zret dX6_readHead_12 rfl (congrArg Value.int (by decide)) (hd_fail OutX.rf hS.1 hpl ?_)
    refine err_at (s := (L, d, 0)) hpl hG (fun hlt => ?_) (rd_no (by omega))
    show (if 48 ≤ tx p ∧ tx p < 54 then some (L ++ [((tx p - 48).toNatClampNeg, 0, d)], d, 1) else none) = none
    rw [if_neg (fun q => b2i_no hb (fun _ => decide_eq_true ⟨hlt, q.1, (lt54 q.1).mp q.2⟩) trivial)]
end MHEAD
