/-! P25: types -/
section PTYPES2
variable {l : Launch} {G : GG} {n : Nat} {i i0 i1 : IP} {r r0 r1 : RP} {C K : Nat} {E : EE} {Gd : Nat → Prop} {A A0 A1 : AP}
/-- the text that types leaves -/
def TQ (N : Nat) (G : GG) (n C : Nat) (E : EE) (Gd : Nat → Prop) (K : Nat) (A : AP) (i : IP) (r : RP) : QP := fun v n' i' r' => v = some (.int (nI N)) ∧ n' = n ∧ OutC C i r i' r' ∧ ∃ A', A'.1 = A.1 ∧ A'.2.1 = A.2.1 ∧ aErr A' = none ∧ (aL A').length = N ∧ DS G n C E Gd K A' i' r'
theorem td_ok {L : List RN} {due c N : Nat} (h : TD G n C E Gd K A i0 r0 (L, 0, due) c i r) (hd : due = 3 ∨ due = 4) (hl : L.length = N) : OutC C i0 r0 i r ∧ ∃ A', A'.1 = A.1 ∧ A'.2.1 = A.2.1 ∧ aErr A' = none ∧ (aL A').length = N ∧ DS G n C E Gd K A' i r := by
  obtain ⟨ho, A', ⟨h1, h2, h3, h4, h5, h6⟩, hD⟩ := h
  refine ⟨ho, A', h1, h2, ?_, ?_, hD⟩
  · unfold aErr
    rw [h6]
    exact if_pos (decide_eq_true ⟨rfl, hd⟩)
  · unfold aL
    rw [h6]
    exact hl
theorem c_types {v w : Int32} (h : DS G n C E Gd K A i r) : Go l G mL_types 2 0 0 0 (lentry [.ref C, .int v, .int w] 7) [] n i r (TQ (1 + lowN v 5) G n C E Gd K A i r) := by
  have okC := h.1.1
  have hN5 := lowN_lt (v := v) (N := 5) (by omega)
  obtain ⟨N, hN⟩ : ∃ N, N = 1 + lowN v 5 := ⟨_, rfl⟩
  rw [← hN]
  have hN1 : 1 ≤ N := by omega
  have hN2 : N ≤ 5 := by omega
  -- the end: what is still open is closed
  have fin : ∀ d L due c i1 r1 (o5 o6 : Option Value), L.length = N → (due = 3 ∨ due = 4) → c + d ≤ 40 → TD G n C E Gd K A i r (L, d, due) c i1 r1 → Go l G mL_types 2 0 0 182 [some (.ref C), some (.int v), some (.int w), some (.int (nI N)), some (.int (nI d)), o5, o6] [] n i1 r1 (TQ N G n C E Gd K A i r) := by
    intro d
    induction d with
    | zero =>
      intro L due c i1 r1 o5 o6 hl hd hc h1
      refine go_iload (z := 184) dL_types_182 rfl rfl ?_
      refine go_if_le (z := 200) (z2 := 187) dL_types_184 rfl (by decide) (fun _ => ?_) (fun q => absurd (by decide) q)
      refine go_iload_n (z := 201) dL_types_200 rfl rfl ?_
      exact go_iret dL_types_201 rfl ⟨rfl, rfl, td_ok h1 hd hl⟩
    | succ d ih =>
      intro L due c i1 r1 o5 o6 hl hd hc h1
      refine go_iload (z := 184) dL_types_182 rfl rfl ?_
      refine go_if_le (z := 200) (z2 := 187) dL_types_184 rfl (by decide) (fun q => absurd q (nI_nle (by omega) (by omega))) (fun _ => ?_)
      refine go_aload_n (z := 188) dL_types_187 rfl rfl ?_
      refine go_bipush (z := 190) (v := 41) dL_types_188 rfl (by decide) ?_
      refine go_callV (z := 193) (t := 5) [.int 41] dL_types_190 rfl mlX5_type vL_10 ⟨by decide, rfl⟩ okC rfl rfl (by decide) (cat_i cat_nil) (by simp) (by decide) (by first | decide | omega) (by first | decide | omega) (c_td h1 (by omega) (rs_close hd) (pk_charN (q := 41) (by omega)).1) ?_
      rintro v2 n2 i2 r2 ⟨⟨a, p1⟩, p2, h2⟩
      rw [p1, p2]
      refine go_pop (z := 194) dL_types_193 rfl rfl ?_
      refine go_iinc (z := 197) dL_types_194 rfl rfl (pk_m1 d) (by decide) ?_
      refine go_goto (z := 182) dL_types_197 (by decide) ?_
      exact go_lo rfl (ih L 4 (c + 1) i2 r2 o5 o6 hl (Or.inr rfl) (by omega) h2)
  have loop : ∀ e k d L due c i1 r1 (o6 : Option Value), k + e = N → L.length = k → d ≤ k - 1 → c + d ≤ 6 * k → (k = 0 → d = 0 ∧ due = 0) → (0 < k → due = 3) → TD G n C E Gd K A i r (L, d, due) c i1 r1 → Go l G mL_types 2 0 0 19 [some (.ref C), some (.int v), some (.int w), some (.int (nI N)), some (.int (nI d)), some (.int (nI k)), o6] [] n i1 r1 (TQ N G n C E Gd K A i r) := by
    intro e
    induction e with
    | zero =>
      intro k d L due c i1 r1 o6 hk hl hdk hc h0 h3 h1
      refine go_iload (z := 21) dL_types_19 rfl rfl ?_
      refine go_iload_n (z := 22) dL_types_21 rfl rfl ?_
      refine go_icmp_ge (z := 182) (z2 := 25) dL_types_22 rfl (by decide) (fun _ => ?_) (fun q => absurd (nI_le (by omega) (by omega)) q)
      exact fin d L due c i1 r1 _ _ (by omega) (Or.inl (h3 (by omega))) (by omega) h1
    | succ e ih =>
      intro k d L due c i1 r1 o6 hk hl hdk hc h0 h3 h1
      refine go_iload (z := 21) dL_types_19 rfl rfl ?_
      refine go_iload_n (z := 22) dL_types_21 rfl rfl ?_
      refine go_icmp_ge (z := 182) (z2 := 25) dL_types_22 rfl (by decide) (fun q => absurd q (nI_ge (by omega) (by omega))) (fun _ => ?_)
      refine go_iload_n (z := 26) dL_types_25 rfl rfl ?_
      refine go_iconst (z := 27) (v := 3) dL_types_26 rfl (by decide) ?_
      refine go_iload (z := 29) dL_types_27 rfl rfl ?_
      refine go_imul (z := 30) dL_types_29 rfl ?_
      refine go_ishr (z := 31) dL_types_30 rfl ?_
      refine go_iload_n (z := 32) dL_types_31 rfl rfl ?_
      refine go_iconst (z := 33) (v := 2) dL_types_32 rfl (by decide) ?_
      refine go_iload (z := 35) dL_types_33 rfl rfl ?_
      refine go_imul (z := 36) dL_types_35 rfl ?_
      refine go_ishr (z := 37) dL_types_36 rfl ?_
      refine go_ixor (z := 38) dL_types_37 rfl ?_
      generalize (v >>> (3 * nI k &&& 31) ^^^ w >>> (2 * nI k &&& 31)) = g
      refine go_istore (z := 40) dL_types_38 rfl (by decide) ?_
      -- an errand is written
      have c170 : ∀ d2 L2 c2 i2 r2 M, 0 < M → M ≤ 21 → L2.length = k + 1 → lastW L2 = 0 → d2 ≤ k → c2 + d2 ≤ 6 * k + 4 → TD G n C E Gd K A i r (L2, d2, 2) c2 i2 r2 → Go l G mL_types 2 0 0 170 [some (.ref C), some (.int v), some (.int w), some (.int (nI N)), some (.int (nI d2)), some (.int (nI k)), some (.int g)] [.int (nI M), .int (g >>> (8 &&& 31)), .ref C] n i2 r2 (TQ N G n C E Gd K A i r) := by
        intro d2 L2 c2 i2 r2 M m1 m2 hl2 hw2 hd2 hc2 h2
        have hlo := lowN_lt (v := g >>> (8 &&& 31)) m1
        refine go_callS (z := 173) [.int (g >>> (8 &&& 31)), .int (nI M)] dL_types_170 rfl mlL_low sL_20 rfl rfl (by decide) (cat_i (cat_i cat_nil)) (by simp) (by decide) (by first | decide | omega) (by first | decide | omega) (c_low m1 (by omega)) ?_
        refine ret_elim ?_
        refine go_callS (z := 176) [.ref C, .int (nI (lowN (g >>> (8 &&& 31)) M))] dL_types_173 rfl mlL_typeNumber sL_26 rfl rfl (by decide) (cat_r (cat_i cat_nil)) (by simp) (by decide) (by first | decide | omega) (by first | decide | omega) (c_typeNumber h2 (by omega) hw2 (by omega) (by omega) okC) ?_
        rintro v3 n3 i3 r3 ⟨p1, p2, L3, c3, q1, q2, h4⟩
        rw [p1, p2]
        refine go_iinc (z := 179) dL_types_176 rfl rfl (nI_1 k) (by decide) ?_
        refine go_goto (z := 19) dL_types_179 (by decide) ?_
        exact go_lo rfl (ih (k + 1) d2 L3 3 c3 i3 r3 _ (by omega) (by omega) (by omega) (by omega) (fun q => absurd q (by omega)) (fun _ => rfl) h4)
      have c121 : ∀ d2 c2 i2 r2, d2 ≤ k → c2 + d2 ≤ 6 * k + 2 → TD G n C E Gd K A i r (L, d2, 0) c2 i2 r2 → Go l G mL_types 2 0 0 121 [some (.ref C), some (.int v), some (.int w), some (.int (nI N)), some (.int (nI d2)), some (.int (nI k)), some (.int g)] [] n i2 r2 (TQ N G n C E Gd K A i r) := by
        intro d2 c2 i2 r2 hd2 hc2 h2
        have hlo := lowN_lt (v := g >>> (5 &&& 31)) (N := 6) (by omega)
        refine go_aload_n (z := 122) dL_types_121 rfl rfl ?_
        refine go_bipush (z := 124) (v := 48) dL_types_122 rfl (by decide) ?_
        refine go_iload (z := 126) dL_types_124 rfl rfl ?_
        refine go_iconst (z := 127) (v := 5) dL_types_126 rfl (by decide) ?_
        refine go_ishr (z := 128) dL_types_127 rfl ?_
        refine go_bipush (z := 130) (v := 6) dL_types_128 rfl (by decide) ?_
        refine go_callS (z := 133) [.int (g >>> (5 &&& 31)), .int (nI 6)] dL_types_130 rfl mlL_low sL_20 rfl rfl (by decide) (cat_i (cat_i cat_nil)) (by simp) (by decide) (by first | decide | omega) (by first | decide | omega) (c_low (by omega) (by omega)) ?_
        refine ret_elim ?_
        refine go_iadd (z := 134) dL_types_133 rfl ?_
        rw [show (48 : Int32) + nI (lowN (g >>> (5 &&& 31)) 6) = nI (48 + lowN (g >>> (5 &&& 31)) 6) from nI_add 48 _]
        refine go_i2c (z := 135) dL_types_134 rfl (i2c_nI (by omega)) ?_
        refine go_callV (z := 138) (t := 5) [.int (nI (48 + lowN (g >>> (5 &&& 31)) 6))] dL_types_135 rfl mlX5_type vL_10 ⟨by decide, rfl⟩ okC rfl rfl (by decide) (cat_i cat_nil) (by simp) (by decide) (by first | decide | omega) (by first | decide | omega) (c_td h2 (by omega) (rs_house hlo) (pk_charN (by omega)).1) ?_
        rintro v3 n3 i3 r3 ⟨⟨a, p1⟩, p2, h3'⟩
        rw [p1, p2]
        refine go_pop (z := 139) dL_types_138 rfl rfl ?_
        refine go_aload_n (z := 140) dL_types_139 rfl rfl ?_
        refine go_bipush (z := 142) (v := 58) dL_types_140 rfl (by decide) ?_
        refine go_callV (z := 145) (t := 5) [.int 58] dL_types_142 rfl mlX5_type vL_10 ⟨by decide, rfl⟩ okC rfl rfl (by decide) (cat_i cat_nil) (by simp) (by decide) (by first | decide | omega) (by first | decide | omega) (c_td h3' (by omega) rs_colon (pk_charN (q := 58) (by omega)).1) ?_
        rintro v4 n4 i4 r4 ⟨⟨a, p1⟩, p2, h4⟩
        rw [p1, p2]
        refine go_pop (z := 146) dL_types_145 rfl rfl ?_
        refine go_aload_n (z := 147) dL_types_146 rfl rfl ?_
        refine go_iload (z := 149) dL_types_147 rfl rfl ?_
        refine go_bipush (z := 151) (v := 8) dL_types_149 rfl (by decide) ?_
        refine go_ishr (z := 152) dL_types_151 rfl ?_
        refine go_iload (z := 154) dL_types_152 rfl rfl ?_
        refine go_bipush (z := 156) (v := 13) dL_types_154 rfl (by decide) ?_
        refine go_ishr (z := 157) dL_types_156 rfl ?_
        refine go_iconst (z := 158) (v := 3) dL_types_157 rfl (by decide) ?_
        refine go_callS (z := 161) [.int (g >>> (13 &&& 31)), .int (nI 3)] dL_types_158 rfl mlL_low sL_20 rfl rfl (by decide) (cat_i (cat_i cat_nil)) (by simp) (by decide) (by first | decide | omega) (by first | decide | omega) (c_low (by omega) (by omega)) ?_
        refine ret_elim ?_
        refine go_if_ne (z := 169) (z2 := 164) dL_types_161 rfl (by decide) (fun _ => ?_) (fun _ => ?_)
        · refine go_iconst (z := 170) (v := 4) dL_types_169 rfl (by decide) ?_
          exact go_lo rfl (c170 d2 _ _ i4 r4 4 (by omega) (by omega) (by rw [List.length_append, hl]; rfl) (lastW_snoc _ _) hd2 (by omega) h4)
        · refine go_bipush (z := 166) (v := 21) dL_types_164 rfl (by decide) ?_
          refine go_goto (z := 170) dL_types_166 (by decide) ?_
          exact go_lo rfl (c170 d2 _ _ i4 r4 21 (by omega) (by omega) (by rw [List.length_append, hl]; rfl) (lastW_snoc _ _) hd2 (by omega) h4)
      have c104 : ∀ d2 due2 c2 i2 r2, (due2 = 3 ∨ due2 = 4) → d2 ≤ k → c2 + d2 ≤ 6 * k → TD G n C E Gd K A i r (L, d2, due2) c2 i2 r2 → Go l G mL_types 2 0 0 104 [some (.ref C), some (.int v), some (.int w), some (.int (nI N)), some (.int (nI d2)), some (.int (nI k)), some (.int g)] [] n i2 r2 (TQ N G n C E Gd K A i r) := by
        intro d2 due2 c2 i2 r2 hd hd2 hc2 h2
        refine go_aload_n (z := 105) dL_types_104 rfl rfl ?_
        refine go_iload (z := 107) dL_types_105 rfl rfl ?_
        refine go_if_ne (z := 115) (z2 := 110) dL_types_107 rfl (by decide) (fun q => ?_) (fun q => ?_)
        · have hd0 : ¬ d2 = 0 := fun k => q (by rw [k]; rfl)
          refine go_bipush (z := 117) (v := 44) dL_types_115 rfl (by decide) ?_
          refine go_callV (z := 120) (t := 5) [.int 44] dL_types_117 rfl mlX5_type vL_10 ⟨by decide, rfl⟩ okC rfl rfl (by decide) (cat_i cat_nil) (by simp) (by decide) (by first | decide | omega) (by first | decide | omega) (c_td h2 (by omega) (rs_sep1 hd0 hd) (pk_charN (q := 44) (by omega)).1) ?_
          rintro v3 n3 i3 r3 ⟨⟨a, p1⟩, p2, h3'⟩
          rw [p1, p2]
          refine go_pop (z := 121) dL_types_120 rfl rfl ?_
          exact c121 d2 (c2 + 1) i3 r3 hd2 (by omega) h3'
        · have hd0 : d2 = 0 := (nI_eq (b := 0) (by omega) (by omega)).mp q
          subst hd0
          refine go_bipush (z := 112) (v := 59) dL_types_110 rfl (by decide) ?_
          refine go_goto (z := 117) dL_types_112 (by decide) ?_
          refine go_callV (z := 120) (t := 5) [.int 59] dL_types_117 rfl mlX5_type vL_10 ⟨by decide, rfl⟩ okC rfl rfl (by decide) (cat_i cat_nil) (by simp) (by decide) (by first | decide | omega) (by first | decide | omega) (c_td h2 (by omega) (rs_sep0 hd) (pk_charN (q := 59) (by omega)).1) ?_
          rintro v3 n3 i3 r3 ⟨⟨a, p1⟩, p2, h3'⟩
          rw [p1, p2]
          refine go_pop (z := 121) dL_types_120 rfl rfl ?_
          exact c121 0 (c2 + 1) i3 r3 hd2 (by omega) h3'
      have c72 : ∀ d2 due2 c2 i2 r2, (due2 = 3 ∨ due2 = 4) → d2 ≤ k → c2 + d2 ≤ 6 * k → TD G n C E Gd K A i r (L, d2, due2) c2 i2 r2 → Go l G mL_types 2 0 0 72 [some (.ref C), some (.int v), some (.int w), some (.int (nI N)), some (.int (nI d2)), some (.int (nI k)), some (.int g)] [] n i2 r2 (TQ N G n C E Gd K A i r) := by
        intro d2
        induction d2 with
        | zero =>
          intro due2 c2 i2 r2 hd hd2 hc2 h2
          refine go_iload (z := 74) dL_types_72 rfl rfl ?_
          exact go_if_le (z := 104) (z2 := 77) dL_types_74 rfl (by decide) (fun _ => c104 0 due2 c2 i2 r2 hd hd2 hc2 h2) (fun q => absurd (by decide) q)
        | succ d2 ih2 =>
          intro due2 c2 i2 r2 hd hd2 hc2 h2
          refine go_iload (z := 74) dL_types_72 rfl rfl ?_
          refine go_if_le (z := 104) (z2 := 77) dL_types_74 rfl (by decide) (fun q => absurd q (nI_nle (by omega) (by omega))) (fun _ => ?_)
          refine go_iload (z := 79) dL_types_77 rfl rfl ?_
          refine go_iconst (z := 80) (v := 2) dL_types_79 rfl (by decide) ?_
          refine go_iload (z := 82) dL_types_80 rfl rfl ?_
          refine go_iadd (z := 83) dL_types_82 rfl ?_
          refine go_ishr (z := 84) dL_types_83 rfl ?_
          refine go_iconst (z := 85) (v := 2) dL_types_84 rfl (by decide) ?_
          refine go_callS (z := 88) [.int (g >>> (2 + nI (d2 + 1) &&& 31)), .int (nI 2)] dL_types_85 rfl mlL_low sL_20 rfl rfl (by decide) (cat_i (cat_i cat_nil)) (by simp) (by decide) (by first | decide | omega) (by first | decide | omega) (c_low (by omega) (by omega)) ?_
          refine ret_elim ?_
          refine go_if_ne (z := 104) (z2 := 91) dL_types_88 rfl (by decide) (fun _ => c104 (d2 + 1) due2 c2 i2 r2 hd hd2 hc2 h2) (fun _ => ?_)
          refine go_aload_n (z := 92) dL_types_91 rfl rfl ?_
          refine go_bipush (z := 94) (v := 41) dL_types_92 rfl (by decide) ?_
          refine go_callV (z := 97) (t := 5) [.int 41] dL_types_94 rfl mlX5_type vL_10 ⟨by decide, rfl⟩ okC rfl rfl (by decide) (cat_i cat_nil) (by simp) (by decide) (by first | decide | omega) (by first | decide | omega) (c_td h2 (by omega) (rs_close hd) (pk_charN (q := 41) (by omega)).1) ?_
          rintro v3 n3 i3 r3 ⟨⟨a, p1⟩, p2, h3'⟩
          rw [p1, p2]
          refine go_pop (z := 98) dL_types_97 rfl rfl ?_
          refine go_iinc (z := 101) dL_types_98 rfl rfl (pk_m1 d2) (by decide) ?_
          refine go_goto (z := 72) dL_types_101 (by decide) ?_
          exact go_lo rfl (ih2 4 (c2 + 1) i3 r3 (Or.inr rfl) (by omega) (by omega) h3')
      have c67 : Go l G mL_types 2 0 0 67 [some (.ref C), some (.int v), some (.int w), some (.int (nI N)), some (.int (nI d)), some (.int (nI k)), some (.int g)] [] n i1 r1 (TQ N G n C E Gd K A i r) := by
        refine go_iload (z := 69) dL_types_67 rfl rfl ?_
        refine go_if_le (z := 121) (z2 := 72) dL_types_69 rfl (by decide) (fun q => ?_) (fun q => ?_)
        · have hk0 : k = 0 := by
            rcases Nat.eq_zero_or_pos k with c | c
            · exact c
            · exact absurd q (nI_nle c (by omega))
          obtain ⟨e1, e2⟩ := h0 hk0
          rw [e2] at h1
          exact c121 d c i1 r1 (by omega) (by omega) h1
        · have hk0 : 0 < k := by
            rcases Nat.eq_zero_or_pos k with c | c
            · rw [c] at q; exact absurd (by decide) q
            · exact c
          exact c72 d due c i1 r1 (Or.inl (h3 hk0)) (by omega) hc h1
      refine go_iload (z := 42) dL_types_40 rfl rfl ?_
      refine go_if_le (z := 67) (z2 := 45) dL_types_42 rfl (by decide) (fun _ => c67) (fun q => ?_)
      have hk0 : 0 < k := by
        rcases Nat.eq_zero_or_pos k with c | c
        · rw [c] at q; exact absurd (by decide) q
        · exact c
      have hdu := h3 hk0
      subst hdu
      refine go_iload (z := 47) dL_types_45 rfl rfl ?_
      refine go_iconst (z := 48) (v := 3) dL_types_47 rfl (by decide) ?_
      refine go_callS (z := 51) [.int g, .int (nI 3)] dL_types_48 rfl mlL_low sL_20 rfl rfl (by decide) (cat_i (cat_i cat_nil)) (by simp) (by decide) (by first | decide | omega) (by first | decide | omega) (c_low (by omega) (by omega)) ?_
      refine ret_elim ?_
      refine go_if_ne (z := 67) (z2 := 54) dL_types_51 rfl (by decide) (fun _ => c67) (fun _ => ?_)
      refine go_aload_n (z := 55) dL_types_54 rfl rfl ?_
      refine go_bipush (z := 57) (v := 40) dL_types_55 rfl (by decide) ?_
      refine go_callV (z := 60) (t := 5) [.int 40] dL_types_57 rfl mlX5_type vL_10 ⟨by decide, rfl⟩ okC rfl rfl (by decide) (cat_i cat_nil) (by simp) (by decide) (by first | decide | omega) (by first | decide | omega) (c_td h1 (by omega) rs_open (pk_charN (q := 40) (by omega)).1) ?_
      rintro v3 n3 i3 r3 ⟨⟨a, p1⟩, p2, h3'⟩
      rw [p1, p2]
      refine go_pop (z := 61) dL_types_60 rfl rfl ?_
      refine go_iinc (z := 64) dL_types_61 rfl rfl (nI_1 d) (by decide) ?_
      refine go_goto (z := 121) dL_types_64 (by decide) ?_
      exact go_lo rfl (c121 (d + 1) (c + 1) i3 r3 (by omega) (by omega) h3')
  refine go_aload_n (z := 1) dL_types_0 rfl rfl ?_
  refine go_callV (z := 4) (t := 5) [] dL_types_1 rfl mlX5_clearText vL_16 ⟨by decide, rfl⟩ okC rfl rfl (by decide) cat_nil (by simp) (by decide) (by first | decide | omega) (by first | decide | omega) (c_ceClear h.1 h.2.1) ?_
  rintro v1 n1 i1 r1 ⟨p1, p2, p3, p4⟩
  rw [p1, p2]
  refine go_pop (z := 5) dL_types_4 rfl rfl ?_
  refine go_iconst (z := 6) (v := 1) dL_types_5 rfl (by decide) ?_
  refine go_iload_n (z := 7) dL_types_6 rfl rfl ?_
  refine go_iconst (z := 8) (v := 5) dL_types_7 rfl (by decide) ?_
  refine go_callS (z := 11) [.int v, .int (nI 5)] dL_types_8 rfl mlL_low sL_20 rfl rfl (by decide) (cat_i (cat_i cat_nil)) (by simp) (by decide) (by first | decide | omega) (by first | decide | omega) (c_low (by omega) (by omega)) ?_
  refine ret_elim ?_
  refine go_iadd (z := 12) dL_types_11 rfl ?_
  rw [show (1 : Int32) + nI (lowN v 5) = nI N by rw [hN]; exact nI_add 1 _]
  refine go_istore_n (z := 13) dL_types_12 rfl (by decide) ?_
  refine go_iconst (z := 14) (v := 0) dL_types_13 rfl (by decide) ?_
  refine go_istore (z := 16) dL_types_14 rfl (by decide) ?_
  refine go_iconst (z := 17) (v := 0) dL_types_16 rfl (by decide) ?_
  refine go_istore (z := 19) dL_types_17 rfl (by decide) ?_
  refine go_lo rfl (loop N 0 0 [] 0 0 i1 r1 none (by omega) rfl (by omega) (by omega) (fun _ => ⟨rfl, rfl⟩) (fun q => absurd q (by omega)) ⟨p4, (aClear A).2, ⟨rfl, rfl, rfl, rfl, rfl, rfl⟩, h.next p3 p4 (h.2.2.2.2.1.clear) h.2.2.2.2.2.1⟩)
end PTYPES2
