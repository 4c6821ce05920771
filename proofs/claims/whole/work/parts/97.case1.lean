/-! the law's calls, one by one -/
abbrev mLw (nm : String) : AM := (⟨RL, nm, "([I)Z"⟩, cL_law, 4, some .boolean)
abbrev lwLo (G : GG) (C q : Nat) : List (Option Value) := [some (.ref G.2.2.1), some (.ref C), some (.ref (C + 1105)), some (.int (nI (4 * q)))]
abbrev lwCh (G : GG) (q : Nat) : Int32 := (G.2.2.2.2 (4 * q + 1)).toUInt32 % 65536 |>.toInt32
/-- how the law goes on behind a call -/
def LwN (l : Launch) (G : GG) (nm : String) (C K O k j q : Nat) (Q : QP) : Prop := ∀ (E : EE) (Gd : Nat → Prop) (A : AP) (n : Nat) (i : IP) (r : RP), LwS G C (K + 1969350) (O + 216000) E Gd A n i r → Go l G (mLw nm) 11 k j 644 (lwLo G C q) [] n i r Q
section LAWC
variable {l : Launch} {G : GG} {n : Nat} {i : IP} {r : RP} {C K O k j q : Nat} {E : EE} {Gd : Nat → Prop} {A : AP} {Q : QP} {nm : String}
theorem lw_c_time0 (hS : LwS G C K O E Gd A n i r) (hl : G.2.2.2.1 ≤ 2048) (hq : 4 * q + 4 ≤ G.2.2.2.1) (hK : K + 1969350 ≤ 2 ^ 30) (hO : O + 2500000 < 2 ^ 31) (hk : 60 ≤ k) (hj : 420 ≤ j) (next : LwN l G nm C K O (k - 60) (j - 420) q Q) : Go l G (mLw nm) 11 k j 136 (lwLo G C q) [] n i r Q := by
  have hL := hS.1.1
  have hC := hS.2.1.1
  have hE := hS.2.1.2.1
  obtain ⟨hgn, hgC, h60, hEk⟩ := hS.gn
  have hY := hS.2.2.1.1
  have hR := hS.2.2.1.2
  have hW := hS.2.2.2.1
  have hA := hS.2.2.2.2.1
  have hP := hS.2.2.2.2.2
  have hq0 := AInv.q hA.1 hE
  obtain ⟨T, hT, hI⟩ := id hA.1
  have okC := hL.1
  have okM := hY.1.1
  refine go_aload_n (z := 137) dL_law_136 rfl rfl ?_
  refine go_aload_n (z := 138) dL_law_137 rfl rfl ?_
  refine go_iload_n (z := 139) dL_law_138 rfl rfl ?_
  refine go_iconst (z := 140) (v := 1) dL_law_139 rfl (by decide) ?_
  refine go_iadd (z := 141) dL_law_140 rfl ?_
  refine go_sld (z := 142) (4 * q + 1) (by omega) (nI_add (4 * q) 1) (by omega) dL_law_141 rfl ?_
  refine go_aload_n (z := 143) dL_law_142 rfl rfl ?_
  refine go_iload_n (z := 144) dL_law_143 rfl rfl ?_
  refine go_iconst (z := 145) (v := 2) dL_law_144 rfl (by decide) ?_
  refine go_iadd (z := 146) dL_law_145 rfl ?_
  refine go_sld (z := 147) (4 * q + 2) (by omega) (nI_add (4 * q) 2) (by omega) dL_law_146 rfl ?_
  refine go_aload_n (z := 148) dL_law_147 rfl rfl ?_
  refine go_iload_n (z := 149) dL_law_148 rfl rfl ?_
  refine go_iconst (z := 150) (v := 3) dL_law_149 rfl (by decide) ?_
  refine go_iadd (z := 151) dL_law_150 rfl ?_
  refine go_sld (z := 152) (4 * q + 3) (by omega) (nI_add (4 * q) 3) (by omega) dL_law_151 rfl ?_
  refine go_callV (z := 155) (t := 5) [.int (G.2.2.2.2 (4 * q + 1)), .int (G.2.2.2.2 (4 * q + 2)), .int (G.2.2.2.2 (4 * q + 3))] dL_law_152 rfl mlX5_setTime vL_13 ⟨by decide, rfl⟩ okC rfl rfl (by decide) (cat_i (cat_i (cat_i cat_nil))) (by simp) (by decide) (by first | decide | omega) (by first | decide | omega) (c_ceTime hL hC hq0) ?_
  rintro v n1 i1 r1 ⟨p1, p2, hC1, ho1⟩
  obtain ⟨hY1, hR1⟩ := hS.mid ho1
  have okM1 := hY1.1.1
  rw [p1, p2]
  refine go_aload_n (z := 156) dL_law_155 rfl rfl ?_
  refine go_aload_n (z := 157) dL_law_156 rfl rfl ?_
  refine go_iload_n (z := 158) dL_law_157 rfl rfl ?_
  refine go_iconst (z := 159) (v := 1) dL_law_158 rfl (by decide) ?_
  refine go_iadd (z := 160) dL_law_159 rfl ?_
  refine go_sld (z := 161) (4 * q + 1) (by omega) (nI_add (4 * q) 1) (by omega) dL_law_160 rfl ?_
  refine go_aload_n (z := 162) dL_law_161 rfl rfl ?_
  refine go_iload_n (z := 163) dL_law_162 rfl rfl ?_
  refine go_iconst (z := 164) (v := 2) dL_law_163 rfl (by decide) ?_
  refine go_iadd (z := 165) dL_law_164 rfl ?_
  refine go_sld (z := 166) (4 * q + 2) (by omega) (nI_add (4 * q) 2) (by omega) dL_law_165 rfl ?_
  refine go_aload_n (z := 167) dL_law_166 rfl rfl ?_
  refine go_iload_n (z := 168) dL_law_167 rfl rfl ?_
  refine go_iconst (z := 169) (v := 3) dL_law_168 rfl (by decide) ?_
  refine go_iadd (z := 170) dL_law_169 rfl ?_
  refine go_sld (z := 171) (4 * q + 3) (by omega) (nI_add (4 * q) 3) (by omega) dL_law_170 rfl ?_
  refine go_callV (z := 174) (t := 6) [.int (G.2.2.2.2 (4 * q + 1)), .int (G.2.2.2.2 (4 * q + 2)), .int (G.2.2.2.2 (4 * q + 3))] dL_law_171 rfl mlX6_setTime vL_17 ⟨by decide, rfl⟩ okM1 rfl rfl (by decide) (cat_i (cat_i (cat_i cat_nil))) (by simp) (by decide) (by first | decide | omega) (by first | decide | omega) (c_mTime hY1 hR1) ?_
  rintro v n2 i2 r2 ⟨q1, q2, q3, ho2, hR2⟩
  rw [q1, q2, q3]
  refine go_icmp_eq (z := 644) (z2 := 177) dL_law_174 rfl (by decide) (fun _ => ?_) (fun h => absurd rfl h)
  exact go_less (next _ _ _ _ _ _ ((hS.fin hC1 ho1 ho2 hR2 (hA.time _ _ _) (hP.time (fun _ k x h => h.sW k x) _ _ _)).more (by omega) (by omega))) (Nat.le_refl _) (by omega) (by omega)
end LAWC
