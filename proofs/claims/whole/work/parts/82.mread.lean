/-! the reference reads -/
def OutX (M : Nat) (i i' : IP) : Prop := (∀ a, a ≠ M → a ≠ M + 6 → i' a = i a) ∧ ∀ k, k ≠ 9 → k ≠ 10 → k ≠ 11 → i' M k = i M k
theorem OutX.rf {M : Nat} {i : IP} : OutX M i i := ⟨fun _ _ _ => rfl, fun _ _ _ _ => rfl⟩
theorem OutX.tr {M : Nat} {i i1 i2 : IP} (h1 : OutX M i i1) (h2 : OutX M i1 i2) : OutX M i i2 := ⟨fun a b c => (h2.1 a b c).trans (h1.1 a b c), fun k b c d => (h2.2 k b c d).trans (h1.2 k b c d)⟩
theorem OutX.pf {M : Nat} {i : IP} {k : Nat} {x : Int32} (hk : k = 9 ∨ k = 10 ∨ k = 11) : OutX M i (ups i M k x) := ⟨fun a b _ => ups_row b, fun q b c d => ups_k (by omega)⟩
theorem OutX.p6 {M : Nat} {i : IP} {k : Nat} {x : Int32} : OutX M i (ups i (M + 6) k x) := ⟨fun a _ c => ups_row c, fun q _ _ _ => ups_a (by omega)⟩
/-- what does not change while a text is read -/
def RdC (M len : Nat) (tx : Nat → Int32) (i : IP) : Prop := i M 7 = nI len ∧ len ≤ 60 ∧ ∀ k, k < 60 → i (M + 5) k = tx k
theorem RdC.out {M len : Nat} {tx : Nat → Int32} {i i' : IP} (h : RdC M len tx i) (ho : OutX M i i') : RdC M len tx i' := ⟨(ho.2 7 (by decide) (by decide) (by decide)).trans h.1, h.2.1, fun k hk => by rw [ho.1 (M + 5) (by omega) (by omega)]; exact h.2.2 k hk⟩
/-- what has been read -/
def RdS (M p d : Nat) (L : List RN) (i : IP) : Prop := i M 10 = nI p ∧ i M 9 = nI L.length ∧ i M 11 = nI d ∧ ∀ k y, L[k]? = some y → i (M + 6) (3 * k) = nI y.1 ∧ i (M + 6) (3 * k + 1) = nI y.2.1 ∧ i (M + 6) (3 * k + 2) = nI y.2.2
def isN (tx : Nat → Int32) (len p : Nat) (a b : Int32) : Bool := decide (p < len ∧ a ≤ tx p ∧ tx p ≤ b)
theorem rgo_s {tx : Nat → Int32} {s s' : RS} {p len : Nat} (hp : p < len) (hs : rstep s (tx p) = some s') : rgo tx s p (len - p) = rgo tx s' (p + 1) (len - (p + 1)) := by
  rw [show len - p = len - (p + 1) + 1 by omega]
  show (match rstep s (tx p) with | none => Sum.inl p | some s1 => rgo tx s1 (p + 1) (len - (p + 1))) = _
  rw [hs]
theorem rgo_n {tx : Nat → Int32} {s : RS} {p len : Nat} (hp : p < len) (hs : rstep s (tx p) = none) : rgo tx s p (len - p) = .inl p := by
  rw [show len - p = len - (p + 1) + 1 by omega]
  show (match rstep s (tx p) with | none => Sum.inl p | some s1 => rgo tx s1 (p + 1) (len - (p + 1))) = _
  rw [hs]
theorem rgo_e {tx : Nat → Int32} {s : RS} {len : Nat} : rgo tx s len (len - len) = .inr s := by
  rw [Nat.sub_self]
  rfl
/-- a place that is at fault -/
theorem err_at {tx : Nat → Int32} {s : RS} {p len : Nat} {R : Sum Nat RS} (hp : p ≤ len) (hG : R = rgo tx s p (len - p)) (hs : p < len → rstep s (tx p) = none) (hd : rdOk s = false) : errOf len R = some p := by
  by_cases c : p < len
  · rw [hG, rgo_n c (hs c)]
    rfl
  · have e : p = len := by omega
    subst e
    rw [hG, rgo_e]
    show (if rdOk s = true then none else some p) = some p
    rw [hd, if_neg (by decide)]
section MREAD
variable {l : Launch} {G : GG} {n : Nat} {i : IP} {r : RP} {M : Nat} {tx : Nat → Int32} {len p d : Nat} {L : List RN} {R : Sum Nat RS}
theorem c_mIsNext {a b : Int32} (hY : MoY G n M r) (hC : RdC M len tx i) (hp : i M 10 = nI p) (hpl : p ≤ len) : Go l G mX6_isNext 1 0 0 0 (lentry [.ref M, .int a, .int b] 3) [] n i r (RetI (b2i (isN tx len p a b)) n i r) := by
  obtain ⟨⟨hM, hr0, hs⟩, ⟨hr1, hr3, hr5, hr6, hr8, hr12⟩, hA2, hA3, hA4, hA5, hA6, hA7⟩ := id hY
  obtain ⟨c1, c2, c3⟩ := hC
  have no : ¬ (p < len ∧ a ≤ tx p ∧ tx p ≤ b) → Go l G mX6_isNext 1 0 0 32 (lentry [.ref M, .int a, .int b] 3) [] n i r (RetI (b2i (isN tx len p a b)) n i r) := by
    intro h
    refine go_iconst (z := 33) (v := 0) dX6_isNext_32 rfl (by decide) ?_
    refine go_zret dX6_isNext_33 rfl (congrArg Value.int (by decide)) ?_
    rw [show isN tx len p a b = false from decide_eq_false h]
    exact ret_ok
  refine go_aload_n (z := 1) dX6_isNext_0 rfl rfl ?_
  refine go_getI (z := 4) dX6_isNext_1 rfl fX6_113 (by assumption) rfl ?_
  refine go_aload_n (z := 5) dX6_isNext_4 rfl rfl ?_
  refine go_getI (z := 8) dX6_isNext_5 rfl fX6_110 (by assumption) rfl ?_
  rw [hp, c1]
  refine go_icmp_ge (z := 32) (z2 := 11) dX6_isNext_8 rfl (by decide) (fun h => no (fun q => ?_)) (fun h => ?_)
  · have := (nI_leI (by omega) (by omega)).mp h
    omega
  · have hlt : p < len := by
      rcases Nat.lt_or_ge p len with q | q
      · exact q
      · exact absurd ((nI_leI (by omega) (by omega)).mpr q) h
    refine go_aload_n (z := 12) dX6_isNext_11 rfl rfl ?_
    refine go_getR (z := 15) dX6_isNext_12 rfl fX6_22 (by assumption) rfl (by assumption) ?_
    refine go_aload_n (z := 16) dX6_isNext_15 rfl rfl ?_
    refine go_getI (z := 19) dX6_isNext_16 rfl fX6_113 (by assumption) rfl ?_
    rw [hp]
    refine go_iald (z := 20) p (by assumption) (by decide) rfl (by omega) dX6_isNext_19 rfl ?_
    rw [c3 p (by omega)]
    refine go_iload_n (z := 21) dX6_isNext_20 rfl rfl ?_
    refine go_iload_n (z := 22) dX6_isNext_21 rfl rfl ?_
    refine go_callS (z := 25) [.int (tx p), .int a, .int b] dX6_isNext_22 rfl mlX6_in sX6_31 rfl rfl (by decide) (cat_i (cat_i (cat_i cat_nil))) (by simp) (by decide) (by first | decide | omega) (by first | decide | omega) (c_mIn) ?_
    refine ret_elim ?_
    refine go_if_eq (z := 32) (z2 := 28) dX6_isNext_25 rfl (by decide) (fun h => no (fun q => b2i_no h (fun _ => decide_eq_true q.2) trivial)) (fun h => ?_)
    refine go_iconst (z := 29) (v := 1) dX6_isNext_28 rfl (by decide) ?_
    refine go_goto (z := 33) dX6_isNext_29 (by decide) ?_
    refine go_zret dX6_isNext_33 rfl (congrArg Value.int (by decide)) ?_
    rw [show isN tx len p a b = true from decide_eq_true ⟨hlt, of_decide_eq_true (b2i_ne h)⟩]
    exact ret_ok
theorem c_mTakes {a : Int32} (hY : MoY G n M r) (hC : RdC M len tx i) (hp : i M 10 = nI p) (hpl : p ≤ len) : Go l G mX6_takes 2 0 0 0 (lentry [.ref M, .int a] 3) [] n i r (Ret (some (.int (b2i (isN tx len p a a)))) n (ups i M 10 (nI (p + b2n (isN tx len p a a)))) r) := by
  obtain ⟨⟨hM, hr0, hs⟩, ⟨hr1, hr3, hr5, hr6, hr8, hr12⟩, hA2, hA3, hA4, hA5, hA6, hA7⟩ := id hY
  refine go_aload_n (z := 1) dX6_takes_0 rfl rfl ?_
  refine go_iload_n (z := 2) dX6_takes_1 rfl rfl ?_
  refine go_iload_n (z := 3) dX6_takes_2 rfl rfl ?_
  refine go_callV (z := 6) (t := 6) [.int a, .int a] dX6_takes_3 rfl mlX6_isNext vX6_116 ⟨by decide, rfl⟩ hM rfl rfl (by decide) (cat_i (cat_i cat_nil)) (by simp) (by decide) (by first | decide | omega) (by first | decide | omega) (c_mIsNext hY hC hp hpl) ?_
  refine ret_elim ?_
  refine go_istore_n (z := 7) dX6_takes_6 rfl (by decide) ?_
  refine go_aload_n (z := 8) dX6_takes_7 rfl rfl ?_
  refine go_dup (z := 9) dX6_takes_8 rfl rfl ?_
  refine go_getI (z := 12) dX6_takes_9 rfl fX6_113 (by assumption) rfl ?_
  rw [hp]
  cases hb : isN tx len p a a with
  | true =>
    refine go_iload_n (z := 13) dX6_takes_12 rfl rfl ?_
    refine go_if_eq (z := 20) (z2 := 16) dX6_takes_13 rfl (by decide) (fun h => absurd h (by decide)) (fun _ => ?_)
    refine go_iconst (z := 17) (v := 1) dX6_takes_16 rfl (by decide) ?_
    refine go_goto (z := 21) dX6_takes_17 (by decide) ?_
    refine go_iadd (z := 22) dX6_takes_21 rfl ?_
    rw [nI_1]
    refine go_putI (z := 25) dX6_takes_22 rfl fX6_113 (by assumption) rfl (Or.inl rfl) rfl ?_
    refine go_iload_n (z := 26) dX6_takes_25 rfl rfl ?_
    exact go_zret dX6_takes_26 rfl (congrArg Value.int (by decide)) ret_ok
  | false =>
    refine go_iload_n (z := 13) dX6_takes_12 rfl rfl ?_
    refine go_if_eq (z := 20) (z2 := 16) dX6_takes_13 rfl (by decide) (fun _ => ?_) (fun h => absurd rfl h)
    refine go_iconst (z := 21) (v := 0) dX6_takes_20 rfl (by decide) ?_
    refine go_iadd (z := 22) dX6_takes_21 rfl ?_
    rw [show nI p + 0 = nI (p + b2n false) from nI_add p 0]
    refine go_putI (z := 25) dX6_takes_22 rfl fX6_113 (by assumption) rfl (Or.inl rfl) rfl ?_
    refine go_iload_n (z := 26) dX6_takes_25 rfl rfl ?_
    exact go_zret dX6_takes_26 rfl (congrArg Value.int (by decide)) ret_ok
theorem RdS.place {p' : Nat} (h : RdS M p d L i) : RdS M p' d L (ups i M 10 (nI p')) := ⟨ups_s, (ups_k (by decide)).trans h.2.1, (ups_k (by decide)).trans h.2.2.1, fun k y hy => by rw [ups_row (by omega)]; exact h.2.2.2 k y hy⟩
/-- what a head's reading says -/
def HdQ (M n p d : Nat) (L : List RN) (tx : Nat → Int32) (len : Nat) (R : Sum Nat RS) (i : IP) (r : RP) : QP := fun v n' i' r' => n' = n ∧ r' = r ∧ OutX M i i' ∧ ((v = some (.int 1) ∧ ∃ p' g w, p < p' ∧ RdS M p' d (L ++ [(g, w, d)]) i' ∧ p' ≤ len ∧ R = rgo tx (L ++ [(g, w, d)], d, 3) p' (len - p') ∧ RInv (L ++ [(g, w, d)], d, 3) p' ∧ (p' < len → 48 ≤ tx p' → tx p' ≤ 57 → rstep (L ++ [(g, w, d)], d, 3) (tx p') = none)) ∨ (v = some (.int 0) ∧ ∃ p', i' M 10 = nI p' ∧ p' ≤ len ∧ errOf len R = some p'))
theorem isN_eq {a : Int32} : isN tx len p a a = true ↔ p < len ∧ tx p = a := by
  unfold isN
  rw [decide_eq_true_iff]
  constructor
  · rintro ⟨h1, h2, h3⟩
    exact ⟨h1, Int32.le_antisymm h3 h2⟩
  · rintro ⟨h1, h2⟩
    rw [h2]
    exact ⟨h1, Int32.le_refl _, Int32.le_refl _⟩
/-- the end of a head: its three numbers are put down -/
theorem c_mHeadEnd {i : IP} {o : List (Option Value)} {g w p0 : Nat} {i0 : IP} (hY : MoY G n M r) (hS : RdS M p d L i) (hL : L.length < 16) (ho : o = [some (.ref M), some (.int (nI g)), some (.int (nI w))]) (hpp : p0 < p) (hpl : p ≤ len) (hout : OutX M i0 i) (hG : R = rgo tx (L ++ [(g, w, d)], d, 3) p (len - p)) (hI : RInv (L ++ [(g, w, d)], d, 3) p) (hX : p < len → 48 ≤ tx p → tx p ≤ 57 → rstep (L ++ [(g, w, d)], d, 3) (tx p) = none) : Go l G mX6_readHead 3 0 0 146 o [] n i r (HdQ M n p0 d L tx len R i0 r) := by
  obtain ⟨⟨hM, hr0, hs⟩, ⟨hr1, hr3, hr5, hr6, hr8, hr12⟩, hA2, hA3, hA4, hA5, hA6, hA7⟩ := id hY
  subst ho
  obtain ⟨f10, f9, f11, f6⟩ := hS
  have m3 : (3 : Int32) * nI L.length = nI (3 * L.length) := pk_mul 3 L.length
  refine go_aload_n (z := 147) dX6_readHead_146 rfl rfl ?_
  refine go_getR (z := 150) dX6_readHead_147 rfl fX6_25 (by assumption) rfl (by assumption) ?_
  refine go_iconst (z := 151) (v := 3) dX6_readHead_150 rfl (by decide) ?_
  refine go_aload_n (z := 152) dX6_readHead_151 rfl rfl ?_
  refine go_getI (z := 155) dX6_readHead_152 rfl fX6_122 (by assumption) rfl ?_
  rw [f9]
  refine go_imul (z := 156) dX6_readHead_155 rfl ?_
  rw [m3]
  refine go_iload_n (z := 157) dX6_readHead_156 rfl rfl ?_
  refine go_iast (z := 158) (3 * L.length) (by assumption) (by decide) rfl (by omega) dX6_readHead_157 rfl ?_
  refine go_aload_n (z := 159) dX6_readHead_158 rfl rfl ?_
  refine go_getR (z := 162) dX6_readHead_159 rfl fX6_25 (by assumption) rfl (by assumption) ?_
  refine go_iconst (z := 163) (v := 3) dX6_readHead_162 rfl (by decide) ?_
  refine go_aload_n (z := 164) dX6_readHead_163 rfl rfl ?_
  refine go_getI (z := 167) dX6_readHead_164 rfl fX6_122 (by assumption) rfl ?_
  rw [ups_a (show M ≠ M + 6 by omega), f9]
  refine go_imul (z := 168) dX6_readHead_167 rfl ?_
  rw [m3]
  refine go_iconst (z := 169) (v := 1) dX6_readHead_168 rfl (by decide) ?_
  refine go_iadd (z := 170) dX6_readHead_169 rfl ?_
  refine go_iload_n (z := 171) dX6_readHead_170 rfl rfl ?_
  refine go_iast (z := 172) (3 * L.length + 1) (by assumption) (by decide) (nI_add (3 * L.length) 1) (by omega) dX6_readHead_171 rfl ?_
  refine go_aload_n (z := 173) dX6_readHead_172 rfl rfl ?_
  refine go_getR (z := 176) dX6_readHead_173 rfl fX6_25 (by assumption) rfl (by assumption) ?_
  refine go_iconst (z := 177) (v := 3) dX6_readHead_176 rfl (by decide) ?_
  refine go_aload_n (z := 178) dX6_readHead_177 rfl rfl ?_
  refine go_getI (z := 181) dX6_readHead_178 rfl fX6_122 (by assumption) rfl ?_
  rw [ups_a (show M ≠ M + 6 by omega), ups_a (show M ≠ M + 6 by omega), f9]
  refine go_imul (z := 182) dX6_readHead_181 rfl ?_
  rw [m3]
  refine go_iconst (z := 183) (v := 2) dX6_readHead_182 rfl (by decide) ?_
  refine go_iadd (z := 184) dX6_readHead_183 rfl ?_
  refine go_aload_n (z := 185) dX6_readHead_184 rfl rfl ?_
  refine go_getI (z := 188) dX6_readHead_185 rfl fX6_125 (by assumption) rfl ?_
  rw [ups_a (show M ≠ M + 6 by omega), ups_a (show M ≠ M + 6 by omega), f11]
  refine go_iast (z := 189) (3 * L.length + 2) (by assumption) (by decide) (nI_add (3 * L.length) 2) (by omega) dX6_readHead_188 rfl ?_
  refine go_aload_n (z := 190) dX6_readHead_189 rfl rfl ?_
  refine go_dup (z := 191) dX6_readHead_190 rfl rfl ?_
  refine go_getI (z := 194) dX6_readHead_191 rfl fX6_122 (by assumption) rfl ?_
  rw [ups_a (show M ≠ M + 6 by omega), ups_a (show M ≠ M + 6 by omega), ups_a (show M ≠ M + 6 by omega), f9]
  refine go_iconst (z := 195) (v := 1) dX6_readHead_194 rfl (by decide) ?_
  refine go_iadd (z := 196) dX6_readHead_195 rfl ?_
  rw [nI_1]
  refine go_putI (z := 199) dX6_readHead_196 rfl fX6_122 (by assumption) rfl (Or.inl rfl) rfl ?_
  refine go_iconst (z := 200) (v := 1) dX6_readHead_199 rfl (by decide) ?_
  refine go_zret dX6_readHead_200 rfl (congrArg Value.int (by decide)) ⟨rfl, rfl, hout.tr (((OutX.p6).tr ((OutX.p6).tr (OutX.p6))).tr (OutX.pf (Or.inl rfl))), Or.inl ⟨rfl, p, g, w, hpp, ⟨?_, ?_, ?_, fun k y hy => ?_⟩, hpl, hG, hI, hX⟩⟩
  · rw [ups_k (by decide), ups_a (by omega), ups_a (by omega), ups_a (by omega)]; exact f10
  · rw [ups_s, List.length_append]; rfl
  · rw [ups_k (by decide), ups_a (by omega), ups_a (by omega), ups_a (by omega)]; exact f11
  · rw [ups_row (by omega)]
    by_cases hk : k < L.length
    · rw [List.getElem?_append_left hk] at hy
      obtain ⟨y1, y2, y3⟩ := f6 k y hy
      refine ⟨?_, ?_, ?_⟩
      · rw [ups_k (by omega), ups_k (by omega), ups_k (by omega)]; exact y1
      · rw [ups_k (by omega), ups_k (by omega), ups_k (by omega)]; exact y2
      · rw [ups_k (by omega), ups_k (by omega), ups_k (by omega)]; exact y3
    · have hk2 : k = L.length := by
        have := (List.getElem?_eq_some_iff.mp hy).1
        rw [List.length_append] at this
        have : [(g, w, d)].length = 1 := rfl
        omega
      subst hk2
      rw [List.getElem?_append_right (Nat.le_refl _), Nat.sub_self] at hy
      have hy : (g, w, d) = y := Option.some.inj hy
      subst hy
      refine ⟨?_, ?_, ?_⟩
      · rw [ups_k (by omega), ups_k (by omega), ups_s]
      · rw [ups_k (by omega), ups_s]
      · rw [ups_s]
theorem hd_fail {i' : IP} {p' : Nat} (h1 : OutX M i i') (h2 : i' M 10 = nI p') (h3 : p' ≤ len) (h4 : errOf len R = some p') : HdQ M n p d L tx len R i r (some (.int 0)) n i' r := ⟨rfl, rfl, h1, Or.inr ⟨rfl, p', h2, h3, h4⟩⟩
end MREAD
