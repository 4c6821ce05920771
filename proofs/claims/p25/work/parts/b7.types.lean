/-! P25: the law's texts -/
theorem i2c_nI {q : Nat} (hq : q < 65536) : ((nI q).toUInt32 % 65536).toInt32 = nI q := Value.int.inj (pk_charN hq).1
theorem rgo_snoc {t : Nat → Int32} {s1 s2 : RS} (c : Nat) : ∀ (p : Nat) (s : RS), rgo t s p c = .inr s1 → rstep s1 (t (p + c)) = some s2 → rgo t s p (c + 1) = .inr s2 := by
  induction c with
  | zero =>
    intro p s h1 h2
    have h1 : s = s1 := Sum.inr.inj h1
    rw [← h1] at h2
    have e : rgo t s p 1 = (match rstep s (t p) with
      | none => .inl p
      | some s1 => rgo t s1 (p + 1) 0) := rfl
    rw [e, show t p = t (p + 0) from rfl, h2]
    rfl
  | succ c ih =>
    intro p s h1 h2
    have e : ∀ c, rgo t s p (c + 1) = (match rstep s (t p) with
      | none => .inl p
      | some s1 => rgo t s1 (p + 1) c) := fun _ => rfl
    rw [e] at h1 ⊢
    cases hs : rstep s (t p) with
    | none => rw [hs] at h1; cases h1
    | some s3 =>
      rw [hs] at h1
      exact ih (p + 1) s3 h1 (by rw [show p + 1 + c = p + (c + 1) by omega]; exact h2)
def TxS (A0 A : AP) (s : RS) (c : Nat) : Prop := A.1 = A0.1 ∧ A.2.1 = A0.2.1 ∧ A.2.2.1 = A0.2.2.1 ∧ A.2.2.2.1 = A0.2.2.2.1 ∧ A.2.2.2.2.2 = c ∧ aRead A = .inr s
theorem TxS.step {A0 A : AP} {s s' : RS} {c : Nat} {x : Int32} (h : TxS A0 A s c) (hc : c < 60) (hs : rstep s x = some s') : TxS A0 (aType A x).2 s' (c + 1) := by
  obtain ⟨h1, h2, h3, h4, h5, h6⟩ := h
  have e : aType A x = (nI (A.2.2.2.2.2 + 1), (A.1, A.2.1, A.2.2.1, A.2.2.2.1, up1 A.2.2.2.2.1 A.2.2.2.2.2 x, A.2.2.2.2.2 + 1)) := if_pos (by rw [h5]; exact hc)
  rw [e]
  refine ⟨h1, h2, h3, h4, by rw [h5], ?_⟩
  show rgo (up1 A.2.2.2.2.1 A.2.2.2.2.2 x) ([], 0, 0) 0 (A.2.2.2.2.2 + 1) = .inr s'
  refine rgo_snoc (s1 := s) A.2.2.2.2.2 0 _ ?_ ?_
  · refine (rgo_congr 0 _ (fun k _ hk => ?_)).trans h6
    exact up1_n (by omega)
  · rw [Nat.zero_add, up1_s]
    exact hs
theorem rs_house {L : List RN} {d q : Nat} (hq : q < 6) : rstep (L, d, 0) (nI (48 + q)) = some (L ++ [(q, 0, d)], d, 1) := by
  have e : nI (48 + q) - 48 = nI q := by
    have := pk_sub (a := 48 + q) (b := 48) (by omega)
    rw [Nat.add_sub_cancel_left] at this
    exact this
  unfold rstep
  rw [if_pos rfl, if_pos ⟨(nI_leI (a := 48) (by omega) (by omega)).mpr (by omega), (nI_ltI (b := 54) (by omega) (by omega)).mpr (by omega)⟩, e, nI_clamp (by omega)]
theorem rs_colon {L : List RN} {d : Nat} : rstep (L, d, 1) 58 = some (L, d, 2) := rfl
theorem rs_open {L : List RN} {d : Nat} : rstep (L, d, 3) 40 = some (L, d + 1, 0) := rfl
theorem rs_after3 {L : List RN} {d : Nat} {x : Int32} (h1 : ¬ x = 40) (h2 : ¬ (48 ≤ x ∧ x ≤ 57)) : rstep (L, d, 3) x = rAfter (L, d, 3) x := by
  unfold rstep
  rw [if_neg (show ¬ (3 : Nat) = 0 by decide), if_neg (show ¬ (3 : Nat) = 1 by decide), if_neg (show ¬ (3 : Nat) = 2 by decide), if_pos rfl, if_neg h1, if_neg h2]
theorem rs_after4 {L : List RN} {d : Nat} {x : Int32} : rstep (L, d, 4) x = rAfter (L, d, 4) x := rfl
theorem rs_close {L : List RN} {d due : Nat} (hd : due = 3 ∨ due = 4) : rstep (L, d + 1, due) 41 = some (L, d, 4) := by
  have e : ∀ u, rAfter (L, d + 1, u) 41 = some (L, d, 4) := fun u => if_pos ⟨rfl, Nat.succ_pos d⟩
  rcases hd with q | q
  · rw [q, rs_after3 (by decide) (by decide)]; exact e 3
  · rw [q, rs_after4]; exact e 4
theorem rs_sep0 {L : List RN} {due : Nat} (hd : due = 3 ∨ due = 4) : rstep (L, 0, due) 59 = some (L, 0, 0) := by
  have e : ∀ u, rAfter (L, 0, u) 59 = some (L, 0, 0) := fun u => by
    unfold rAfter
    rw [if_neg (fun q => absurd q.1 (by decide)), if_pos (Or.inl ⟨rfl, rfl⟩)]
  rcases hd with q | q
  · rw [q, rs_after3 (by decide) (by decide)]; exact e 3
  · rw [q, rs_after4]; exact e 4
theorem rs_sep1 {L : List RN} {d due : Nat} (h0 : ¬ d = 0) (hd : due = 3 ∨ due = 4) : rstep (L, d, due) 44 = some (L, d, 0) := by
  have e : ∀ u, rAfter (L, d, u) 44 = some (L, d, 0) := fun u => by
    unfold rAfter
    rw [if_neg (fun q => absurd q.1 (by decide)), if_pos (Or.inr ⟨h0, rfl⟩)]
  rcases hd with q | q
  · rw [q, rs_after3 (by decide) (by decide)]; exact e 3
  · rw [q, rs_after4]; exact e 4
theorem rs_dig {L : List RN} {d q : Nat} {s : RS} (hs : s.1 = L ∧ s.2.1 = d) (hq : q ≤ 9) (hw : lastW L * 10 + q ≤ 20) : rDigit s (nI (48 + q)) = some (setW L (lastW L * 10 + q), d, 3) := by
  have e : nI (48 + q) - 48 = nI q := by
    have := pk_sub (a := 48 + q) (b := 48) (by omega)
    rw [Nat.add_sub_cancel_left] at this
    exact this
  unfold rDigit
  rw [hs.1, hs.2, e, nI_clamp (by omega), if_pos ⟨(nI_leI (a := 48) (by omega) (by omega)).mpr (by omega), (nI_leI (b := 57) (by omega) (by omega)).mpr (by omega), hw⟩]
theorem rs_dig2 {L : List RN} {d q : Nat} (hq : q ≤ 9) (hw : lastW L * 10 + q ≤ 20) : rstep (L, d, 2) (nI (48 + q)) = some (setW L (lastW L * 10 + q), d, 3) := by
  unfold rstep
  rw [if_neg (show ¬ (2 : Nat) = 0 by decide), if_neg (show ¬ (2 : Nat) = 1 by decide), if_pos rfl]
  exact rs_dig ⟨rfl, rfl⟩ hq hw
theorem rs_dig3 {L : List RN} {d q : Nat} (hq : q ≤ 9) (h0 : ¬ lastW L = 0) (hw : lastW L * 10 + q ≤ 20) : rstep (L, d, 3) (nI (48 + q)) = some (setW L (lastW L * 10 + q), d, 3) := by
  unfold rstep
  rw [if_neg (show ¬ (3 : Nat) = 0 by decide), if_neg (show ¬ (3 : Nat) = 1 by decide), if_neg (show ¬ (3 : Nat) = 2 by decide), if_pos rfl, if_neg (fun c => by have := (nI_eq (b := 40) (by omega) (by omega)).mp c; omega), if_pos ⟨(nI_leI (a := 48) (by omega) (by omega)).mpr (by omega), (nI_leI (b := 57) (by omega) (by omega)).mpr (by omega)⟩, if_neg h0]
  exact rs_dig ⟨rfl, rfl⟩ hq hw
def TD (G : GG) (n C : Nat) (E : EE) (Gd : Nat → Prop) (K : Nat) (A0 : AP) (i0 : IP) (r0 : RP) (s : RS) (c : Nat) (i : IP) (r : RP) : Prop := OutC C i0 r0 i r ∧ ∃ A, TxS A0 A s c ∧ DS G n C E Gd K A i r
section PTYPES
variable {l : Launch} {G : GG} {n : Nat} {i i0 i1 : IP} {r r0 r1 : RP} {C K : Nat} {E : EE} {Gd : Nat → Prop} {A A0 A1 : AP}
theorem c_td {s s' : RS} {c : Nat} {x : Int32} (h : TD G n C E Gd K A0 i0 r0 s c i r) (hc : c < 60) (hs : rstep s x = some s') (hx : narrow .char (.int x) = .int x) : Go l G mX5_type 0 0 0 0 (lentry [.ref C, .int x] 2) [] n i r (fun v n' i' r' => (∃ a, v = some (.int a)) ∧ n' = n ∧ TD G n C E Gd K A0 i0 r0 s' (c + 1) i' r') := by
  obtain ⟨ho, A, hT, hD⟩ := h
  refine go_post (c_ceType hD.1 hD.2.1 hx) ?_
  rintro v n' i' r' ⟨p1, p2, p3, p4⟩
  exact ⟨⟨_, p1⟩, p2, ho.tr p4, _, hT.step hc hs, hD.next p3 p4 (hD.2.2.2.2.1.type x) (hD.2.2.2.2.2.1.type x)⟩
theorem c_typeNumber {L : List RN} {d c w : Nat} (h : TD G n C E Gd K A0 i0 r0 (L, d, 2) c i r) (hc : c + 2 ≤ 60) (hL0 : lastW L = 0) (hne : 0 < L.length) (hw : w ≤ 20) (okC : Ok G n C 5) : Go l G mL_typeNumber 1 0 0 0 (lentry [.ref C, .int (nI w)] 2) [] n i r (fun v n' i' r' => v = none ∧ n' = n ∧ ∃ L' c', L'.length = L.length ∧ c' ≤ c + 2 ∧ TD G n C E Gd K A0 i0 r0 (L', d, 3) c' i' r') := by
  have e1 : (48 : Int32) + nI w / 10 = nI (48 + w / 10) := by
    rw [show nI w / 10 = nI (w / 10) from pk_div (d := 10) (by omega) (by omega) (by omega)]
    exact nI_add 48 _
  have e2 : (48 : Int32) + nI (w % 10) = nI (48 + w % 10) := nI_add 48 _
  have hr : nI w - nI w / 10 * 10 = nI (w % 10) := pk_rem (d := 10) (by omega) (by omega) (by omega)
  refine go_iload_n (z := 1) dL_typeNumber_0 rfl rfl ?_
  refine go_bipush (z := 3) (v := 9) dL_typeNumber_1 rfl (by decide) ?_
  refine go_icmp_le (z := 19) (z2 := 6) dL_typeNumber_3 rfl (by decide) (fun q => ?_) (fun q => ?_)
  · have hw9 : w ≤ 9 := (nI_leI (b := 9) (by omega) (by omega)).mp q
    refine go_aload_n (z := 20) dL_typeNumber_19 rfl rfl ?_
    refine go_bipush (z := 22) (v := 48) dL_typeNumber_20 rfl (by decide) ?_
    refine go_iload_n (z := 23) dL_typeNumber_22 rfl rfl ?_
    refine go_bipush (z := 25) (v := 10) dL_typeNumber_23 rfl (by decide) ?_
    refine go_irem (z := 26) dL_typeNumber_25 rfl (by decide) rfl ?_
    rw [hr]
    refine go_iadd (z := 27) dL_typeNumber_26 rfl ?_
    rw [e2, show w % 10 = w by omega]
    refine go_i2c (z := 28) dL_typeNumber_27 rfl (i2c_nI (by omega)) ?_
    refine go_callV (z := 31) (t := 5) [.int (nI (48 + w))] dL_typeNumber_28 rfl mlX5_type vL_10 ⟨by decide, rfl⟩ okC rfl rfl (by decide) (cat_i cat_nil) (by simp) (by decide) (by first | decide | omega) (by first | decide | omega) (c_td h (by omega) (rs_dig2 hw9 (by rw [hL0]; omega)) (pk_charN (by omega)).1) ?_
    rintro v n1 i1 r1 ⟨⟨a, p1⟩, p2, h1⟩
    rw [p1, p2]
    refine go_pop (z := 32) dL_typeNumber_31 rfl rfl ?_
    exact go_vret dL_typeNumber_32 rfl ⟨rfl, rfl, _, _, (fbL_setW L _).2.2, by omega, h1⟩
  · have hw9 : ¬ w ≤ 9 := fun k => q ((nI_leI (b := 9) (by omega) (by omega)).mpr k)
    refine go_aload_n (z := 7) dL_typeNumber_6 rfl rfl ?_
    refine go_bipush (z := 9) (v := 48) dL_typeNumber_7 rfl (by decide) ?_
    refine go_iload_n (z := 10) dL_typeNumber_9 rfl rfl ?_
    refine go_bipush (z := 12) (v := 10) dL_typeNumber_10 rfl (by decide) ?_
    refine go_idiv (z := 13) dL_typeNumber_12 rfl (by decide) ?_
    refine go_iadd (z := 14) dL_typeNumber_13 rfl ?_
    rw [e1]
    refine go_i2c (z := 15) dL_typeNumber_14 rfl (i2c_nI (by omega)) ?_
    refine go_callV (z := 18) (t := 5) [.int (nI (48 + w / 10))] dL_typeNumber_15 rfl mlX5_type vL_10 ⟨by decide, rfl⟩ okC rfl rfl (by decide) (cat_i cat_nil) (by simp) (by decide) (by first | decide | omega) (by first | decide | omega) (c_td h (by omega) (rs_dig2 (by omega) (by rw [hL0]; omega)) (pk_charN (by omega)).1) ?_
    rintro v n1 i1 r1 ⟨⟨a, p1⟩, p2, h1⟩
    rw [p1, p2]
    have hl1 : lastW (setW L (lastW L * 10 + w / 10)) = w / 10 := by
      rcases List.eq_nil_or_concat L with k | ⟨L', y, k⟩
      · rw [k] at hne; exact absurd hne (by decide)
      · rw [List.concat_eq_append] at k
        rw [hL0, k, setW_snoc, lastW_snoc]
        show 0 * 10 + w / 10 = w / 10
        omega
    refine go_pop (z := 19) dL_typeNumber_18 rfl rfl ?_
    refine go_aload_n (z := 20) dL_typeNumber_19 rfl rfl ?_
    refine go_bipush (z := 22) (v := 48) dL_typeNumber_20 rfl (by decide) ?_
    refine go_iload_n (z := 23) dL_typeNumber_22 rfl rfl ?_
    refine go_bipush (z := 25) (v := 10) dL_typeNumber_23 rfl (by decide) ?_
    refine go_irem (z := 26) dL_typeNumber_25 rfl (by decide) rfl ?_
    rw [hr]
    refine go_iadd (z := 27) dL_typeNumber_26 rfl ?_
    rw [e2]
    refine go_i2c (z := 28) dL_typeNumber_27 rfl (i2c_nI (by omega)) ?_
    refine go_callV (z := 31) (t := 5) [.int (nI (48 + w % 10))] dL_typeNumber_28 rfl mlX5_type vL_10 ⟨by decide, rfl⟩ okC rfl rfl (by decide) (cat_i cat_nil) (by simp) (by decide) (by first | decide | omega) (by first | decide | omega) (c_td h1 (by omega) (rs_dig3 (by omega) (by rw [hl1]; omega) (by rw [hl1]; omega)) (pk_charN (by omega)).1) ?_
    rintro v n2 i2 r2 ⟨⟨a, p1⟩, p2, h2⟩
    rw [p1, p2]
    refine go_pop (z := 32) dL_typeNumber_31 rfl rfl ?_
    exact go_vret dL_typeNumber_32 rfl ⟨rfl, rfl, _, _, (fbL_setW _ _).2.2.trans (fbL_setW L _).2.2, by omega, h2⟩
end PTYPES
