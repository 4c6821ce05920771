/-! a house works, a tick passes, at the reference as at the class -/
theorem RelS.mono {E : EE} {Gd : Nat → Prop} {O O' : Nat} {ml0 : RM} {m : MS} {s : Nat → Int32} (h : RelS E Gd O ml0 m s) (hO : O ≤ O') : RelS E Gd O' ml0 m s := by
  obtain ⟨β, qs, ps, nw, o, ho, hA⟩ := h
  exact ⟨β, qs, ps, nw, o, Nat.le_trans ho hO, hA⟩
theorem RelS.nil {E : EE} {Gd : Nat → Prop} {O : Nat} {ml0 : RM} {m : MS} {s : Nat → Int32} (h : RelS E Gd O ml0 m s) : RelS E Gd O [] m s := by
  obtain ⟨β, qs, ps, nw, o, ho, hA⟩ := h
  exact ⟨β, qs, ps, ml0 ++ nw, o, ho, hA⟩
theorem sH_id {m : MS} {h k : Nat} {x : Int32} (hx : m.2.2.1 h k = x) : sH m h k x = m := by
  have e1 : ups m.2.2.1 h k x = m.2.2.1 := by
    funext q j
    by_cases c : q = h ∧ j = k
    · rw [c.1, c.2, ups_s, hx]
    · unfold ups
      rw [if_neg c]
  show (m.1, m.2.1, ups m.2.2.1 h k x, m.2.2.2) = m
  rw [e1]
theorem cnt_none {p : Nat → Bool} (c : Nat) : (∀ k, k < c → ¬ p k = true) → cntF p c = 0 := by
  induction c with
  | zero => intro _; rfl
  | succ c ih =>
    intro h
    show cntF p c + (if p c = true then 1 else 0) = 0
    rw [ih (fun k hk => h k (by omega)), if_neg (h c (by omega))]
theorem erase_map {α γ : Type} (f : α → γ) (l : List α) : ∀ j, (l.eraseIdx j).map f = (l.map f).eraseIdx j := by
  induction l with
  | nil => intro j; rfl
  | cons a t ih =>
    intro j
    cases j with
    | zero => rfl
    | succ j =>
      show f a :: (t.eraseIdx j).map f = f a :: (t.map f).eraseIdx j
      rw [ih]
section MTICK
variable {l : Launch} {G : GG} {n : Nat} {i : IP} {r : RP} {M : Nat} {E : EE} {Gd : Nat → Prop} {O : Nat} {ml0 : RM}
def mFin (h : Nat) (m : MS) : MS := if 0 < m.2.2.1 h 2 ∨ 0 < m.2.2.1 h 3 ∨ ¬ m.2.2.1 h 4 = 0 then m else if 0 < (sH (sH m h 0 0) h 9 (m.2.2.1 h 9 + 1)).2.2.1 h 1 then sH (mPost (sH (sH m h 0 0) h 9 (m.2.2.1 h 9 + 1)) 3 h 6 ((sH (sH m h 0 0) h 9 (m.2.2.1 h 9 + 1)).2.2.1 h 1) none) h 1 0 else sH (sH m h 0 0) h 9 (m.2.2.1 h 9 + 1)
theorem mWork_fin (h : Nat) (m : MS) : mWork h m = mFin h (if 0 < m.2.2.1 h 2 then sH m h 2 (m.2.2.1 h 2 - 1) else m) := rfl
theorem c_mWorkFin {h : Nat} {m : MS} {s : Nat → Int32} {o2 : Option Value} (hX : MoX G n M r) (hh : h < 6) (hR : RelS E Gd O ml0 m s) (hP : PG m) (hcap : m.2.2.2.2.length < 144) : Go l G mX6_work 3 0 0 16 [some (.ref M), some (.int (nI h)), o2] [] n (upr i (M + 1) s) r (SQ (RelS E Gd O ml0 (mFin h m)) M n i r) := by
  obtain ⟨hM, hr0, hs⟩ := id hX
  obtain ⟨β, qs, ps, nw, o', ho, hA⟩ := id hR
  generalize hml0 : ml0 ++ nw = ml at hA
  have hlen := hA.len
  obtain ⟨p1, p2, p3⟩ := hP.1 h hh
  have g1 : hF s h 1 = m.2.2.1 h 1 := (hA.2.2.1 h hh).1 1 (by omega)
  have g2 : hF s h 2 = m.2.2.1 h 2 := (hA.2.2.1 h hh).1 2 (by omega)
  have g3 : hF s h 3 = m.2.2.1 h 4 := (hA.2.2.1 h hh).1 3 (by omega)
  have g7 : hF s h 7 = m.2.2.1 h 9 := (hA.2.2.1 h hh).1 7 (by omega)
  have hf : fstF s (nI (h + 1)) 0 80 = (qs h).head? := (hA.2.2.2.1.2.2.2.1 h hh).first
  have hQ := hA.2.2.2.2.2.1 h hh
  have stay : (0 < m.2.2.1 h 2 ∨ 0 < m.2.2.1 h 3 ∨ ¬ m.2.2.1 h 4 = 0) → ∀ o2, Go l G mX6_work 3 0 0 87 [some (.ref M), some (.int (nI h)), o2] [] n (upr i (M + 1) s) r (SQ (RelS E Gd O ml0 (mFin h m)) M n i r) := by
    intro hc o2
    refine go_vret dX6_work_87 rfl ⟨rfl, rfl, rfl, s, rfl, ?_⟩
    unfold mFin
    rw [if_pos hc]
    exact hR
  refine go_aload_n (z := 17) dX6_work_16 rfl rfl ?_
  refine go_iload_n (z := 18) dX6_work_17 rfl rfl ?_
  refine go_iconst (z := 19) (v := 2) dX6_work_18 rfl (by decide) ?_
  refine go_callV (z := 22) (t := 6) [.int (nI h), .int (nI 2)] dX6_work_19 rfl mlX6_ofHouse vX6_67 ⟨by decide, rfl⟩ hM rfl rfl (by decide) (cat_i (cat_i cat_nil)) (by simp) (by decide) (by first | decide | omega) (by first | decide | omega) (c_mOfHouse hX hh (by omega)) ?_
  refine ret_elim ?_
  rw [g2]
  refine go_if_ne (z := 87) (z2 := 25) dX6_work_22 rfl (by decide) (fun c2 => stay (Or.inl ?_) _) (fun c2 => ?_)
  · rcases Int32.lt_or_eq_of_le p2 with q | q
    · exact q
    · exact absurd q.symm c2
  · refine go_aload_n (z := 26) dX6_work_25 rfl rfl ?_
    refine go_iload_n (z := 27) dX6_work_26 rfl rfl ?_
    refine go_callV (z := 30) (t := 6) [.int (nI h)] dX6_work_27 rfl mlX6_firstWaiting vX6_63 ⟨by decide, rfl⟩ hM rfl rfl (by decide) (cat_i cat_nil) (by simp) (by decide) (by first | decide | omega) (by first | decide | omega) (c_mFirstW hX) ?_
    refine ret_elim ?_
    refine go_bipush (z := 32) (v := (-5)) dX6_work_30 rfl (by decide) ?_
    rw [hf]
    cases hqs : qs h with
    | cons e L =>
      have he80 : e < 80 := (((hA.2.2.2.1.2.2.2.1 h hh).1 e).mp (by rw [hqs]; exact List.mem_cons_self)).1
      refine go_icmp_ne (z := 87) (z2 := 35) dX6_work_32 rfl (by decide) (fun _ => stay (Or.inr (Or.inl ?_)) _) (fun c => absurd c (o2i_n (k := e) (by omega)))
      have hl : (m.2.2.2.1 h).length = L.length + 1 := by rw [← hQ, hqs, List.length_map]; rfl
      have hl2 : (qs h).length ≤ 80 := by rw [← (hA.2.2.2.1.2.2.2.1 h hh).count]; exact cnt_le _ _
      rw [hqs] at hl2
      rw [p3, hl]
      exact (nI_ltI (a := 0) (by omega) (by have : (e :: L).length = L.length + 1 := rfl; omega)).mpr (by omega)
    | nil =>
      have h30 : m.2.2.1 h 3 = 0 := by rw [p3, ← hQ, hqs]; rfl
      refine go_icmp_ne (z := 87) (z2 := 35) dX6_work_32 rfl (by decide) (fun c => absurd rfl c) (fun _ => ?_)
      refine go_aload_n (z := 36) dX6_work_35 rfl rfl ?_
      refine go_iload_n (z := 37) dX6_work_36 rfl rfl ?_
      refine go_iconst (z := 38) (v := 3) dX6_work_37 rfl (by decide) ?_
      refine go_callV (z := 41) (t := 6) [.int (nI h), .int (nI 3)] dX6_work_38 rfl mlX6_ofHouse vX6_67 ⟨by decide, rfl⟩ hM rfl rfl (by decide) (cat_i (cat_i cat_nil)) (by simp) (by decide) (by first | decide | omega) (by first | decide | omega) (c_mOfHouse hX hh (by omega)) ?_
      refine ret_elim ?_
      rw [g3]
      refine go_if_ne (z := 87) (z2 := 44) dX6_work_41 rfl (by decide) (fun c4 => stay (Or.inr (Or.inr c4)) _) (fun c4 => ?_)
      have hno : ¬ (0 < m.2.2.1 h 2 ∨ 0 < m.2.2.1 h 3 ∨ ¬ m.2.2.1 h 4 = 0) := by
        rintro (q | q | q)
        · rw [c2] at q; exact absurd q (by decide)
        · rw [h30] at q; exact absurd q (by decide)
        · exact q c4
      have hA3 := ((hA.house (h := h) (w := 0) (x := 0) hh (by omega) (fun _ => Or.inl rfl)).house (h := h) (w := 1) (x := 0) hh (by omega) (by omega)).house (h := h) (w := 7) (x := m.2.2.1 h 9 + 1) hh (by omega) (by omega)
      have h1e : (sH (sH m h 0 0) h 9 (m.2.2.1 h 9 + 1)).2.2.1 h 1 = m.2.2.1 h 1 := by
        show ups (ups m.2.2.1 h 0 0) h 9 _ h 1 = _
        rw [ups_k (by decide), ups_k (by decide)]
      have efin : mFin h m = if 0 < m.2.2.1 h 1 then sH (mPost (sH (sH m h 0 0) h 9 (m.2.2.1 h 9 + 1)) 3 h 6 (m.2.2.1 h 1) none) h 1 0 else sH (sH m h 0 0) h 9 (m.2.2.1 h 9 + 1) := by
        unfold mFin
        rw [if_neg hno, h1e]
      refine go_aload_n (z := 45) dX6_work_44 rfl rfl ?_
      refine go_iload_n (z := 46) dX6_work_45 rfl rfl ?_
      refine go_iconst (z := 47) (v := 1) dX6_work_46 rfl (by decide) ?_
      refine go_callV (z := 50) (t := 6) [.int (nI h), .int (nI 1)] dX6_work_47 rfl mlX6_ofHouse vX6_67 ⟨by decide, rfl⟩ hM rfl rfl (by decide) (cat_i (cat_i cat_nil)) (by simp) (by decide) (by first | decide | omega) (by first | decide | omega) (c_mOfHouse hX hh (by omega)) ?_
      refine ret_elim ?_
      refine go_istore_n (z := 51) dX6_work_50 rfl (by decide) ?_
      refine go_aload_n (z := 52) dX6_work_51 rfl rfl ?_
      refine go_iload_n (z := 53) dX6_work_52 rfl rfl ?_
      refine go_iconst (z := 54) (v := 0) dX6_work_53 rfl (by decide) ?_
      refine go_iconst (z := 55) (v := 0) dX6_work_54 rfl (by decide) ?_
      refine go_callV (z := 58) (t := 6) [.int (nI h), .int (nI 0), .int 0] dX6_work_55 rfl mlX6_setHouse vX6_77 ⟨by decide, rfl⟩ hM rfl rfl (by decide) (cat_i (cat_i (cat_i cat_nil))) (by simp) (by decide) (by first | decide | omega) (by first | decide | omega) (c_mSetHouse hX hh (by omega)) ?_
      refine ret_elim ?_
      refine go_aload_n (z := 59) dX6_work_58 rfl rfl ?_
      refine go_iload_n (z := 60) dX6_work_59 rfl rfl ?_
      refine go_iconst (z := 61) (v := 1) dX6_work_60 rfl (by decide) ?_
      refine go_iconst (z := 62) (v := 0) dX6_work_61 rfl (by decide) ?_
      refine go_callV (z := 65) (t := 6) [.int (nI h), .int (nI 1), .int 0] dX6_work_62 rfl mlX6_setHouse vX6_77 ⟨by decide, rfl⟩ hM rfl rfl (by decide) (cat_i (cat_i (cat_i cat_nil))) (by simp) (by decide) (by first | decide | omega) (by first | decide | omega) (c_mSetHouse hX hh (by omega)) ?_
      refine ret_elim ?_
      refine go_aload_n (z := 66) dX6_work_65 rfl rfl ?_
      refine go_iload_n (z := 67) dX6_work_66 rfl rfl ?_
      rw [g1]
      refine go_bipush (z := 69) (v := 7) dX6_work_67 rfl (by decide) ?_
      refine go_iconst (z := 70) (v := 1) dX6_work_69 rfl (by decide) ?_
      refine go_callV (z := 73) (t := 6) [.int (nI h), .int (nI 7), .int 1] dX6_work_70 rfl mlX6_addToHouse vX6_70 ⟨by decide, rfl⟩ hM rfl rfl (by decide) (cat_i (cat_i (cat_i cat_nil))) (by simp) (by decide) (by first | decide | omega) (by first | decide | omega) (c_mAddHouse hX hh (by omega)) ?_
      refine ret_elim ?_
      refine go_iload_n (z := 74) dX6_work_73 rfl rfl ?_
      rw [uH_o (by omega) (by omega) (by omega), uH_o (by omega) (by omega) (by omega), g7]
      refine go_if_le (z := 87) (z2 := 77) dX6_work_74 rfl (by decide) (fun c1 => ?_) (fun c1 => ?_)
      · refine go_vret dX6_work_87 rfl ⟨rfl, rfl, rfl, _, rfl, β, qs, ps, nw, o', ho, ?_⟩
        have h10 : m.2.2.1 h 1 = 0 := Int32.le_antisymm c1 p1
        rw [efin, if_neg (Int32.not_lt.mpr c1), hml0]
        have e2 : sH (sH m h 0 0) h 1 0 = sH m h 0 0 := sH_id (by show ups m.2.2.1 h 0 0 h 1 = 0; rw [ups_k (by decide)]; exact h10)
        have hA3 : RelG E Gd β qs ps ml (bsOf ml) 80 o' (sH (sH (sH m h 0 0) h 1 0) h 9 (m.2.2.1 h 9 + 1)) _ := hA3
        rw [e2] at hA3
        exact hA3
      · refine go_aload_n (z := 78) dX6_work_77 rfl rfl ?_
        refine go_iconst (z := 79) (v := 3) dX6_work_78 rfl (by decide) ?_
        refine go_iload_n (z := 80) dX6_work_79 rfl rfl ?_
        refine go_bipush (z := 82) (v := 6) dX6_work_80 rfl (by decide) ?_
        refine go_iload_n (z := 83) dX6_work_82 rfl rfl ?_
        refine go_iconst (z := 84) (v := 0) dX6_work_83 rfl (by decide) ?_
        refine go_callV (z := 87) (t := 6) [.int 3, .int (nI h), .int (nI 6), .int (m.2.2.1 h 1), .int 0] dX6_work_84 rfl mlX6_send vX6_73 ⟨by decide, rfl⟩ hM rfl rfl (by decide) (cat_i (cat_i (cat_i (cat_i (cat_i cat_nil))))) (by simp) (by decide) (by first | decide | omega) (by first | decide | omega) (c_mSendM (c := ml.length) hX hA3.2.2.2.2.2.2.1.1 (by omega) (by omega) (by omega) (Or.inl hh)) ?_
        refine ret_elim ?_
        refine go_vret dX6_work_87 rfl ⟨rfl, rfl, rfl, _, rfl, ?_⟩
        have e3 : sH (mPost (sH (sH m h 0 0) h 9 (m.2.2.1 h 9 + 1)) 3 h 6 (m.2.2.1 h 1) none) h 1 0 = mPost (sH (sH (sH m h 0 0) h 1 0) h 9 (m.2.2.1 h 9 + 1)) 3 h 6 (m.2.2.1 h 1) none := by
          show mPost (sH (sH (sH m h 0 0) h 9 (m.2.2.1 h 9 + 1)) h 1 0) 3 h 6 (m.2.2.1 h 1) none = _
          rw [sH_comm (show (9 : Nat) ≠ 1 by decide)]
        rw [efin, if_pos (Int32.not_le.mp c1), e3]
        exact RelS.snoc (hA3.post (by omega) (by omega) (Or.inl hh) (by omega)) hml0 ho
theorem c_mWork {h : Nat} {m : MS} {s : Nat → Int32} (hX : MoX G n M r) (hh : h < 6) (hR : RelS E Gd O ml0 m s) (hP : PG m) (hcap : m.2.2.2.2.length < 144) : Go l G mX6_work 3 0 0 0 (lentry [.ref M, .int (nI h)] 3) [] n (upr i (M + 1) s) r (SQ (RelS E Gd O ml0 (mWork h m)) M n i r) := by
  obtain ⟨hM, hr0, hs⟩ := id hX
  obtain ⟨β, qs, ps, nw, o', ho, hA⟩ := id hR
  have g2 : hF s h 2 = m.2.2.1 h 2 := (hA.2.2.1 h hh).1 2 (by omega)
  rw [mWork_fin]
  refine go_aload_n (z := 1) dX6_work_0 rfl rfl ?_
  refine go_iload_n (z := 2) dX6_work_1 rfl rfl ?_
  refine go_iconst (z := 3) (v := 2) dX6_work_2 rfl (by decide) ?_
  refine go_callV (z := 6) (t := 6) [.int (nI h), .int (nI 2)] dX6_work_3 rfl mlX6_ofHouse vX6_67 ⟨by decide, rfl⟩ hM rfl rfl (by decide) (cat_i (cat_i cat_nil)) (by simp) (by decide) (by first | decide | omega) (by first | decide | omega) (c_mOfHouse hX hh (by omega)) ?_
  refine ret_elim ?_
  rw [g2]
  refine go_if_le (z := 16) (z2 := 9) dX6_work_6 rfl (by decide) (fun c1 => ?_) (fun c1 => ?_)
  · rw [if_neg (Int32.not_lt.mpr c1)]
    exact c_mWorkFin hX hh hR hP hcap
  · have c1 : 0 < m.2.2.1 h 2 := Int32.not_le.mp c1
    rw [if_pos c1]
    refine go_aload_n (z := 10) dX6_work_9 rfl rfl ?_
    refine go_iload_n (z := 11) dX6_work_10 rfl rfl ?_
    refine go_iconst (z := 12) (v := 2) dX6_work_11 rfl (by decide) ?_
    refine go_iconst (z := 13) (v := (-1)) dX6_work_12 rfl (by decide) ?_
    refine go_callV (z := 16) (t := 6) [.int (nI h), .int (nI 2), .int (-1)] dX6_work_13 rfl mlX6_addToHouse vX6_70 ⟨by decide, rfl⟩ hM rfl rfl (by decide) (cat_i (cat_i (cat_i cat_nil))) (by simp) (by decide) (by first | decide | omega) (by first | decide | omega) (c_mAddHouse hX hh (by omega)) ?_
    refine ret_elim ?_
    rw [g2]
    have e1 : m.2.2.1 h 2 + -1 = m.2.2.1 h 2 - 1 := (Int32.sub_eq_add_neg _ _).symm
    rw [e1]
    obtain ⟨q1, q2⟩ := gN_of (hP.1 h hh).2.1
    have q3 : 0 < gN (m.2.2.1 h 2) := by
      rw [q1] at c1
      exact (nI_ltI (a := 0) (by omega) q2).mp c1
    have q4 : m.2.2.1 h 2 - 1 = nI (gN (m.2.2.1 h 2) - 1) := by
      conv => lhs; rw [q1]
      exact pk_sub (b := 1) (by omega)
    exact c_mWorkFin hX hh ⟨β, qs, ps, nw, o', ho, hA.house (w := 2) hh (by omega) (by omega)⟩ (hP.sH (by decide) (fun _ => by rw [q4]; exact nI_pos' (by omega))) hcap
theorem c_mTickLoop {T B : Nat} {b : Nat → Nat} {Q : QP} {o2 : Option Value} (hX : MoX G n M r) (hE : EOk E Gd) (hB : B + 1 = T) (la : List Mg) : ∀ (m0 : MS) (j : Nat) (ml : RM) (β : Nat → Nat) (qs ps : Nat → List Nat) (o : Nat) (s : Nat → Int32), Inv E Gd T B b (pushL la m0) → (∀ y ∈ la, y.1 4 ≤ nI T) → Inv E Gd T T b m0 → RelA E Gd β qs ps ml o (pushL la m0) s → (∀ k y, k < j → ml[k]? = some y → nI T < y.1.1 4) → j ≤ ml.length → o + 15 * la.length < 2 ^ 31 → (∀ s' x, RelS E Gd (o + 15 * la.length) [] (mSteps E la.length (pushL la m0)) s' → Go l G mX6_tick 6 0 0 51 [some (.ref M), some (.int x), o2] [] n (upr i (M + 1) s') r Q) → Go l G mX6_tick 6 0 0 12 [some (.ref M), some (.int (nI j)), o2] [] n (upr i (M + 1) s) r Q := by
  obtain ⟨hM, hr0, hs⟩ := id hX
  have inner : ∀ (la : List Mg) (ih : ∀ la', la'.length + 1 = la.length → ∀ (m0 : MS) (j : Nat) (ml : RM) (β : Nat → Nat) (qs ps : Nat → List Nat) (o : Nat) (s : Nat → Int32), Inv E Gd T B b (pushL la' m0) → (∀ y ∈ la', y.1 4 ≤ nI T) → Inv E Gd T T b m0 → RelA E Gd β qs ps ml o (pushL la' m0) s → (∀ k y, k < j → ml[k]? = some y → nI T < y.1.1 4) → j ≤ ml.length → o + 15 * la'.length < 2 ^ 31 → (∀ s' x, RelS E Gd (o + 15 * la'.length) [] (mSteps E la'.length (pushL la' m0)) s' → Go l G mX6_tick 6 0 0 51 [some (.ref M), some (.int x), o2] [] n (upr i (M + 1) s') r Q) → Go l G mX6_tick 6 0 0 12 [some (.ref M), some (.int (nI j)), o2] [] n (upr i (M + 1) s) r Q) (m0 : MS) (ml : RM) (β : Nat → Nat) (qs ps : Nat → List Nat) (o : Nat) (s : Nat → Int32), Inv E Gd T B b (pushL la m0) → (∀ y ∈ la, y.1 4 ≤ nI T) → Inv E Gd T T b m0 → RelA E Gd β qs ps ml o (pushL la m0) s → o + 15 * la.length < 2 ^ 31 → (∀ s' x, RelS E Gd (o + 15 * la.length) [] (mSteps E la.length (pushL la m0)) s' → Go l G mX6_tick 6 0 0 51 [some (.ref M), some (.int x), o2] [] n (upr i (M + 1) s') r Q) → ∀ d j, j + d = ml.length → (∀ k y, k < j → ml[k]? = some y → nI T < y.1.1 4) → Go l G mX6_tick 6 0 0 12 [some (.ref M), some (.int (nI j)), o2] [] n (upr i (M + 1) s) r Q := by
    intro la ih m0 ml β qs ps o s hI hla h2 hR ho K d
    have hT := hI.1.2.1
    have s4 : s 4 = nI ml.length := hR.2.2.2.2.2.2.1.1
    have h144 : ml.length ≤ 144 := hR.2.2.2.2.2.2.1.2.1
    have s0 : s 0 = nI T := (hR.1 0 (by omega) (by omega) (by omega)).trans hI.1.1
    have hms : (pushL la m0).2.2.2.2 = isort (ml.map Prod.fst) := hR.2.2.2.2.2.2.2.2
    have hcls : (pushL la m0).2.2.2.2 = la ++ m0.2.2.2.2 := (push_same la m0).2.2.2.2
    have hmem : ∀ (k : Nat) (y : Mg × Nat), ml[k]? = some y → y.1 ∈ (pushL la m0).2.2.2.2 := fun k y hk => by
      rw [hms]
      exact (isort_perm _).mem_iff.mpr (List.mem_map.mpr ⟨y, List.mem_of_getElem? hk, rfl⟩)
    have harr : ∀ (k : Nat) (y : Mg × Nat), ml[k]? = some y → ∃ a, B < a ∧ a ≤ T + 9 ∧ y.1.1 4 = nI a := fun k y hk => (hI.2.2.2.1 y.1 (hmem k y hk)).2
    induction d with
    | zero =>
      intro j hj hpre
      have hj : j = ml.length := by omega
      subst hj
      have hla0 : la = [] := by
        cases hla' : la with
        | nil => rfl
        | cons x t =>
          exfalso
          have hx : x ∈ (pushL la m0).2.2.2.2 := by rw [hcls, hla']; exact List.mem_append_left _ List.mem_cons_self
          rw [hms] at hx
          obtain ⟨y, hy, hyx⟩ := List.mem_map.mp ((isort_perm _).mem_iff.mp hx)
          obtain ⟨k, hk, hky⟩ := List.mem_iff_getElem.mp hy
          have q1 := hpre k y hk (List.getElem?_eq_some_iff.mpr ⟨hk, hky⟩)
          have q2 := hla x (by rw [hla']; exact List.mem_cons_self)
          rw [hyx] at q1
          exact absurd (Int32.lt_of_lt_of_le q1 q2) Int32.lt_irrefl
      refine go_iload_n (z := 13) dX6_tick_12 rfl rfl ?_
      refine go_aload_n (z := 14) dX6_tick_13 rfl rfl ?_
      refine go_getR (z := 17) dX6_tick_14 rfl fX6_7 (by assumption) rfl (by assumption) ?_
      refine go_iconst (z := 18) (v := 4) dX6_tick_17 rfl (by decide) ?_
      refine go_ialdM (z := 19) 4 (by assumption) (by decide) rfl (by omega) dX6_tick_18 rfl ?_
      rw [s4]
      refine go_icmp_ge (z := 51) (z2 := 22) dX6_tick_19 rfl (by decide) (fun _ => ?_) (fun h => absurd (Int32.le_refl _) h)
      refine K s _ ?_
      subst hla0
      exact ⟨β, qs, ps, ml, o, by omega, hR⟩
    | succ d ihd =>
      intro j hj hpre
      have hjl : j < ml.length := by omega
      obtain ⟨y, hy⟩ : ∃ y, ml[j]? = some y := ⟨ml[j], List.getElem?_eq_getElem hjl⟩
      obtain ⟨a, a1, a2, a3⟩ := harr j y hy
      have gj : gF s j 4 = y.1.1 4 := (hR.2.2.2.2.2.2.1.2.2 j y hy).1 4 (by omega)
      refine go_iload_n (z := 13) dX6_tick_12 rfl rfl ?_
      refine go_aload_n (z := 14) dX6_tick_13 rfl rfl ?_
      refine go_getR (z := 17) dX6_tick_14 rfl fX6_7 (by assumption) rfl (by assumption) ?_
      refine go_iconst (z := 18) (v := 4) dX6_tick_17 rfl (by decide) ?_
      refine go_ialdM (z := 19) 4 (by assumption) (by decide) rfl (by omega) dX6_tick_18 rfl ?_
      rw [s4]
      refine go_icmp_ge (z := 51) (z2 := 22) dX6_tick_19 rfl (by decide) (fun h => absurd ((nI_leI (by omega) (by omega)).mp h) (by omega)) (fun _ => ?_)
      refine go_aload_n (z := 23) dX6_tick_22 rfl rfl ?_
      refine go_iload_n (z := 24) dX6_tick_23 rfl rfl ?_
      refine go_iconst (z := 25) (v := 4) dX6_tick_24 rfl (by decide) ?_
      refine go_callV (z := 28) (t := 6) [.int (nI j), .int (nI 4)] dX6_tick_25 rfl mlX6_ofMessage vX6_60 ⟨by decide, rfl⟩ hM rfl rfl (by decide) (cat_i (cat_i cat_nil)) (by simp) (by decide) (by first | decide | omega) (by first | decide | omega) (c_mOfMsg hX (by omega) (by omega)) ?_
      refine ret_elim ?_
      refine go_aload_n (z := 29) dX6_tick_28 rfl rfl ?_
      refine go_getR (z := 32) dX6_tick_29 rfl fX6_7 (by assumption) rfl (by assumption) ?_
      refine go_iconst (z := 33) (v := 0) dX6_tick_32 rfl (by decide) ?_
      refine go_ialdM (z := 34) 0 (by assumption) (by decide) rfl (by omega) dX6_tick_33 rfl ?_
      rw [gj, s0]
      refine go_icmp_ne (z := 45) (z2 := 37) dX6_tick_34 rfl (by decide) (fun hne => ?_) (fun heq => ?_)
      · refine go_iinc (z := 48) dX6_tick_45 rfl rfl (nI_1 j) (by decide) ?_
        refine go_goto (z := 12) dX6_tick_48 (by decide) ?_
        refine ihd (j + 1) (by omega) (fun k z hk hz => ?_)
        by_cases hkj : k = j
        · rw [hkj, hy] at hz
          have hz : y = z := Option.some.inj hz
          rw [← hz, a3]
          refine (nI_ltI (by omega) (by omega)).mpr ?_
          have : a ≠ T := fun q => hne (by rw [a3, q])
          omega
        · exact hpre k z (by omega) hz
      · have hyf : (ml.map Prod.fst)[j]? = some y.1 := by rw [List.getElem?_map, hy]; rfl
        obtain ⟨A, B', q1, q2, q3, q4, q5⟩ := isort_split (ml.map Prod.fst) j y.1 hyf
        have hA0 : A = [] := by
          refine List.length_eq_zero_iff.mp (q3.trans ?_)
          unfold rkL
          refine cnt_none _ (fun k hk hp => ?_)
          have hk' : k < ml.length := by rw [List.length_map] at hk; exact hk
          have hkf : (ml.map Prod.fst)[k]? = some ml[k].1 := by rw [List.getElem?_map, List.getElem?_eq_getElem hk']; rfl
          obtain ⟨c, c1, c2, c3⟩ := harr k ml[k] (List.getElem?_eq_getElem hk')
          have hp := of_decide_eq_true hp
          rw [lA_some hkf, lA_some hyf, heq, c3] at hp
          rcases hp with hp | ⟨hp, hkj⟩
          · have := (nI_ltI (by omega) (by omega)).mp hp
            omega
          · have := hpre k ml[k] hkj (List.getElem?_eq_getElem hk')
            rw [c3, hp] at this
            exact absurd this Int32.lt_irrefl
        subst hA0
        have hcons : la ++ m0.2.2.2.2 = y.1 :: B' := by rw [← hcls, hms]; exact q1
        cases hla' : la with
        | nil =>
          exfalso
          rw [hla'] at hcons
          have hcons : m0.2.2.2.2 = y.1 :: B' := hcons
          obtain ⟨c, c1, c2, c3⟩ := (h2.2.2.2.1 y.1 (by rw [hcons]; exact List.mem_cons_self)).2
          rw [heq] at c3
          have := (nI_eq (by omega) (by omega)).mp c3
          omega
        | cons x la' =>
          subst hla'
          have hx0 : x = y.1 := (List.cons.inj hcons).1
          have hB' : la' ++ m0.2.2.2.2 = B' := (List.cons.inj hcons).2
          subst hx0
          have hI' : Inv E Gd T B b (hdM y.1 (pushL la' m0)) := hI
          have hsm : sM (pushL (y.1 :: la') m0) (isort ((ml.eraseIdx j).map Prod.fst)) = pushL la' m0 := by
            rw [erase_map, q2, push_eq, push_eq]
            show sM m0 ([] ++ B') = sM m0 (la' ++ m0.2.2.2.2)
            rw [hB']
            rfl
          have hxM := (hI'.2.2.2.1 y.1 List.mem_cons_self).1
          obtain ⟨s1, s2, s3, s4', s5⟩ := push_same la' m0
          have ht := hI'.tl
          have hst : mStep E (hdM y.1 (pushL la' m0)) = pushL la' (mArr E y.1 m0) := by
            rw [hd_step hE hxM ht.2.2.1 (ht.past (hla y.1 List.mem_cons_self))]
            exact arr_push hE hxM h2.2.2.1 la' (fun y hy => h2.past (hla y (List.mem_cons_of_mem _ hy)))
          have hap : mArr E y.1 (pushL la' m0) = pushL la' (mArr E y.1 m0) := arr_push hE hxM h2.2.2.1 la' (fun y hy => h2.past (hla y (List.mem_cons_of_mem _ hy)))
          have hal : sz E y.1.2 + mAll E (pushL la' m0) ≤ 80 := by rw [← all_hd]; exact hI'.2.2.2.2.1
          have hp := push_all E la' m0
          have i1 : Inv E Gd T B b (pushL la' (mArr E y.1 m0)) := by rw [← hap]; exact hI'.arr hE (by omega)
          have i2 : Inv E Gd T T b (mArr E y.1 m0) := h2.arr2 hE (Nat.le_refl _) hxM (by omega) (fun h hh => by
            have q := hI'.hg6 h hh
            rw [s3, s5, List.countP_append] at q
            omega)
          have ho' : o + 15 * (la'.length + 1) < 2 ^ 31 := ho
          refine go_aload_n (z := 38) dX6_tick_37 rfl rfl ?_
          refine go_iload_n (z := 39) dX6_tick_38 rfl rfl ?_
          refine go_callV (z := 42) (t := 6) [.int (nI j)] dX6_tick_39 rfl mlX6_arrive vX6_94 ⟨by decide, rfl⟩ hM rfl rfl (by decide) (cat_i cat_nil) (by simp) (by decide) (by first | decide | omega) (by first | decide | omega) (c_mArrive hX hE hR hy (hI'.arrOk hE (by omega)) (by omega)) ?_
          refine sq_elim (fun s5 hs5 => ?_)
          refine go_goto (z := 12) dX6_tick_42 (by decide) ?_
          rw [hsm, hap] at hs5
          obtain ⟨β', qs', ps', nw, o', ho2, hA5⟩ := hs5
          have hel : (ml.eraseIdx j).length + 1 = ml.length := by rw [List.length_eraseIdx_of_lt hjl]; omega
          refine ih la' rfl (mArr E y.1 m0) j (ml.eraseIdx j ++ nw) β' qs' ps' o' s5 i1 (fun z hz => hla z (List.mem_cons_of_mem _ hz)) i2 hA5 (fun k z hk hz => ?_) (by rw [List.length_append]; omega) (by omega) (fun s' x hS => K s' x ?_)
          · rw [List.getElem?_append_left (by omega), List.getElem?_eraseIdx, if_pos hk] at hz
            exact hpre k z hk hz
          · have e : mSteps E (y.1 :: la').length (pushL (y.1 :: la') m0) = mSteps E la'.length (mStep E (hdM y.1 (pushL la' m0))) := rfl
            rw [e, hst]
            exact hS.mono (by show o' + 15 * la'.length ≤ o + 15 * (la'.length + 1); omega)
  have main : ∀ (N : Nat) (la : List Mg), la.length = N → ∀ (m0 : MS) (j : Nat) (ml : RM) (β : Nat → Nat) (qs ps : Nat → List Nat) (o : Nat) (s : Nat → Int32), Inv E Gd T B b (pushL la m0) → (∀ y ∈ la, y.1 4 ≤ nI T) → Inv E Gd T T b m0 → RelA E Gd β qs ps ml o (pushL la m0) s → (∀ k y, k < j → ml[k]? = some y → nI T < y.1.1 4) → j ≤ ml.length → o + 15 * la.length < 2 ^ 31 → (∀ s' x, RelS E Gd (o + 15 * la.length) [] (mSteps E la.length (pushL la m0)) s' → Go l G mX6_tick 6 0 0 51 [some (.ref M), some (.int x), o2] [] n (upr i (M + 1) s') r Q) → Go l G mX6_tick 6 0 0 12 [some (.ref M), some (.int (nI j)), o2] [] n (upr i (M + 1) s) r Q := by
    intro N
    induction N with
    | zero => exact fun la hN m0 j ml β qs ps o s h1 h2 h3 h4 h5 h6 h7 h8 => inner la (fun la' h => by omega) m0 ml β qs ps o s h1 h2 h3 h4 h7 h8 (ml.length - j) j (by omega) h5
    | succ N ih => exact fun la hN m0 j ml β qs ps o s h1 h2 h3 h4 h5 h6 h7 h8 => inner la (fun la' h => ih la' (by omega)) m0 ml β qs ps o s h1 h2 h3 h4 h7 h8 (ml.length - j) j (by omega) h5
  exact main la.length la rfl
/-- a tick -/
theorem c_mTick {T K : Nat} {m : MS} {s : Nat → Int32} (hX : MoX G n M r) (hE : EOk E Gd) (hW : EW E Gd) (hI : Inv E Gd T T (fun _ => T) m) (hT : T < 1001000) (hP : PI E K m) (hK : K ≤ 2 ^ 30) (hR : RelS E Gd O [] m s) (hO : O + 2160 < 2 ^ 31) : Go l G mX6_tick 6 0 0 0 (lentry [.ref M] 3) [] n (upr i (M + 1) s) r (SQ (RelS E Gd (O + 2160) [] (mTick E m)) M n i r) := by
  obtain ⟨hM, hr0, hs⟩ := id hX
  obtain ⟨β, qs, ps, ml, o, ho, hA⟩ := id hR
  have hA : RelA E Gd β qs ps ml o m s := hA
  have h1 := hI.next1 hT
  obtain ⟨la, m0, e1, e2, e3, e4⟩ := h1.cut (by omega)
  have hA1 : RelA E Gd β qs ps ml o (sZ m 0 (m.1 0 + 1)) (up1 s 0 (m.1 0 + 1)) := hA.z (w := 0) (by omega) (by omega) (by omega)
  have s0 : s 0 = m.1 0 := hA.1 0 (by omega) (by omega) (by omega)
  have hlen : la.length ≤ 144 := by
    have h2 := cntA_le ((sZ m 0 (m.1 0 + 1)).1 0) (sZ m 0 (m.1 0 + 1)).2.2.2.2
    have h3 := hA1.len
    have h4 := hA.2.2.2.2.2.2.1.2.1
    omega
  have ha : mArrive E (sZ m 0 (m.1 0 + 1)) = mSteps E la.length (sZ m 0 (m.1 0 + 1)) := by rw [e2]; rfl
  obtain ⟨hPG, -⟩ := hI.tickP hE hW hT hP hK
  obtain ⟨⟨-, hlt⟩, -⟩ := hI.tick hE hT
  have works : ∀ d q s' x, q + d = 6 → RelS E Gd (O + 2160) [] (mWorkN q (mArrive E (sZ m 0 (m.1 0 + 1)))) s' → Go l G mX6_tick 6 0 0 53 [some (.ref M), some (.int x), some (.int (nI q))] [] n (upr i (M + 1) s') r (SQ (RelS E Gd (O + 2160) [] (mTick E m)) M n i r) := by
    intro d
    induction d with
    | zero =>
      intro q s' x hq hS
      have hq : q = 6 := by omega
      subst hq
      refine go_iload_n (z := 54) dX6_tick_53 rfl rfl ?_
      refine go_bipush (z := 56) (v := 6) dX6_tick_54 rfl (by decide) ?_
      refine go_icmp_ge (z := 80) (z2 := 59) dX6_tick_56 rfl (by decide) (fun _ => ?_) (fun h => absurd (by decide) h)
      exact go_vret dX6_tick_80 rfl ⟨rfl, rfl, rfl, s', rfl, hS⟩
    | succ d ih =>
      intro q s' x hq hS
      have hq6 : q < 6 := by omega
      obtain ⟨β', qs', ps', ml', o', ho', hA'⟩ := id hS
      have g0 := (hA'.2.2.1 q hq6).1 0 (by omega)
      have h01 := (hA'.2.2.1 q hq6).2.2.1
      have eN : mWorkN (q + 1) (mArrive E (sZ m 0 (m.1 0 + 1))) = mWorkB q (mWorkN q (mArrive E (sZ m 0 (m.1 0 + 1)))) := rfl
      have hP2 := hPG q (by omega)
      have hl2 := hlt q hq6
      generalize mWorkN q (mArrive E (sZ m 0 (m.1 0 + 1))) = m1 at hS g0 h01 eN hP2 hl2
      have g0 : hF s' q 0 = m1.2.2.1 q 0 := g0
      have step : ∀ s'', RelS E Gd (O + 2160) [] (mWorkB q m1) s'' → Go l G mX6_tick 6 0 0 74 [some (.ref M), some (.int x), some (.int (nI q))] [] n (upr i (M + 1) s'') r (SQ (RelS E Gd (O + 2160) [] (mTick E m)) M n i r) := by
        intro s'' hS2
        refine go_iinc (z := 77) dX6_tick_74 rfl rfl (nI_1 q) (by decide) ?_
        refine go_goto (z := 53) dX6_tick_77 (by decide) ?_
        exact ih (q + 1) s'' x (by omega) (by rw [eN]; exact hS2)
      refine go_iload_n (z := 54) dX6_tick_53 rfl rfl ?_
      refine go_bipush (z := 56) (v := 6) dX6_tick_54 rfl (by decide) ?_
      refine go_icmp_ge (z := 80) (z2 := 59) dX6_tick_56 rfl (by decide) (fun h => absurd ((nI_leI (a := 6) (by omega) (by omega)).mp h) (by omega)) (fun _ => ?_)
      refine go_aload_n (z := 60) dX6_tick_59 rfl rfl ?_
      refine go_iload_n (z := 61) dX6_tick_60 rfl rfl ?_
      refine go_iconst (z := 62) (v := 0) dX6_tick_61 rfl (by decide) ?_
      refine go_callV (z := 65) (t := 6) [.int (nI q), .int (nI 0)] dX6_tick_62 rfl mlX6_ofHouse vX6_67 ⟨by decide, rfl⟩ hM rfl rfl (by decide) (cat_i (cat_i cat_nil)) (by simp) (by decide) (by first | decide | omega) (by first | decide | omega) (c_mOfHouse hX hq6 (by omega)) ?_
      refine ret_elim ?_
      refine go_iconst (z := 66) (v := 1) dX6_tick_65 rfl (by decide) ?_
      rw [g0]
      refine go_icmp_ne (z := 74) (z2 := 69) dX6_tick_66 rfl (by decide) (fun hne => ?_) (fun heq => ?_)
      · refine step s' ?_
        unfold mWorkB
        rw [if_pos (h01.resolve_right hne)]
        exact hS
      · have ew : mWorkB q m1 = mWork q m1 := by
          unfold mWorkB
          rw [if_neg (fun c => by rw [c] at heq; exact absurd heq (by decide))]
        refine go_aload_n (z := 70) dX6_tick_69 rfl rfl ?_
        refine go_iload_n (z := 71) dX6_tick_70 rfl rfl ?_
        refine go_callV (z := 74) (t := 6) [.int (nI q)] dX6_tick_71 rfl mlX6_work vX6_97 ⟨by decide, rfl⟩ hM rfl rfl (by decide) (cat_i cat_nil) (by simp) (by decide) (by first | decide | omega) (by first | decide | omega) (c_mWork hX hq6 hS hP2 (by omega)) ?_
        refine sq_elim (fun s5 hs5 => ?_)
        refine step s5 ?_
        rw [ew]
        exact hs5
  refine go_aload_n (z := 1) dX6_tick_0 rfl rfl ?_
  refine go_getR (z := 4) dX6_tick_1 rfl fX6_7 (by assumption) rfl (by assumption) ?_
  refine go_iconst (z := 5) (v := 0) dX6_tick_4 rfl (by decide) ?_
  refine go_dup2 (z := 6) dX6_tick_5 rfl rfl rfl ?_
  refine go_ialdM (z := 7) 0 (by assumption) (by decide) rfl (by omega) dX6_tick_6 rfl ?_
  refine go_iconst (z := 8) (v := 1) dX6_tick_7 rfl (by decide) ?_
  refine go_iadd (z := 9) dX6_tick_8 rfl ?_
  rw [s0]
  refine go_iastM (z := 10) 0 (by assumption) (by decide) rfl (by omega) dX6_tick_9 rfl ?_
  refine go_iconst (z := 11) (v := 0) dX6_tick_10 rfl (by decide) ?_
  refine go_istore_n (z := 12) dX6_tick_11 rfl (by decide) ?_
  rw [e1] at h1 hA1 ha
  refine c_mTickLoop (B := T) hX hE rfl la m0 0 ml β qs ps o _ h1 e3 e4 hA1 (fun k y hk => by omega) (Nat.zero_le _) (by omega) (fun s' x hS => ?_)
  rw [← ha, ← e1] at hS
  have hS2 : RelS E Gd (O + 2160) [] (mWorkN 0 (mArrive E (sZ m 0 (m.1 0 + 1)))) s' := hS.mono (by omega)
  refine go_iconst (z := 52) (v := 0) dX6_tick_51 rfl (by decide) ?_
  refine go_istore_n (z := 53) dX6_tick_52 rfl (by decide) ?_
  exact works 6 0 s' x rfl hS2
end MTICK
