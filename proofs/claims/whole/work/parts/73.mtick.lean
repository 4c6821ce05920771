/-! a house works, a tick passes, at the reference as at the class -/
theorem RelS.mono {E : EE} {Gd : Nat → Prop} {O O' : Nat} {ml0 : RM} {m : MS} {s : Nat → Int32} (h : RelS E Gd O ml0 m s) (hO : O ≤ O') : RelS E Gd O' ml0 m s := by
  obtain ⟨β, qs, ps, nw, o, ho, hA⟩ := h
  exact ⟨β, qs, ps, nw, o, Nat.le_trans ho hO, hA⟩
theorem RelS.nil {E : EE} {Gd : Nat → Prop} {O : Nat} {ml0 : RM} {m : MS} {s : Nat → Int32} (h : RelS E Gd O ml0 m s) : RelS E Gd O [] m s := by
  obtain ⟨β, qs, ps, nw, o, ho, hA⟩ := h
  exact ⟨β, qs, ps, ml0 ++ nw, o, ho, hA⟩
theorem sH_id {m : MS} {h k : Nat} {x : Int32} (hx : m.2.2.1 h k = x) : sH m h k x = m := by
  have e1 : ups m.2.2.1 h k x = m.2.2.1 := by
    funext q j
    by_cases c : q = h ∧ j = k
    · rw [c.1, c.2, ups_s, hx]
    · unfold ups
      rw [if_neg c]
  show (m.1, m.2.1, ups m.2.2.1 h k x, m.2.2.2) = m
  rw [e1]
theorem cnt_none {p : Nat → Bool} (c : Nat) : (∀ k, k < c → ¬ p k = true) → cntF p c = 0 := by
  induction c with
  | zero => intro _; rfl
  | succ c ih =>
    intro h
    show cntF p c + (if p c = true then 1 else 0) = 0
    rw [ih (fun k hk => h k (by omega)), if_neg (h c (by omega))]
section MTICK
variable {l : Launch} {G : GG} {n : Nat} {i : IP} {r : RP} {M : Nat} {E : EE} {Gd : Nat → Prop} {O : Nat} {ml0 : RM}
def mFin (h : Nat) (m : MS) : MS := if 0 < m.2.2.1 h 2 ∨ 0 < m.2.2.1 h 3 ∨ ¬ m.2.2.1 h 4 = 0 then m else if 0 < (sH (sH m h 0 0) h 9 (m.2.2.1 h 9 + 1)).2.2.1 h 1 then sH (mPost (sH (sH m h 0 0) h 9 (m.2.2.1 h 9 + 1)) 3 h 6 ((sH (sH m h 0 0) h 9 (m.2.2.1 h 9 + 1)).2.2.1 h 1) none) h 1 0 else sH (sH m h 0 0) h 9 (m.2.2.1 h 9 + 1)
theorem mWork_fin (h : Nat) (m : MS) : mWork h m = mFin h (if 0 < m.2.2.1 h 2 then sH m h 2 (m.2.2.1 h 2 - 1) else m) := rfl
theorem c_mWorkFin {h : Nat} {m : MS} {s : Nat → Int32} {o2 : Option Value} (hX : MoX G n M r) (hh : h < 6) (hR : RelS E Gd O ml0 m s) (hP : PG m) (hcap : m.2.2.2.2.length < 144) : Go l G mX6_work 3 0 0 16 [some (.ref M), some (.int (nI h)), o2] [] n (upr i (M + 1) s) r (SQ (RelS E Gd O ml0 (mFin h m)) M n i r) := by
  obtain ⟨hM, hr0, hs⟩ := id hX
  obtain ⟨β, qs, ps, nw, o', ho, hA⟩ := id hR
  generalize hml0 : ml0 ++ nw = ml at hA
  have hlen := hA.len
  obtain ⟨p1, p2, p3⟩ := hP.1 h hh
  have g1 : hF s h 1 = m.2.2.1 h 1 := (hA.2.2.1 h hh).1 1 (by omega)
  have g2 : hF s h 2 = m.2.2.1 h 2 := (hA.2.2.1 h hh).1 2 (by omega)
  have g3 : hF s h 3 = m.2.2.1 h 4 := (hA.2.2.1 h hh).1 3 (by omega)
  have g7 : hF s h 7 = m.2.2.1 h 9 := (hA.2.2.1 h hh).1 7 (by omega)
  have hf : fstF s (nI (h + 1)) 0 80 = (qs h).head? := (hA.2.2.2.1.2.2.2.1 h hh).first
  have hQ := hA.2.2.2.2.2.1 h hh
  have stay : (0 < m.2.2.1 h 2 ∨ 0 < m.2.2.1 h 3 ∨ ¬ m.2.2.1 h 4 = 0) → ∀ o2, Go l G mX6_work 3 0 0 87 [some (.ref M), some (.int (nI h)), o2] [] n (upr i (M + 1) s) r (SQ (RelS E Gd O ml0 (mFin h m)) M n i r) := by
    intro hc o2
    refine go_vret dX6_work_87 rfl ⟨rfl, rfl, rfl, s, rfl, ?_⟩
    unfold mFin
    rw [if_pos hc]
    exact hR
  refine go_aload_n (z := 17) dX6_work_16 rfl rfl ?_
  refine go_iload_n (z := 18) dX6_work_17 rfl rfl ?_
  refine go_iconst (z := 19) (v := 2) dX6_work_18 rfl (by decide) ?_
  refine go_callV (z := 22) (t := 6) [.int (nI h), .int (nI 2)] dX6_work_19 rfl mlX6_ofHouse vX6_67 ⟨by decide, rfl⟩ hM rfl rfl (by decide) (cat_i (cat_i cat_nil)) (by simp) (by decide) (by first | decide | omega) (by first | decide | omega) (c_mOfHouse hX hh (by omega)) ?_
  refine ret_elim ?_
  rw [g2]
  refine go_if_ne (z := 87) (z2 := 25) dX6_work_22 rfl (by decide) (fun c2 => stay (Or.inl ?_) _) (fun c2 => ?_)
  · rcases Int32.lt_or_eq_of_le p2 with q | q
    · exact q
    · exact absurd q.symm c2
  · refine go_aload_n (z := 26) dX6_work_25 rfl rfl ?_
    refine go_iload_n (z := 27) dX6_work_26 rfl rfl ?_
    refine go_callV (z := 30) (t := 6) [.int (nI h)] dX6_work_27 rfl mlX6_firstWaiting vX6_63 ⟨by decide, rfl⟩ hM rfl rfl (by decide) (cat_i cat_nil) (by simp) (by decide) (by first | decide | omega) (by first | decide | omega) (c_mFirstW hX) ?_
    refine ret_elim ?_
    refine go_bipush (z := 32) (v := (-5)) dX6_work_30 rfl (by decide) ?_
    rw [hf]
    cases hqs : qs h with
    | cons e L =>
      have he80 : e < 80 := (((hA.2.2.2.1.2.2.2.1 h hh).1 e).mp (by rw [hqs]; exact List.mem_cons_self)).1
      refine go_icmp_ne (z := 87) (z2 := 35) dX6_work_32 rfl (by decide) (fun _ => stay (Or.inr (Or.inl ?_)) _) (fun c => absurd c (o2i_n (k := e) (by omega)))
      have hl : (m.2.2.2.1 h).length = L.length + 1 := by rw [← hQ, hqs, List.length_map]; rfl
      have hl2 : (qs h).length ≤ 80 := by rw [← (hA.2.2.2.1.2.2.2.1 h hh).count]; exact cnt_le _ _
      rw [hqs] at hl2
      rw [p3, hl]
      exact (nI_ltI (a := 0) (by omega) (by have : (e :: L).length = L.length + 1 := rfl; omega)).mpr (by omega)
    | nil =>
      have h30 : m.2.2.1 h 3 = 0 := by rw [p3, ← hQ, hqs]; rfl
      refine go_icmp_ne (z := 87) (z2 := 35) dX6_work_32 rfl (by decide) (fun c => absurd rfl c) (fun _ => ?_)
      refine go_aload_n (z := 36) dX6_work_35 rfl rfl ?_
      refine go_iload_n (z := 37) dX6_work_36 rfl rfl ?_
      refine go_iconst (z := 38) (v := 3) dX6_work_37 rfl (by decide) ?_
      refine go_callV (z := 41) (t := 6) [.int (nI h), .int (nI 3)] dX6_work_38 rfl mlX6_ofHouse vX6_67 ⟨by decide, rfl⟩ hM rfl rfl (by decide) (cat_i (cat_i cat_nil)) (by simp) (by decide) (by first | decide | omega) (by first | decide | omega) (c_mOfHouse hX hh (by omega)) ?_
      refine ret_elim ?_
      rw [g3]
      refine go_if_ne (z := 87) (z2 := 44) dX6_work_41 rfl (by decide) (fun c4 => stay (Or.inr (Or.inr c4)) _) (fun c4 => ?_)
      have hno : ¬ (0 < m.2.2.1 h 2 ∨ 0 < m.2.2.1 h 3 ∨ ¬ m.2.2.1 h 4 = 0) := by
        rintro (q | q | q)
        · rw [c2] at q; exact absurd q (by decide)
        · rw [h30] at q; exact absurd q (by decide)
        · exact q c4
      have hA3 := ((hA.house (h := h) (w := 0) (x := 0) hh (by omega) (fun _ => Or.inl rfl)).house (h := h) (w := 1) (x := 0) hh (by omega) (by omega)).house (h := h) (w := 7) (x := m.2.2.1 h 9 + 1) hh (by omega) (by omega)
      have h1e : (sH (sH m h 0 0) h 9 (m.2.2.1 h 9 + 1)).2.2.1 h 1 = m.2.2.1 h 1 := by
        show ups (ups m.2.2.1 h 0 0) h 9 _ h 1 = _
        rw [ups_k (by decide), ups_k (by decide)]
      have efin : mFin h m = if 0 < m.2.2.1 h 1 then sH (mPost (sH (sH m h 0 0) h 9 (m.2.2.1 h 9 + 1)) 3 h 6 (m.2.2.1 h 1) none) h 1 0 else sH (sH m h 0 0) h 9 (m.2.2.1 h 9 + 1) := by
        unfold mFin
        rw [if_neg hno, h1e]
      refine go_aload_n (z := 45) dX6_work_44 rfl rfl ?_
      refine go_iload_n (z := 46) dX6_work_45 rfl rfl ?_
      refine go_iconst (z := 47) (v := 1) dX6_work_46 rfl (by decide) ?_
      refine go_callV (z := 50) (t := 6) [.int (nI h), .int (nI 1)] dX6_work_47 rfl mlX6_ofHouse vX6_67 ⟨by decide, rfl⟩ hM rfl rfl (by decide) (cat_i (cat_i cat_nil)) (by simp) (by decide) (by first | decide | omega) (by first | decide | omega) (c_mOfHouse hX hh (by omega)) ?_
      refine ret_elim ?_
      refine go_istore_n (z := 51) dX6_work_50 rfl (by decide) ?_
      refine go_aload_n (z := 52) dX6_work_51 rfl rfl ?_
      refine go_iload_n (z := 53) dX6_work_52 rfl rfl ?_
      refine go_iconst (z := 54) (v := 0) dX6_work_53 rfl (by decide) ?_
      refine go_iconst (z := 55) (v := 0) dX6_work_54 rfl (by decide) ?_
      refine go_callV (z := 58) (t := 6) [.int (nI h), .int (nI 0), .int 0] dX6_work_55 rfl mlX6_setHouse vX6_77 ⟨by decide, rfl⟩ hM rfl rfl (by decide) (cat_i (cat_i (cat_i cat_nil))) (by simp) (by decide) (by first | decide | omega) (by first | decide | omega) (c_mSetHouse hX hh (by omega)) ?_
      refine ret_elim ?_
      refine go_aload_n (z := 59) dX6_work_58 rfl rfl ?_
      refine go_iload_n (z := 60) dX6_work_59 rfl rfl ?_
      refine go_iconst (z := 61) (v := 1) dX6_work_60 rfl (by decide) ?_
      refine go_iconst (z := 62) (v := 0) dX6_work_61 rfl (by decide) ?_
      refine go_callV (z := 65) (t := 6) [.int (nI h), .int (nI 1), .int 0] dX6_work_62 rfl mlX6_setHouse vX6_77 ⟨by decide, rfl⟩ hM rfl rfl (by decide) (cat_i (cat_i (cat_i cat_nil))) (by simp) (by decide) (by first | decide | omega) (by first | decide | omega) (c_mSetHouse hX hh (by omega)) ?_
      refine ret_elim ?_
      refine go_aload_n (z := 66) dX6_work_65 rfl rfl ?_
      refine go_iload_n (z := 67) dX6_work_66 rfl rfl ?_
      rw [g1]
      refine go_bipush (z := 69) (v := 7) dX6_work_67 rfl (by decide) ?_
      refine go_iconst (z := 70) (v := 1) dX6_work_69 rfl (by decide) ?_
      refine go_callV (z := 73) (t := 6) [.int (nI h), .int (nI 7), .int 1] dX6_work_70 rfl mlX6_addToHouse vX6_70 ⟨by decide, rfl⟩ hM rfl rfl (by decide) (cat_i (cat_i (cat_i cat_nil))) (by simp) (by decide) (by first | decide | omega) (by first | decide | omega) (c_mAddHouse hX hh (by omega)) ?_
      refine ret_elim ?_
      refine go_iload_n (z := 74) dX6_work_73 rfl rfl ?_
      rw [uH_o (by omega) (by omega) (by omega), uH_o (by omega) (by omega) (by omega), g7]
      refine go_if_le (z := 87) (z2 := 77) dX6_work_74 rfl (by decide) (fun c1 => ?_) (fun c1 => ?_)
      · refine go_vret dX6_work_87 rfl ⟨rfl, rfl, rfl, _, rfl, β, qs, ps, nw, o', ho, ?_⟩
        have h10 : m.2.2.1 h 1 = 0 := Int32.le_antisymm c1 p1
        rw [efin, if_neg (Int32.not_lt.mpr c1), hml0]
        have e2 : sH (sH m h 0 0) h 1 0 = sH m h 0 0 := sH_id (by show ups m.2.2.1 h 0 0 h 1 = 0; rw [ups_k (by decide)]; exact h10)
        have hA3 : RelG E Gd β qs ps ml (bsOf ml) 80 o' (sH (sH (sH m h 0 0) h 1 0) h 9 (m.2.2.1 h 9 + 1)) _ := hA3
        rw [e2] at hA3
        exact hA3
      · refine go_aload_n (z := 78) dX6_work_77 rfl rfl ?_
        refine go_iconst (z := 79) (v := 3) dX6_work_78 rfl (by decide) ?_
        refine go_iload_n (z := 80) dX6_work_79 rfl rfl ?_
        refine go_bipush (z := 82) (v := 6) dX6_work_80 rfl (by decide) ?_
        refine go_iload_n (z := 83) dX6_work_82 rfl rfl ?_
        refine go_iconst (z := 84) (v := 0) dX6_work_83 rfl (by decide) ?_
        refine go_callV (z := 87) (t := 6) [.int 3, .int (nI h), .int (nI 6), .int (m.2.2.1 h 1), .int 0] dX6_work_84 rfl mlX6_send vX6_73 ⟨by decide, rfl⟩ hM rfl rfl (by decide) (cat_i (cat_i (cat_i (cat_i (cat_i cat_nil))))) (by simp) (by decide) (by first | decide | omega) (by first | decide | omega) (c_mSendM (c := ml.length) hX hA3.2.2.2.2.2.2.1.1 (by omega) (by omega) (by omega) (Or.inl hh)) ?_
        refine ret_elim ?_
        refine go_vret dX6_work_87 rfl ⟨rfl, rfl, rfl, _, rfl, ?_⟩
        have e3 : sH (mPost (sH (sH m h 0 0) h 9 (m.2.2.1 h 9 + 1)) 3 h 6 (m.2.2.1 h 1) none) h 1 0 = mPost (sH (sH (sH m h 0 0) h 1 0) h 9 (m.2.2.1 h 9 + 1)) 3 h 6 (m.2.2.1 h 1) none := by
          show mPost (sH (sH (sH m h 0 0) h 9 (m.2.2.1 h 9 + 1)) h 1 0) 3 h 6 (m.2.2.1 h 1) none = _
          rw [sH_comm (show (9 : Nat) ≠ 1 by decide)]
        rw [efin, if_pos (Int32.not_le.mp c1), e3]
        exact RelS.snoc (hA3.post (by omega) (by omega) (Or.inl hh) (by omega)) hml0 ho
theorem c_mWork {h : Nat} {m : MS} {s : Nat → Int32} (hX : MoX G n M r) (hh : h < 6) (hR : RelS E Gd O ml0 m s) (hP : PG m) (hcap : m.2.2.2.2.length < 144) : Go l G mX6_work 3 0 0 0 (lentry [.ref M, .int (nI h)] 3) [] n (upr i (M + 1) s) r (SQ (RelS E Gd O ml0 (mWork h m)) M n i r) := by
  obtain ⟨hM, hr0, hs⟩ := id hX
  obtain ⟨β, qs, ps, nw, o', ho, hA⟩ := id hR
  have g2 : hF s h 2 = m.2.2.1 h 2 := (hA.2.2.1 h hh).1 2 (by omega)
  rw [mWork_fin]
  refine go_aload_n (z := 1) dX6_work_0 rfl rfl ?_
  refine go_iload_n (z := 2) dX6_work_1 rfl rfl ?_
  refine go_iconst (z := 3) (v := 2) dX6_work_2 rfl (by decide) ?_
  refine go_callV (z := 6) (t := 6) [.int (nI h), .int (nI 2)] dX6_work_3 rfl mlX6_ofHouse vX6_67 ⟨by decide, rfl⟩ hM rfl rfl (by decide) (cat_i (cat_i cat_nil)) (by simp) (by decide) (by first | decide | omega) (by first | decide | omega) (c_mOfHouse hX hh (by omega)) ?_
  refine ret_elim ?_
  rw [g2]
  refine go_if_le (z := 16) (z2 := 9) dX6_work_6 rfl (by decide) (fun c1 => ?_) (fun c1 => ?_)
  · rw [if_neg (Int32.not_lt.mpr c1)]
    exact c_mWorkFin hX hh hR hP hcap
  · have c1 : 0 < m.2.2.1 h 2 := Int32.not_le.mp c1
    rw [if_pos c1]
    refine go_aload_n (z := 10) dX6_work_9 rfl rfl ?_
    refine go_iload_n (z := 11) dX6_work_10 rfl rfl ?_
    refine go_iconst (z := 12) (v := 2) dX6_work_11 rfl (by decide) ?_
    refine go_iconst (z := 13) (v := (-1)) dX6_work_12 rfl (by decide) ?_
    refine go_callV (z := 16) (t := 6) [.int (nI h), .int (nI 2), .int (-1)] dX6_work_13 rfl mlX6_addToHouse vX6_70 ⟨by decide, rfl⟩ hM rfl rfl (by decide) (cat_i (cat_i (cat_i cat_nil))) (by simp) (by decide) (by first | decide | omega) (by first | decide | omega) (c_mAddHouse hX hh (by omega)) ?_
    refine ret_elim ?_
    rw [g2]
    have e1 : m.2.2.1 h 2 + -1 = m.2.2.1 h 2 - 1 := (Int32.sub_eq_add_neg _ _).symm
    rw [e1]
    obtain ⟨q1, q2⟩ := gN_of (hP.1 h hh).2.1
    have q3 : 0 < gN (m.2.2.1 h 2) := by
      rw [q1] at c1
      exact (nI_ltI (a := 0) (by omega) q2).mp c1
    have q4 : m.2.2.1 h 2 - 1 = nI (gN (m.2.2.1 h 2) - 1) := by
      conv => lhs; rw [q1]
      exact pk_sub (b := 1) (by omega)
    exact c_mWorkFin hX hh ⟨β, qs, ps, nw, o', ho, hA.house (w := 2) hh (by omega) (by omega)⟩ (hP.sH (by decide) (fun _ => by rw [q4]; exact nI_pos' (by omega))) hcap
end MTICK
