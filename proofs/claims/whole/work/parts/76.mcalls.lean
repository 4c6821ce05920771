/-! set, texts, history at the reference -/
def cpyK (a b : Nat → Int32) (q : Nat) : Nat → Int32 := fun k => if k < q then a k else b k
theorem cpyK_s {a b : Nat → Int32} {q : Nat} : up1 (cpyK a b q) q (a q) = cpyK a b (q + 1) := by
  funext k
  by_cases e : k = q
  · subst e
    rw [up1_s]
    unfold cpyK
    rw [if_pos (by omega)]
  · rw [up1_n e]
    unfold cpyK
    by_cases e2 : k < q
    · rw [if_pos e2, if_pos (by omega)]
    · rw [if_neg e2, if_neg (by omega)]
theorem cpyK_0 {a b : Nat → Int32} : cpyK a b 0 = b := by
  funext k
  unfold cpyK
  rw [if_neg (by omega)]
section MCALLS
variable {l : Launch} {G : GG} {n : Nat} {i : IP} {r : RP} {M : Nat} {E : EE} {Gd : Nat → Prop} {O : Nat} {A : AP}
theorem c_mCopy {f t : Nat} (hf : OkA G n f 7 1372) (ht : OkA G n t 7 1372) (hft : f ≠ t) : Go l G mX6_copy 0 0 0 0 (lentry [.ref f, .ref t] 3) [] n i r (Ret none n (upr i t (cpyK (i f) (i t) 1372)) r) := by
  have loop : ∀ d q, q + d = 1372 → Go l G mX6_copy 0 0 0 2 [some (.ref f), some (.ref t), some (.int (nI q))] [] n (upr i t (cpyK (i f) (i t) q)) r (Ret none n (upr i t (cpyK (i f) (i t) 1372)) r) := by
    intro d
    induction d with
    | zero =>
      intro q hq
      have hq : q = 1372 := by omega
      subst hq
      refine go_iload_n (z := 3) dX6_copy_2 rfl rfl ?_
      refine go_sipush (z := 6) (v := 1372) dX6_copy_3 rfl (by decide) ?_
      refine go_icmp_ge (z := 21) (z2 := 9) dX6_copy_6 rfl (by decide) (fun _ => ?_) (fun h => absurd (by decide) h)
      exact go_vret dX6_copy_21 rfl ret_ok
    | succ d ih =>
      intro q hq
      refine go_iload_n (z := 3) dX6_copy_2 rfl rfl ?_
      refine go_sipush (z := 6) (v := 1372) dX6_copy_3 rfl (by decide) ?_
      refine go_icmp_ge (z := 21) (z2 := 9) dX6_copy_6 rfl (by decide) (fun h => absurd ((nI_leI (a := 1372) (by omega) (by omega)).mp h) (by omega)) (fun _ => ?_)
      refine go_aload_n (z := 10) dX6_copy_9 rfl rfl ?_
      refine go_iload_n (z := 11) dX6_copy_10 rfl rfl ?_
      refine go_aload_n (z := 12) dX6_copy_11 rfl rfl ?_
      refine go_iload_n (z := 13) dX6_copy_12 rfl rfl ?_
      refine go_iald (z := 14) q (by assumption) (by decide) rfl (by omega) dX6_copy_13 rfl ?_
      rw [upr_n hft]
      refine go_iastM (z := 15) q (by assumption) (by decide) rfl (by omega) dX6_copy_14 rfl ?_
      refine go_iinc (z := 18) dX6_copy_15 rfl rfl (nI_1 q) (by decide) ?_
      refine go_goto (z := 2) dX6_copy_18 (by decide) ?_
      rw [cpyK_s]
      exact ih (q + 1) (by omega)
  refine go_iconst (z := 1) (v := 0) dX6_copy_0 rfl (by decide) ?_
  refine go_istore_n (z := 2) dX6_copy_1 rfl (by decide) ?_
  have := loop 1372 0 rfl
  rw [cpyK_0, upr_id] at this
  exact this
theorem RelS.z {ml0 : RM} {m : MS} {s : Nat → Int32} {w : Nat} {x : Int32} (h : RelS E Gd O ml0 m s) (hw : w < 12) (h4 : w ≠ 4) (h10 : w ≠ 10) : RelS E Gd O ml0 (sZ m (zP w) x) (up1 s w x) := by
  obtain ⟨β, qs, ps, nw, o, ho, hA⟩ := h
  exact ⟨β, qs, ps, nw, o, ho, hA.z hw h4 h10⟩
theorem RelS.sc {ml0 : RM} {m : MS} {s : Nat → Int32} (h : RelS E Gd O ml0 m s) : ScR m s := by
  obtain ⟨β, qs, ps, nw, o, ho, hA⟩ := h
  exact hA.1
theorem c_mSet {k x : Int32} (hY : MoY G n M r) (hR : RefR E Gd O A M i) : Go l G mX6_set 2 0 0 0 (lentry [.ref M, .int k, .int x] 4) [] n i r (PQ (aSet A k x).1 (RefR E Gd O (aSet A k x).2 M) M n i r) := by
  obtain ⟨⟨hM, hr0, hs⟩, ⟨hr1, hr3, hr5, hr6, hr8, hr12⟩, hA2, hA3, hA4, hA5, hA6, hA7⟩ := id hY
  have hS := hR.1
  unfold aSet
  refine go_iload_n (z := 1) dX6_set_0 rfl rfl ?_
  refine go_iconst (z := 2) (v := 0) dX6_set_1 rfl (by decide) ?_
  refine go_iconst (z := 3) (v := 1) dX6_set_2 rfl (by decide) ?_
  refine go_callS (z := 6) [.int k, .int 0, .int 1] dX6_set_3 rfl mlX6_in sX6_31 rfl rfl (by decide) (cat_i (cat_i (cat_i cat_nil))) (by simp) (by decide) (by first | decide | omega) (by first | decide | omega) (c_mIn) ?_
  refine ret_elim ?_
  refine go_if_ne (z := 11) (z2 := 9) dX6_set_6 rfl (by decide) (fun hk => ?_) (fun h => ?_)
  · obtain ⟨k0, k1⟩ := of_decide_eq_true (b2i_ne hk)
    refine go_iload_n (z := 12) dX6_set_11 rfl rfl ?_
    refine go_if_ne (z := 28) (z2 := 15) dX6_set_12 rfl (by decide) (fun hk0 => ?_) (fun hk0 => ?_)
    · have hk1 : k = 1 := by
        obtain ⟨c, hc, e⟩ := nI_of (Int32.not_lt.mpr k0)
        subst e
        have c1 := (nI_leI (b := 1) hc (by omega)).mp k1
        have c0 : c ≠ 0 := fun q => hk0 (by rw [q]; rfl)
        have : c = 1 := by omega
        rw [this]; rfl
      rw [if_neg hk0, if_pos hk1]
      subst hk1
      unfold aLea
      have s9 : i (M + 1) 9 = A.1.1 2 := hS.sc 9 (by omega) (by omega) (by omega)
      refine go_iload_n (z := 29) dX6_set_28 rfl rfl ?_
      refine go_iconst (z := 30) (v := 1) dX6_set_29 rfl (by decide) ?_
      refine go_bipush (z := 32) (v := 99) dX6_set_30 rfl (by decide) ?_
      refine go_callS (z := 35) [.int x, .int 1, .int 99] dX6_set_32 rfl mlX6_in sX6_31 rfl rfl (by decide) (cat_i (cat_i (cat_i cat_nil))) (by simp) (by decide) (by first | decide | omega) (by first | decide | omega) (c_mIn) ?_
      refine ret_elim ?_
      refine go_if_ne (z := 41) (z2 := 38) dX6_set_35 rfl (by decide) (fun hx => ?_) (fun h => ?_)
      · rw [if_pos (of_decide_eq_true (b2i_ne hx))]
        refine go_aload_n (z := 42) dX6_set_41 rfl rfl ?_
        refine go_getR (z := 45) dX6_set_42 rfl fX6_7 (by assumption) rfl (by assumption) ?_
        refine go_bipush (z := 47) (v := 8) dX6_set_45 rfl (by decide) ?_
        refine go_iload_n (z := 48) dX6_set_47 rfl rfl ?_
        refine go_iadd (z := 49) dX6_set_48 rfl ?_
        refine go_iald (z := 50) 9 (by assumption) (by decide) rfl (by omega) dX6_set_49 rfl ?_
        rw [s9]
        refine go_istore_n (z := 51) dX6_set_50 rfl (by decide) ?_
        refine go_iload_n (z := 52) dX6_set_51 rfl rfl ?_
        refine go_iload_n (z := 53) dX6_set_52 rfl rfl ?_
        refine go_icmp_ne (z := 59) (z2 := 56) dX6_set_53 rfl (by decide) (fun hn => ?_) (fun he => ?_)
        · rw [if_neg hn]
          refine go_aload_n (z := 60) dX6_set_59 rfl rfl ?_
          refine go_callV (z := 63) (t := 6) [] dX6_set_60 rfl mlX6_record vX6_107 ⟨by decide, rfl⟩ hM rfl rfl (by decide) cat_nil (by simp) (by decide) (by first | decide | omega) (by first | decide | omega) (c_mRecord hY hR.2.1.1 hR.2.1.2.1) ?_
          refine ret_elim ?_
          refine go_aload_n (z := 64) dX6_set_63 rfl rfl ?_
          refine go_getR (z := 67) dX6_set_64 rfl fX6_7 (by assumption) rfl (by assumption) ?_
          refine go_bipush (z := 69) (v := 8) dX6_set_67 rfl (by decide) ?_
          refine go_iload_n (z := 70) dX6_set_69 rfl rfl ?_
          refine go_iadd (z := 71) dX6_set_70 rfl ?_
          refine go_iload_n (z := 72) dX6_set_71 rfl rfl ?_
          refine go_iast (z := 73) 9 (by assumption) (by decide) rfl (by omega) dX6_set_72 rfl ?_
          refine go_iload_n (z := 74) dX6_set_73 rfl rfl ?_
          refine go_iret dX6_set_74 rfl ⟨rfl, rfl, rfl, recI_out.tr (OutM.pi (a := M + 1) (by omega) (by omega)), ?_⟩
          rw [up_row, recI_1]
          exact hR.aR (hS.z (w := 9) (by omega) (by omega) (by omega))
        · rw [if_pos he]
          refine go_bipush (z := 58) (v := (-5)) dX6_set_56 rfl (by decide) ?_
          exact go_iret dX6_set_58 rfl (pq_same hR)
      · rw [if_neg (fun q => by rw [show decide ((1 : Int32) ≤ x ∧ x ≤ 99) = true from decide_eq_true q] at h; exact absurd h (by decide))]
        refine go_bipush (z := 40) (v := (-2)) dX6_set_38 rfl (by decide) ?_
        exact go_iret dX6_set_40 rfl (pq_same hR)
    · rw [if_pos hk0]
      subst hk0
      unfold aPow
      have s8 : i (M + 1) 8 = A.1.1 1 := hS.sc 8 (by omega) (by omega) (by omega)
      refine go_iload_n (z := 16) dX6_set_15 rfl rfl ?_
      refine go_iconst (z := 17) (v := 2) dX6_set_16 rfl (by decide) ?_
      refine go_bipush (z := 19) (v := 16) dX6_set_17 rfl (by decide) ?_
      refine go_callS (z := 22) [.int x, .int 2, .int 16] dX6_set_19 rfl mlX6_in sX6_31 rfl rfl (by decide) (cat_i (cat_i (cat_i cat_nil))) (by simp) (by decide) (by first | decide | omega) (by first | decide | omega) (c_mIn) ?_
      refine ret_elim ?_
      refine go_if_ne (z := 41) (z2 := 25) dX6_set_22 rfl (by decide) (fun hx => ?_) (fun h => ?_)
      · rw [if_pos (of_decide_eq_true (b2i_ne hx))]
        refine go_aload_n (z := 42) dX6_set_41 rfl rfl ?_
        refine go_getR (z := 45) dX6_set_42 rfl fX6_7 (by assumption) rfl (by assumption) ?_
        refine go_bipush (z := 47) (v := 8) dX6_set_45 rfl (by decide) ?_
        refine go_iload_n (z := 48) dX6_set_47 rfl rfl ?_
        refine go_iadd (z := 49) dX6_set_48 rfl ?_
        refine go_iald (z := 50) 8 (by assumption) (by decide) rfl (by omega) dX6_set_49 rfl ?_
        rw [s8]
        refine go_istore_n (z := 51) dX6_set_50 rfl (by decide) ?_
        refine go_iload_n (z := 52) dX6_set_51 rfl rfl ?_
        refine go_iload_n (z := 53) dX6_set_52 rfl rfl ?_
        refine go_icmp_ne (z := 59) (z2 := 56) dX6_set_53 rfl (by decide) (fun hn => ?_) (fun he => ?_)
        · rw [if_neg hn]
          refine go_aload_n (z := 60) dX6_set_59 rfl rfl ?_
          refine go_callV (z := 63) (t := 6) [] dX6_set_60 rfl mlX6_record vX6_107 ⟨by decide, rfl⟩ hM rfl rfl (by decide) cat_nil (by simp) (by decide) (by first | decide | omega) (by first | decide | omega) (c_mRecord hY hR.2.1.1 hR.2.1.2.1) ?_
          refine ret_elim ?_
          refine go_aload_n (z := 64) dX6_set_63 rfl rfl ?_
          refine go_getR (z := 67) dX6_set_64 rfl fX6_7 (by assumption) rfl (by assumption) ?_
          refine go_bipush (z := 69) (v := 8) dX6_set_67 rfl (by decide) ?_
          refine go_iload_n (z := 70) dX6_set_69 rfl rfl ?_
          refine go_iadd (z := 71) dX6_set_70 rfl ?_
          refine go_iload_n (z := 72) dX6_set_71 rfl rfl ?_
          refine go_iast (z := 73) 8 (by assumption) (by decide) rfl (by omega) dX6_set_72 rfl ?_
          refine go_iload_n (z := 74) dX6_set_73 rfl rfl ?_
          refine go_iret dX6_set_74 rfl ⟨rfl, rfl, rfl, recI_out.tr (OutM.pi (a := M + 1) (by omega) (by omega)), ?_⟩
          rw [up_row, recI_1]
          exact hR.aR (hS.z (w := 8) (by omega) (by omega) (by omega))
        · rw [if_pos he]
          refine go_bipush (z := 58) (v := (-5)) dX6_set_56 rfl (by decide) ?_
          exact go_iret dX6_set_58 rfl (pq_same hR)
      · rw [if_neg (fun q => by rw [show decide ((2 : Int32) ≤ x ∧ x ≤ 16) = true from decide_eq_true q] at h; exact absurd h (by decide))]
        refine go_goto (z := 38) dX6_set_25 (by decide) ?_
        refine go_bipush (z := 40) (v := (-2)) dX6_set_38 rfl (by decide) ?_
        exact go_iret dX6_set_40 rfl (pq_same hR)
  · have hno : ¬ ((0 : Int32) ≤ k ∧ k ≤ 1) := fun q => by rw [show decide ((0 : Int32) ≤ k ∧ k ≤ 1) = true from decide_eq_true q] at h; exact absurd h (by decide)
    rw [if_neg (fun q => hno (by rw [q]; decide)), if_neg (fun q => hno (by rw [q]; decide))]
    refine go_iconst (z := 10) (v := (-1)) dX6_set_9 rfl (by decide) ?_
    exact go_iret dX6_set_10 rfl (pq_same hR)
theorem c_mType {x : Int32} (hY : MoY G n M r) (hR : RefR E Gd O A M i) : Go l G mX6_type 0 0 0 0 (lentry [.ref M, .int x] 2) [] n i r (PQ (aType A x).1 (RefR E Gd O (aType A x).2 M) M n i r) := by
  obtain ⟨⟨hM, hr0, hs⟩, ⟨hr1, hr3, hr5, hr6, hr8, hr12⟩, hA2, hA3, hA4, hA5, hA6, hA7⟩ := id hY
  obtain ⟨h1, h2, h4, h5, h7, h8, h9⟩ := id hR
  unfold aType
  refine go_aload_n (z := 1) dX6_type_0 rfl rfl ?_
  refine go_getI (z := 4) dX6_type_1 rfl fX6_110 (by assumption) rfl ?_
  rw [h7]
  refine go_bipush (z := 6) (v := 60) dX6_type_4 rfl (by decide) ?_
  refine go_icmp_ne (z := 12) (z2 := 9) dX6_type_6 rfl (by decide) (fun h => ?_) (fun h => ?_)
  · have hlt : A.2.2.2.2.2 < 60 := by
      have : A.2.2.2.2.2 ≠ 60 := fun q => h (by rw [q]; rfl)
      omega
    rw [if_pos hlt]
    refine go_aload_n (z := 13) dX6_type_12 rfl rfl ?_
    refine go_getR (z := 16) dX6_type_13 rfl fX6_22 (by assumption) rfl (by assumption) ?_
    refine go_aload_n (z := 17) dX6_type_16 rfl rfl ?_
    refine go_getI (z := 20) dX6_type_17 rfl fX6_110 (by assumption) rfl ?_
    rw [h7]
    refine go_iload_n (z := 21) dX6_type_20 rfl rfl ?_
    refine go_iast (z := 22) A.2.2.2.2.2 (by assumption) (by decide) rfl (by omega) dX6_type_21 rfl ?_
    refine go_aload_n (z := 23) dX6_type_22 rfl rfl ?_
    refine go_dup (z := 24) dX6_type_23 rfl rfl ?_
    refine go_getI (z := 27) dX6_type_24 rfl fX6_110 (by assumption) rfl ?_
    rw [ups_a (show M ≠ M + 5 by omega), h7]
    refine go_iconst (z := 28) (v := 1) dX6_type_27 rfl (by decide) ?_
    refine go_iadd (z := 29) dX6_type_28 rfl ?_
    rw [nI_1]
    refine go_putI (z := 32) dX6_type_29 rfl fX6_110 (by assumption) rfl (Or.inl rfl) rfl ?_
    refine go_aload_n (z := 33) dX6_type_32 rfl rfl ?_
    refine go_getI (z := 36) dX6_type_33 rfl fX6_110 (by assumption) rfl ?_
    rw [ups_s]
    refine go_iret dX6_type_36 rfl ⟨rfl, rfl, rfl, (OutM.pi (a := M + 5) (by omega) (by omega)).tr (OutM.pi (a := M) (by omega) (by omega)), ?_⟩
    have row : ∀ a, a ≠ M → a ≠ M + 5 → ups (ups i (M + 5) A.2.2.2.2.2 x) M 7 (nI (A.2.2.2.2.2 + 1)) a = i a := fun a a1 a2 => by rw [ups_row a1, ups_row a2]
    have col : ∀ k, k ≠ 7 → ups (ups i (M + 5) A.2.2.2.2.2 x) M 7 (nI (A.2.2.2.2.2 + 1)) M k = i M k := fun k hk => by rw [ups_k hk, ups_a (by omega)]
    refine ⟨by rw [row _ (by omega) (by omega)]; exact h1, ⟨(col 2 (by decide)).trans h2.1, h2.2.1, fun j m hm => by rw [row _ (by omega) (by omega)]; exact h2.2.2 j m hm⟩, (col 4 (by decide)).trans h4, fun hk => by rw [row _ (by omega) (by omega)]; exact h5 hk, ups_s, hlt, fun k hk => ?_⟩
    rw [ups_a (show M + 5 ≠ M by omega)]
    show ups i (M + 5) A.2.2.2.2.2 x (M + 5) k = up1 A.2.2.2.2.1 A.2.2.2.2.2 x k
    by_cases e : k = A.2.2.2.2.2
    · rw [e, ups_s, up1_s]
    · rw [ups_k e, up1_n e]; exact h9 k hk
  · have h60 : A.2.2.2.2.2 = 60 := (nI_eq (b := 60) (by omega) (by omega)).mp h
    rw [if_neg (by omega)]
    refine go_bipush (z := 11) (v := (-3)) dX6_type_9 rfl (by decide) ?_
    exact go_iret dX6_type_11 rfl (pq_same hR)
theorem c_mClear (hY : MoY G n M r) (hR : RefR E Gd O A M i) : Go l G mX6_clearText 0 0 0 0 (lentry [.ref M] 2) [] n i r (PQ (aClear A).1 (RefR E Gd O (aClear A).2 M) M n i r) := by
  obtain ⟨⟨hM, hr0, hs⟩, ⟨hr1, hr3, hr5, hr6, hr8, hr12⟩, hA2, hA3, hA4, hA5, hA6, hA7⟩ := id hY
  obtain ⟨h1, h2, h4, h5, h7, h8, h9⟩ := id hR
  refine go_aload_n (z := 1) dX6_clearText_0 rfl rfl ?_
  refine go_getI (z := 4) dX6_clearText_1 rfl fX6_110 (by assumption) rfl ?_
  rw [h7]
  refine go_istore_n (z := 5) dX6_clearText_4 rfl (by decide) ?_
  refine go_aload_n (z := 6) dX6_clearText_5 rfl rfl ?_
  refine go_iconst (z := 7) (v := 0) dX6_clearText_6 rfl (by decide) ?_
  refine go_putI (z := 10) dX6_clearText_7 rfl fX6_110 (by assumption) rfl (Or.inl rfl) rfl ?_
  refine go_iload_n (z := 11) dX6_clearText_10 rfl rfl ?_
  refine go_iret dX6_clearText_11 rfl ⟨rfl, rfl, rfl, OutM.pi (a := M) (by omega) (by omega), ?_⟩
  exact ⟨by rw [ups_row (by omega)]; exact h1, ⟨(ups_k (by decide)).trans h2.1, h2.2.1, fun j m hm => by rw [ups_row (by omega)]; exact h2.2.2 j m hm⟩, (ups_k (by decide)).trans h4, fun hk => by rw [ups_row (by omega)]; exact h5 hk, ups_s, Nat.zero_le _, fun k hk => by rw [ups_row (by omega)]; exact h9 k hk⟩
theorem c_mKeep (hY : MoY G n M r) (hR : RefR E Gd O A M i) : Go l G mX6_keep 1 0 0 0 (lentry [.ref M] 1) [] n i r (PQ (aKeep A).1 (RefR E Gd O (aKeep A).2 M) M n i r) := by
  obtain ⟨⟨hM, hr0, hs⟩, ⟨hr1, hr3, hr5, hr6, hr8, hr12⟩, hA2, hA3, hA4, hA5, hA6, hA7⟩ := id hY
  obtain ⟨h1, h2, h4, h5, h7, h8, h9⟩ := id hR
  have row : ∀ a, a ≠ M → a ≠ M + 3 → ups (upr i (M + 3) (cpyK (i (M + 1)) (i (M + 3)) 1372)) M 4 1 a = i a := fun a a1 a2 => by rw [ups_row a1, upr_n a2]
  have col : ∀ k, k ≠ 4 → ups (upr i (M + 3) (cpyK (i (M + 1)) (i (M + 3)) 1372)) M 4 1 M k = i M k := fun k hk => by rw [ups_k hk, upr_n (by omega)]
  refine go_aload_n (z := 1) dX6_keep_0 rfl rfl ?_
  refine go_getR (z := 4) dX6_keep_1 rfl fX6_7 (by assumption) rfl (by assumption) ?_
  refine go_aload_n (z := 5) dX6_keep_4 rfl rfl ?_
  refine go_getR (z := 8) dX6_keep_5 rfl fX6_16 (by assumption) rfl (by assumption) ?_
  refine go_callS (z := 11) [.ref (M + 1), .ref (M + 3)] dX6_keep_8 rfl mlX6_copy sX6_158 rfl rfl (by decide) (cat_r (cat_r cat_nil)) (by simp) (by decide) (by first | decide | omega) (by first | decide | omega) (c_mCopy hs hA3 (by omega)) ?_
  refine ret_elim ?_
  refine go_aload_n (z := 12) dX6_keep_11 rfl rfl ?_
  refine go_iconst (z := 13) (v := 1) dX6_keep_12 rfl (by decide) ?_
  refine go_putI (z := 16) dX6_keep_13 rfl fX6_162 (by assumption) rfl (Or.inl rfl) (congrArg Value.int (by decide)) ?_
  refine go_aload_n (z := 17) dX6_keep_16 rfl rfl ?_
  refine go_getR (z := 20) dX6_keep_17 rfl fX6_7 (by assumption) rfl (by assumption) ?_
  refine go_iconst (z := 21) (v := 0) dX6_keep_20 rfl (by decide) ?_
  refine go_iald (z := 22) 0 (by assumption) (by decide) rfl (by omega) dX6_keep_21 rfl ?_
  rw [ups_a (show M + 1 ≠ M by omega), upr_n (show M + 1 ≠ M + 3 by omega)]
  rw [h1.sc 0 (by omega) (by omega) (by omega)]
  refine go_iret dX6_keep_22 rfl ⟨rfl, rfl, rfl, (OutM.pr (a := M + 3) (by omega) (by omega)).tr (OutM.pi (a := M) (by omega) (by omega)), ?_⟩
  refine ⟨by rw [row _ (by omega) (by omega)]; exact h1, ⟨(col 2 (by decide)).trans h2.1, h2.2.1, fun j m hm => by rw [row _ (by omega) (by omega)]; exact h2.2.2 j m hm⟩, ups_s, fun _ => ?_, (col 7 (by decide)).trans h7, h8, fun k hk => by rw [row _ (by omega) (by omega)]; exact h9 k hk⟩
  rw [ups_row (by omega), upr_s]
  exact h1.congr (fun k hk => if_pos hk)
theorem c_mRestore (hY : MoY G n M r) (hR : RefR E Gd O A M i) : Go l G mX6_restore 1 0 0 0 (lentry [.ref M] 1) [] n i r (PQ (aRest A).1 (RefR E Gd O (aRest A).2 M) M n i r) := by
  obtain ⟨⟨hM, hr0, hs⟩, ⟨hr1, hr3, hr5, hr6, hr8, hr12⟩, hA2, hA3, hA4, hA5, hA6, hA7⟩ := id hY
  obtain ⟨h1, h2, h4, h5, h7, h8, h9⟩ := id hR
  unfold aRest
  refine go_aload_n (z := 1) dX6_restore_0 rfl rfl ?_
  refine go_getI (z := 4) dX6_restore_1 rfl fX6_162 (by assumption) rfl ?_
  rw [h4]
  refine go_if_ne (z := 10) (z2 := 7) dX6_restore_4 rfl (by decide) (fun hk => ?_) (fun hk => ?_)
  · have hk := b2i_ne hk
    rw [if_pos hk]
    have i3 : recI i M A.2.1.length (M + 3) = i (M + 3) := by
      unfold recI
      rw [ups_row (by omega), upr_n (by omega)]
    have hS : RelS E Gd O [] A.2.2.1 (cpyK (i (M + 3)) (i (M + 1)) 1372) := (h5 hk).congr (fun k hk => if_pos hk)
    refine go_aload_n (z := 11) dX6_restore_10 rfl rfl ?_
    refine go_callV (z := 14) (t := 6) [] dX6_restore_11 rfl mlX6_record vX6_107 ⟨by decide, rfl⟩ hM rfl rfl (by decide) cat_nil (by simp) (by decide) (by first | decide | omega) (by first | decide | omega) (c_mRecord hY hR.2.1.1 hR.2.1.2.1) ?_
    refine ret_elim ?_
    refine go_aload_n (z := 15) dX6_restore_14 rfl rfl ?_
    refine go_getR (z := 18) dX6_restore_15 rfl fX6_16 (by assumption) rfl (by assumption) ?_
    refine go_aload_n (z := 19) dX6_restore_18 rfl rfl ?_
    refine go_getR (z := 22) dX6_restore_19 rfl fX6_7 (by assumption) rfl (by assumption) ?_
    refine go_callS (z := 25) [.ref (M + 3), .ref (M + 1)] dX6_restore_22 rfl mlX6_copy sX6_158 rfl rfl (by decide) (cat_r (cat_r cat_nil)) (by simp) (by decide) (by first | decide | omega) (by first | decide | omega) (c_mCopy hA3 hs (by omega)) ?_
    refine ret_elim ?_
    rw [i3, recI_1]
    refine go_aload_n (z := 26) dX6_restore_25 rfl rfl ?_
    refine go_getR (z := 29) dX6_restore_26 rfl fX6_7 (by assumption) rfl (by assumption) ?_
    refine go_iconst (z := 30) (v := 0) dX6_restore_29 rfl (by decide) ?_
    refine go_ialdM (z := 31) 0 (by assumption) (by decide) rfl (by omega) dX6_restore_30 rfl ?_
    rw [hS.sc 0 (by omega) (by omega) (by omega)]
    exact go_iret dX6_restore_31 rfl ⟨rfl, rfl, rfl, recI_out.tr (OutM.pr (a := M + 1) (by omega) (by omega)), hR.aR hS⟩
  · rw [if_neg (fun q => by rw [b2i_eq hk] at q; cases q)]
    refine go_bipush (z := 9) (v := (-5)) dX6_restore_7 rfl (by decide) ?_
    exact go_iret dX6_restore_9 rfl (pq_same hR)
theorem c_mUndo (hY : MoY G n M r) (hR : RefR E Gd O A M i) : Go l G mX6_undo 0 0 0 0 (lentry [.ref M] 2) [] n i r (PQ (aUndo A).1 (RefR E Gd O (aUndo A).2 M) M n i r) := by
  obtain ⟨⟨hM, hr0, hs⟩, ⟨hr1, hr3, hr5, hr6, hr8, hr12⟩, hA2, hA3, hA4, hA5, hA6, hA7⟩ := id hY
  obtain ⟨h1, h2, h4, h5, h7, h8, h9⟩ := id hR
  unfold aUndo
  refine go_aload_n (z := 1) dX6_undo_0 rfl rfl ?_
  refine go_getI (z := 4) dX6_undo_1 rfl fX6_35 (by assumption) rfl ?_
  rw [h2.1]
  by_cases h0 : A.2.1.length = 0
  · have hn : A.2.1 = [] := List.length_eq_zero_iff.mp h0
    rw [h0]
    refine go_if_ne (z := 10) (z2 := 7) dX6_undo_4 rfl (by decide) (fun h => absurd rfl h) (fun _ => ?_)
    rw [show A.2.1.getLast? = none by rw [hn]; rfl]
    refine go_bipush (z := 9) (v := (-5)) dX6_undo_7 rfl (by decide) ?_
    exact go_iret dX6_undo_9 rfl (pq_same hR)
  · obtain ⟨c, hc⟩ : ∃ c, A.2.1.length = c + 1 := ⟨A.2.1.length - 1, by omega⟩
    have hne : A.2.1 ≠ [] := fun q => h0 (by rw [q]; rfl)
    obtain ⟨m, hm⟩ : ∃ m, A.2.1.getLast? = some m := ⟨A.2.1.getLast hne, List.getLast?_eq_some_getLast hne⟩
    have hmc : A.2.1[c]? = some m := by
      rw [List.getLast?_eq_getElem?, hc] at hm
      exact hm
    rw [hm, hc]
    have c4 := h2.2.1
    have loop : ∀ d q, q + d = 1372 → Go l G mX6_undo 0 0 0 22 [some (.ref M), some (.int (nI q))] [] n (upr (ups i M 2 (nI c)) (M + 1) (cpyK (fun k => i (M + 2) (1372 * c + k)) (i (M + 1)) q)) r (PQ (nI c) (RefR E Gd O (m, A.2.1.dropLast, A.2.2) M) M n i r) := by
      intro d
      have e2 : ∀ t : Nat → Int32, upr (ups i M 2 (nI c)) (M + 1) t M 2 = nI c := fun t => by rw [upr_n (by omega), ups_s]
      induction d with
      | zero =>
        intro q hq
        have hq : q = 1372 := by omega
        subst hq
        refine go_iload_n (z := 23) dX6_undo_22 rfl rfl ?_
        refine go_sipush (z := 26) (v := 1372) dX6_undo_23 rfl (by decide) ?_
        refine go_icmp_ge (z := 56) (z2 := 29) dX6_undo_26 rfl (by decide) (fun _ => ?_) (fun h => absurd (by decide) h)
        refine go_aload_n (z := 57) dX6_undo_56 rfl rfl ?_
        refine go_getI (z := 60) dX6_undo_57 rfl fX6_35 (by assumption) rfl ?_
        rw [e2]
        refine go_iret dX6_undo_60 rfl ⟨rfl, rfl, rfl, (OutM.pi (a := M) (by omega) (by omega)).tr (OutM.pr (a := M + 1) (by omega) (by omega)), ?_⟩
        have hdl : A.2.1.dropLast.length = c := by rw [List.length_dropLast]; omega
        refine RefR.now (A := (A.1, A.2.1.dropLast, A.2.2)) ⟨by rw [ups_row (by omega)]; exact h1, ⟨by rw [ups_s, hdl], by rw [hdl]; omega, fun j m hm => ?_⟩, (ups_k (by decide)).trans h4, fun hk => by rw [ups_row (by omega)]; exact h5 hk, (ups_k (by decide)).trans h7, h8, fun k hk => by rw [ups_row (by omega)]; exact h9 k hk⟩ ?_
        · rw [ups_row (by omega)]
          refine h2.2.2 j m ?_
          have hm : A.2.1.dropLast[j]? = some m := hm
          have hjl := (List.getElem?_eq_some_iff.mp hm).1
          rw [List.getElem?_dropLast, if_pos (by omega)] at hm
          exact hm
        · exact (h2.2.2 c m hmc).congr (fun k hk => if_pos hk)
      | succ d ih =>
        intro q hq
        refine go_iload_n (z := 23) dX6_undo_22 rfl rfl ?_
        refine go_sipush (z := 26) (v := 1372) dX6_undo_23 rfl (by decide) ?_
        refine go_icmp_ge (z := 56) (z2 := 29) dX6_undo_26 rfl (by decide) (fun h => absurd ((nI_leI (a := 1372) (by omega) (by omega)).mp h) (by omega)) (fun _ => ?_)
        refine go_aload_n (z := 30) dX6_undo_29 rfl rfl ?_
        refine go_getR (z := 33) dX6_undo_30 rfl fX6_7 (by assumption) rfl (by assumption) ?_
        refine go_iload_n (z := 34) dX6_undo_33 rfl rfl ?_
        refine go_aload_n (z := 35) dX6_undo_34 rfl rfl ?_
        refine go_getR (z := 38) dX6_undo_35 rfl fX6_13 (by assumption) rfl (by assumption) ?_
        refine go_sipush (z := 41) (v := 1372) dX6_undo_38 rfl (by decide) ?_
        refine go_aload_n (z := 42) dX6_undo_41 rfl rfl ?_
        refine go_getI (z := 45) dX6_undo_42 rfl fX6_35 (by assumption) rfl ?_
        rw [e2]
        refine go_imul (z := 46) dX6_undo_45 rfl ?_
        refine go_iload_n (z := 47) dX6_undo_46 rfl rfl ?_
        refine go_iadd (z := 48) dX6_undo_47 rfl ?_
        refine go_st (st' := [.int (nI (1372 * c + q)), .ref (M + 2), .int (nI q), .ref (M + 1)]) (by rw [show (1372 : Int32) = nI 1372 from rfl, pk_mul, nI_add]) ?_
        refine go_iald (z := 49) (1372 * c + q) (by assumption) (by decide) rfl (by omega) dX6_undo_48 rfl ?_
        rw [upr_n (show M + 2 ≠ M + 1 by omega), ups_a (show M + 2 ≠ M by omega)]
        refine go_iastM (z := 50) q (by assumption) (by decide) rfl (by omega) dX6_undo_49 rfl ?_
        refine go_iinc (z := 53) dX6_undo_50 rfl rfl (nI_1 q) (by decide) ?_
        refine go_goto (z := 22) dX6_undo_53 (by decide) ?_
        have := ih (q + 1) (by omega)
        rw [← cpyK_s] at this
        exact this
    refine go_if_ne (z := 10) (z2 := 7) dX6_undo_4 rfl (by decide) (fun _ => ?_) (fun h => absurd h (nI_ne0 (by omega) (by omega)))
    refine go_aload_n (z := 11) dX6_undo_10 rfl rfl ?_
    refine go_dup (z := 12) dX6_undo_11 rfl rfl ?_
    refine go_getI (z := 15) dX6_undo_12 rfl fX6_35 (by assumption) rfl ?_
    rw [h2.1, hc]
    refine go_iconst (z := 16) (v := 1) dX6_undo_15 rfl (by decide) ?_
    refine go_isub (z := 17) dX6_undo_16 rfl ?_
    rw [nI_pred]
    refine go_putI (z := 20) dX6_undo_17 rfl fX6_35 (by assumption) rfl (Or.inl rfl) rfl ?_
    refine go_iconst (z := 21) (v := 0) dX6_undo_20 rfl (by decide) ?_
    refine go_istore_n (z := 22) dX6_undo_21 rfl (by decide) ?_
    have := loop 1372 0 rfl
    rw [cpyK_0, show i (M + 1) = ups i M 2 (nI c) (M + 1) from (ups_row (by omega)).symm, upr_id] at this
    exact this
end MCALLS
