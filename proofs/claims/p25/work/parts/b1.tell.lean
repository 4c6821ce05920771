/-! P25: more rows; what the calls tell -/
section PROWS
variable {l : Launch} {G : GG} {Y : AM} {D k j pc z : Nat} {lo : List (Option Value)} {st : List Value} {n : Nat} {i : IP} {r : RP} {Q : QP}
theorem go_ishr {x y : Int32} (hd : decode Y.2.1 pc = .ok (.ishr, 1)) (hz : pc + 1 = z) (K : Go l G Y D k j z lo (.int (x >>> (y &&& 31)) :: st) n i r Q) : Go l G Y D k j pc lo (.int y :: .int x :: st) n i r Q := by
  subst hz
  intro p e R s m args below meth c H locs cells slots ls E
  exact lv_ishr E.1.1 E.1.2.1 hd (K p e R s m args below meth c H locs cells slots ls E)
theorem go_ixor {x y : Int32} (hd : decode Y.2.1 pc = .ok (.ixor, 1)) (hz : pc + 1 = z) (K : Go l G Y D k j z lo (.int (x ^^^ y) :: st) n i r Q) : Go l G Y D k j pc lo (.int y :: .int x :: st) n i r Q := by
  subst hz
  intro p e R s m args below meth c H locs cells slots ls E
  exact lv_ixor E.1.1 E.1.2.1 hd (K p e R s m args below meth c H locs cells slots ls E)
theorem go_pop {v : Value} (hd : decode Y.2.1 pc = .ok (.pop, 1)) (hz : pc + 1 = z) (hc : v.category = 1) (K : Go l G Y D k j z lo st n i r Q) : Go l G Y D k j pc lo (v :: st) n i r Q := by
  subst hz
  intro p e R s m args below meth c H locs cells slots ls E
  exact lv_pop E.1.1 E.1.2.1 hd hc (K p e R s m args below meth c H locs cells slots ls E)
end PROWS
def lowN (v : Int32) (N : Nat) : Nat := v.toBitVec.toNat % 2 ^ 31 % N
theorem lowN_lt {v : Int32} {N : Nat} (h : 0 < N) : lowN v N < N := Nat.mod_lt _ h
def AnyI (n0 : Nat) (i0 : IP) (r0 : RP) : QP := fun v n i r => ∃ x, v = some (.int x) ∧ n = n0 ∧ i = i0 ∧ r = r0
section PTELL
variable {l : Launch} {G : GG} {n : Nat} {i : IP} {r : RP} {C : Nat} {E : EE} {Gd : Nat → Prop} {A : AP}
theorem c_low {v : Int32} {N : Nat} (h0 : 0 < N) (hN : N < 2 ^ 31) : Go l G mL_low 0 0 0 0 (lentry [.int v, .int (nI N)] 2) [] n i r (RetI (nI (lowN v N)) n i r) := by
  refine go_iload_n (z := 1) dL_low_0 rfl rfl ?_
  refine go_ldc (z := 3) dL_low_1 rfl kL_9 ?_
  refine go_iand (z := 4) dL_low_3 rfl ?_
  rw [pk_and v 31 (by decide)]
  refine go_iload_n (z := 5) dL_low_4 rfl rfl ?_
  refine go_irem (z := 6) dL_low_5 rfl (nI_ne0 h0 hN) rfl ?_
  skip
  rw [pk_rem (Nat.mod_lt _ (by decide)) h0 hN]
  exact go_iret dL_low_6 rfl ret_ok
theorem c_cell {k : Nat} (hk : k < 2 ^ 31) (hL : G.2.2.2.1 < 2 ^ 31) : Go l G mL_cell 0 0 0 0 (lentry [.ref G.2.2.1, .int (nI k)] 2) [] n i r (AnyI n i r) := by
  refine go_iload_n (z := 1) dL_cell_0 rfl rfl ?_
  refine go_aload_n (z := 2) dL_cell_1 rfl rfl ?_
  refine go_slen (z := 3) dL_cell_2 rfl ?_
  refine go_icmp_ge (z := 12) (z2 := 6) dL_cell_3 rfl (by decide) (fun h => ?_) (fun h => ?_)
  · refine go_ldc (z := 14) dL_cell_12 rfl kL_7 ?_
    refine go_iload_n (z := 15) dL_cell_14 rfl rfl ?_
    refine go_iconst (z := 16) (v := 5) dL_cell_15 rfl (by decide) ?_
    refine go_iadd (z := 17) dL_cell_16 rfl ?_
    refine go_imul (z := 18) dL_cell_17 rfl ?_
    refine go_ldc (z := 20) dL_cell_18 rfl kL_8 ?_
    refine go_iadd (z := 21) dL_cell_20 rfl ?_
    exact go_iret dL_cell_21 rfl ⟨_, rfl, rfl, rfl, rfl⟩
  · have hk2 : k < G.2.2.2.1 := Nat.lt_of_not_le (fun q => h (nI_le q hk))
    refine go_aload_n (z := 7) dL_cell_6 rfl rfl ?_
    refine go_iload_n (z := 8) dL_cell_7 rfl rfl ?_
    refine go_sld (z := 9) k (by omega) rfl hk2 dL_cell_8 rfl ?_
    refine go_goto (z := 21) dL_cell_9 (by decide) ?_
    exact go_iret dL_cell_21 rfl ⟨_, rfl, rfl, rfl, rfl⟩
theorem msg_at {k : Nat} {x : Mg} {j : Int32} (hx : A.1.2.2.2.2[k]? = some x) (hk : k < 2 ^ 31) (h0 : 0 ≤ j) (h6 : j ≤ 6) : aMsg E A (nI k) j = tellM E x j (A.1.1 0) := by
  unfold aMsg
  rw [if_pos ⟨⟨h0, h6⟩, nI_pos' hk⟩, nI_clamp hk, hx]
  rfl
theorem msg_out {k : Nat} {j : Int32} (hx : A.1.2.2.2.2[k]? = none) (hk : k < 2 ^ 31) (h0 : 0 ≤ j) (h6 : j ≤ 6) : aMsg E A (nI k) j = -5 := by
  unfold aMsg
  rw [if_pos ⟨⟨h0, h6⟩, nI_pos' hk⟩, nI_clamp hk, hx]
  rfl
theorem msg_v {k : Nat} {x : Mg} (hx : A.1.2.2.2.2[k]? = some x) (hk : k < 2 ^ 31) : aMsg E A (nI k) 0 = x.1 0 ∧ aMsg E A (nI k) 1 = x.1 1 ∧ aMsg E A (nI k) 2 = x.1 2 ∧ aMsg E A (nI k) 3 = x.1 3 ∧ aMsg E A (nI k) 4 = x.1 4 - A.1.1 0 ∧ aMsg E A (nI k) 5 = eWork E x.2 ∧ aMsg E A (nI k) 6 = eAll E x.2 :=
  ⟨(msg_at hx hk (by decide) (by decide)).trans rfl, (msg_at hx hk (by decide) (by decide)).trans rfl, (msg_at hx hk (by decide) (by decide)).trans rfl, (msg_at hx hk (by decide) (by decide)).trans rfl, (msg_at hx hk (by decide) (by decide)).trans rfl, (msg_at hx hk (by decide) (by decide)).trans rfl, (msg_at hx hk (by decide) (by decide)).trans rfl⟩
theorem isH_nI {h : Nat} (hh : h < 6) : isH (nI h) = true := by
  unfold isH
  rw [decide_eq_true (nI_pos' (by omega)), decide_eq_true (show nI h < 6 from nI_lt (b := 6) hh (by omega))]
  rfl
theorem hou_at {h : Nat} {k : Int32} (hh : h < 6) : aHouse A (nI h) k = tellH (A.1.2.2.1 h) k := by
  unfold aHouse
  rw [if_pos (isH_nI hh), nI_clamp (by omega)]
theorem hou_v {h : Nat} (hh : h < 6) : aHouse A (nI h) 0 = (if A.1.2.2.1 h 0 = 0 then 0 else 1) ∧ aHouse A (nI h) 1 = A.1.2.2.1 h 1 ∧ aHouse A (nI h) 2 = A.1.2.2.1 h 2 ∧ aHouse A (nI h) 3 = A.1.2.2.1 h 3 ∧ aHouse A (nI h) 4 = (if A.1.2.2.1 h 4 = 0 then 0 else 1) :=
  ⟨(hou_at hh).trans rfl, (hou_at hh).trans rfl, (hou_at hh).trans rfl, (hou_at hh).trans rfl, (hou_at hh).trans rfl⟩
theorem wai_at {h p : Nat} {k : Int32} (hh : h < 6) (hp : p < 2 ^ 31) (h0 : 0 ≤ k) (h3 : k ≤ 3) : aWait E A (nI h) (nI p) k = aWaitO E k (A.1.2.2.2.1 h)[p]? := by
  unfold aWait
  rw [if_pos (isH_nI hh), if_pos ⟨⟨h0, h3⟩, nI_pos' hp⟩, nI_clamp hp, nI_clamp (by omega)]
theorem wai_v {h p a : Nat} (hh : h < 6) (hp : p < 2 ^ 31) (ha : (A.1.2.2.2.1 h)[p]? = some a) : aWait E A (nI h) (nI p) 0 = nI (E.1 a) ∧ aWait E A (nI h) (nI p) 1 = E.2.1 a ∧ aWait E A (nI h) (nI p) 2 = nI (E.2.2.2 a).length ∧ aWait E A (nI h) (nI p) 3 = nI (E.2.2.1 a) := by
  refine ⟨?_, ?_, ?_, ?_⟩
  · rw [wai_at hh hp (by decide) (by decide), ha]; rfl
  · rw [wai_at hh hp (by decide) (by decide), ha]; rfl
  · rw [wai_at hh hp (by decide) (by decide), ha]; rfl
  · rw [wai_at hh hp (by decide) (by decide), ha]; rfl
theorem tot_v : aTot A 0 = A.1.1 0 ∧ aTot A 1 = A.1.1 7 ∧ aTot A 2 = A.1.1 8 ∧ aTot A 3 = sumH A.1.2.2.1 1 6 ∧ aTot A 4 = gsum A.1.2.2.2.2 ∧ aTot A 5 = A.1.1 9 ∧ aTot A 6 = nI A.1.2.2.2.2.length ∧ aTot A 7 = cntB A.1.2.2.1 6 ∧ aTot A 8 = A.1.1 10 ∧ aTot A 9 = A.1.1 11 ∧ aTot A 11 = b2i (mQuiet A.1) ∧ aTot A 12 = b2i (mIdle A.1) ∧ aTot A 13 = A.1.1 1 ∧ aTot A 14 = A.1.1 2 := ⟨rfl, rfl, rfl, rfl, rfl, rfl, rfl, rfl, rfl, rfl, rfl, rfl, rfl, rfl⟩
theorem sumF_snoc (w : Mg → Int32) (l : List Mg) (x : Mg) : sumF w (l ++ [x]) = sumF w l + w x := by
  induction l with
  | nil => show w x + 0 = 0 + w x; grind
  | cons y l ih => show w y + sumF w (l ++ [x]) = w y + sumF w l + w x; rw [ih, Int32.add_assoc]
theorem sumF_take {w : Mg → Int32} {ms : List Mg} {k : Nat} {x : Mg} (hx : ms[k]? = some x) : sumF w (ms.take (k + 1)) = sumF w (ms.take k) + w x := by
  rw [List.take_succ, hx]
  exact sumF_snoc w _ x
/-- what the law looks at -/
def VW (G : GG) (n C : Nat) (E : EE) (Gd : Nat → Prop) (A : AP) (i : IP) (r : RP) : Prop := CeL G n C ∧ RepC C A i r ∧ RepE G n E Gd i r ∧ (∀ h, h < 6 → ∀ e ∈ A.1.2.2.2.1 h, Gd e) ∧ (∀ y ∈ A.1.2.2.2.2, ∀ b, y.2 = some b → Gd b) ∧ A.1.2.2.2.2.length ≤ 141
theorem c_messages {kd : Int32} (hV : VW G n C E Gd A i r) : Go l G mL_messages 4 0 0 0 (lentry [.ref C, .int kd] 4) [] n i r (RetI (sumF (kC kd) A.1.2.2.2.2) n i r) := by
  obtain ⟨hL, hC, hE, hgQ, hgM, hl⟩ := hV
  have okC := hL.1
  have t6 : aTot A 6 = nI A.1.2.2.2.2.length := tot_v.2.2.2.2.2.2.1
  refine go_iconst (z := 1) (v := 0) dL_messages_0 rfl (by decide) ?_
  refine go_istore_n (z := 2) dL_messages_1 rfl (by decide) ?_
  refine go_iconst (z := 3) (v := 0) dL_messages_2 rfl (by decide) ?_
  refine go_istore_n (z := 4) dL_messages_3 rfl (by decide) ?_
  have loop : ∀ d k, k + d = A.1.2.2.2.2.length → Go l G mL_messages 4 0 0 4 [some (.ref C), some (.int kd), some (.int (sumF (kC kd) (A.1.2.2.2.2.take k))), some (.int (nI k))] [] n i r (RetI (sumF (kC kd) A.1.2.2.2.2) n i r) := by
    intro d
    induction d with
    | zero =>
      intro k hk
      refine go_iload_n (z := 5) dL_messages_4 rfl rfl ?_
      refine go_aload_n (z := 6) dL_messages_5 rfl rfl ?_
      refine go_bipush (z := 8) (v := 6) dL_messages_6 rfl (by decide) ?_
      refine go_callV (z := 11) (t := 5) [.int 6] dL_messages_8 rfl mlX5_total vL_30 ⟨by decide, rfl⟩ okC rfl rfl (by decide) (cat_i cat_nil) (by simp) (by decide) (by first | decide | omega) (by first | decide | omega) (c_ceTot hL hC) ?_
      refine ret_elim ?_
      rw [t6]
      refine go_icmp_ge (z := 38) (z2 := 14) dL_messages_11 rfl (by decide) (fun _ => ?_) (fun h => absurd (nI_le (by omega) (by omega)) h)
      refine go_iload_n (z := 39) dL_messages_38 rfl rfl ?_
      refine go_iret dL_messages_39 rfl ?_
      rw [List.take_of_length_le (by omega)]
      exact ret_ok
    | succ d ih =>
      intro k hk
      obtain ⟨x, hx⟩ : ∃ x, A.1.2.2.2.2[k]? = some x := ⟨_, List.getElem?_eq_getElem (show k < A.1.2.2.2.2.length by omega)⟩
      have v0 := (msg_v (E := E) hx (by omega)).1
      refine go_iload_n (z := 5) dL_messages_4 rfl rfl ?_
      refine go_aload_n (z := 6) dL_messages_5 rfl rfl ?_
      refine go_bipush (z := 8) (v := 6) dL_messages_6 rfl (by decide) ?_
      refine go_callV (z := 11) (t := 5) [.int 6] dL_messages_8 rfl mlX5_total vL_30 ⟨by decide, rfl⟩ okC rfl rfl (by decide) (cat_i cat_nil) (by simp) (by decide) (by first | decide | omega) (by first | decide | omega) (c_ceTot hL hC) ?_
      refine ret_elim ?_
      rw [t6]
      refine go_icmp_ge (z := 38) (z2 := 14) dL_messages_11 rfl (by decide) (fun h => absurd h (nI_ge (by omega) (by omega))) (fun _ => ?_)
      refine go_iload_n (z := 15) dL_messages_14 rfl rfl ?_
      refine go_aload_n (z := 16) dL_messages_15 rfl rfl ?_
      refine go_iload_n (z := 17) dL_messages_16 rfl rfl ?_
      refine go_iconst (z := 18) (v := 0) dL_messages_17 rfl (by decide) ?_
      refine go_callV (z := 21) (t := 5) [.int (nI k), .int 0] dL_messages_18 rfl mlX5_message vL_34 ⟨by decide, rfl⟩ okC rfl rfl (by decide) (cat_i (cat_i cat_nil)) (by simp) (by decide) (by first | decide | omega) (by first | decide | omega) (c_ceMsg hL hC hE hgM) ?_
      refine ret_elim ?_
      rw [v0]
      refine go_iload_n (z := 22) dL_messages_21 rfl rfl ?_
      refine go_icmp_ne (z := 29) (z2 := 25) dL_messages_22 rfl (by decide) (fun h => ?_) (fun h => ?_)
      · refine go_iconst (z := 30) (v := 0) dL_messages_29 rfl (by decide) ?_
        refine go_iadd (z := 31) dL_messages_30 rfl ?_
        refine go_istore_n (z := 32) dL_messages_31 rfl (by decide) ?_
        refine go_iinc (z := 35) dL_messages_32 rfl rfl (nI_1 k) (by decide) ?_
        refine go_goto (z := 4) dL_messages_35 (by decide) ?_
        refine go_lo ?_ (ih (k + 1) (by omega))
        rw [sumF_take hx, show kC kd x = 0 from if_neg h]
        rfl
      · refine go_iconst (z := 26) (v := 1) dL_messages_25 rfl (by decide) ?_
        refine go_goto (z := 30) dL_messages_26 (by decide) ?_
        refine go_iadd (z := 31) dL_messages_30 rfl ?_
        refine go_istore_n (z := 32) dL_messages_31 rfl (by decide) ?_
        refine go_iinc (z := 35) dL_messages_32 rfl rfl (nI_1 k) (by decide) ?_
        refine go_goto (z := 4) dL_messages_35 (by decide) ?_
        refine go_lo ?_ (ih (k + 1) (by omega))
        rw [sumF_take hx, show kC kd x = 1 from if_pos h]
        rfl
  exact go_lo rfl (loop A.1.2.2.2.2.length 0 (by omega))
def sF (F : Nat → Int32) : Nat → Int32
  | 0 => 0
  | c + 1 => sF F c + F c
theorem c_houses {w : Int32} (hV : VW G n C E Gd A i r) : Go l G mL_houses 4 0 0 0 (lentry [.ref C, .int w] 4) [] n i r (RetI (sF (fun h => aHouse A (nI h) w) 6) n i r) := by
  obtain ⟨hL, hC, hE, hgQ, hgM, hl⟩ := hV
  have okC := hL.1
  refine go_iconst (z := 1) (v := 0) dL_houses_0 rfl (by decide) ?_
  refine go_istore_n (z := 2) dL_houses_1 rfl (by decide) ?_
  refine go_iconst (z := 3) (v := 0) dL_houses_2 rfl (by decide) ?_
  refine go_istore_n (z := 4) dL_houses_3 rfl (by decide) ?_
  have loop : ∀ d h, h + d = 6 → Go l G mL_houses 4 0 0 4 [some (.ref C), some (.int w), some (.int (sF (fun h => aHouse A (nI h) w) h)), some (.int (nI h))] [] n i r (RetI (sF (fun h => aHouse A (nI h) w) 6) n i r) := by
    intro d
    induction d with
    | zero =>
      intro h hh
      have hh : h = 6 := by omega
      subst hh
      refine go_iload_n (z := 5) dL_houses_4 rfl rfl ?_
      refine go_bipush (z := 7) (v := 6) dL_houses_5 rfl (by decide) ?_
      refine go_icmp_ge (z := 25) (z2 := 10) dL_houses_7 rfl (by decide) (fun _ => ?_) (fun h => absurd (by decide) h)
      refine go_iload_n (z := 26) dL_houses_25 rfl rfl ?_
      exact go_iret dL_houses_26 rfl ret_ok
    | succ d ih =>
      intro h hh
      refine go_iload_n (z := 5) dL_houses_4 rfl rfl ?_
      refine go_bipush (z := 7) (v := 6) dL_houses_5 rfl (by decide) ?_
      refine go_icmp_ge (z := 25) (z2 := 10) dL_houses_7 rfl (by decide) (fun q => absurd q (nI_ge (b := 6) (by omega) (by omega))) (fun _ => ?_)
      refine go_iload_n (z := 11) dL_houses_10 rfl rfl ?_
      refine go_aload_n (z := 12) dL_houses_11 rfl rfl ?_
      refine go_iload_n (z := 13) dL_houses_12 rfl rfl ?_
      refine go_iload_n (z := 14) dL_houses_13 rfl rfl ?_
      refine go_callV (z := 17) (t := 5) [.int (nI h), .int w] dL_houses_14 rfl mlX5_house vL_37 ⟨by decide, rfl⟩ okC rfl rfl (by decide) (cat_i (cat_i cat_nil)) (by simp) (by decide) (by first | decide | omega) (by first | decide | omega) (c_ceHouse hL hC) ?_
      refine ret_elim ?_
      refine go_iadd (z := 18) dL_houses_17 rfl ?_
      refine go_istore_n (z := 19) dL_houses_18 rfl (by decide) ?_
      refine go_iinc (z := 22) dL_houses_19 rfl rfl (nI_1 h) (by decide) ?_
      refine go_goto (z := 4) dL_houses_22 (by decide) ?_
      exact go_lo rfl (ih (h + 1) (by omega))
  exact go_lo rfl (loop 6 0 rfl)
theorem hous_v : sF (fun h => aHouse A (nI h) 0) 6 = cntB A.1.2.2.1 6 ∧ sF (fun h => aHouse A (nI h) 1) 6 = sumH A.1.2.2.1 1 6 ∧ sF (fun h => aHouse A (nI h) 5) 6 = sumH A.1.2.2.1 6 6 ∧ sF (fun h => aHouse A (nI h) 6) 6 = sumH A.1.2.2.1 7 6 ∧ sF (fun h => aHouse A (nI h) 7) 6 = sumH A.1.2.2.1 8 6 := by
  refine ⟨?_, rfl, rfl, rfl, rfl⟩
  have key : ∀ c, c ≤ 6 → sF (fun h => aHouse A (nI h) 0) c = cntB A.1.2.2.1 c := by
    intro c
    induction c with
    | zero => intro _; rfl
    | succ c ih =>
      intro hc
      show sF (fun h => aHouse A (nI h) 0) c + aHouse A (nI c) 0 = (if A.1.2.2.1 c 0 = 0 then cntB A.1.2.2.1 c else cntB A.1.2.2.1 c + 1)
      rw [ih (by omega), (hou_v (by omega)).1]
      split
      · exact Int32.add_zero _
      · rfl
  exact key 6 (Nat.le_refl _)
end PTELL
