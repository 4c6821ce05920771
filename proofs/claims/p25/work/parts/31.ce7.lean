/-! the calls that tell -/
def aTm (A : AP) (x y : Int32) : Int32 := if isH x = true ∧ isH y = true then A.1.2.1 (x.toNatClampNeg * 7 + y.toNatClampNeg) else -1
def aBt (A : AP) (x : Int32) : Int32 := if isH x = true then A.1.2.1 (x.toNatClampNeg * 7 + 6) else -1
def aHouse (A : AP) (x k : Int32) : Int32 := if isH x = true then tellH (A.1.2.2.1 x.toNatClampNeg) k else -1
def aWaitO (E : EE) (k : Int32) : Option Nat → Int32
  | some a => tell4 (nI (E.1 a)) (E.2.1 a) (nI (E.2.2.2 a).length) (nI (E.2.2.1 a)) k
  | none => -5
def aWait (E : EE) (A : AP) (x p k : Int32) : Int32 := if isH x = true then (if (0 ≤ k ∧ k ≤ 3) ∧ 0 ≤ p then aWaitO E k (A.1.2.2.2.1 x.toNatClampNeg)[p.toNatClampNeg]? else -2) else -1
def aMsgO (E : EE) (now k : Int32) : Option Mg → Int32
  | some y => tellM E y k now
  | none => -5
def aMsg (E : EE) (A : AP) (x k : Int32) : Int32 := if (0 ≤ k ∧ k ≤ 6) ∧ 0 ≤ x then aMsgO E (A.1.1 0) k A.1.2.2.2.2[x.toNatClampNeg]? else -2
def aTot (A : AP) (k : Int32) : Int32 := if k = 15 then nI A.2.1.length else if k = 16 then nI A.2.2.2.2.2 else tellS A.1 k
section CE7
variable {l : Launch} {G : GG} {n : Nat} {i : IP} {r : RP} {C : Nat} {A : AP} {E : EE} {Gd : Nat → Prop}
theorem c_ceTm {x y : Int32} (hL : CeL G n C) (hC : RepC C A i r) : Go l G mX5_time 1 0 0 0 (lentry [.ref C, .int x, .int y] 3) [] n i r (RetI (aTm A x y) n i r) := by
  have hc0 := hL.1
  have L2 := hL.2.1
  have hs := L2.s
  have f0 := hC.1.1
  have bad : ¬ (isH x = true ∧ isH y = true) → Go l G mX5_time 1 0 0 14 (lentry [.ref C, .int x, .int y] 3) [] n i r (RetI (aTm A x y) n i r) := by
    intro h
    have e : aTm A x y = -1 := by unfold aTm; rw [if_neg h]
    rw [e]
    refine go_iconst (z := 15) (v := (-1)) dX5_time_14 rfl (by decide) ?_
    exact go_iret dX5_time_15 rfl ⟨rfl, rfl, rfl, rfl⟩
  refine go_iload_n (z := 1) dX5_time_0 rfl rfl ?_
  refine go_callS (z := 4) [.int x] dX5_time_1 rfl mlX5_isHouse sX5_37 rfl rfl (by decide) (cat_i cat_nil) (by simp) (by decide) (by first | decide | omega) (by first | decide | omega) (c_isHouse x) ?_
  refine ret_elim ?_
  by_cases hx : isH x = true
  · rw [show (decide (0 ≤ x) && decide (x < 6)) = true from hx]
    refine go_if_eq (z := 14) (z2 := 7) dX5_time_4 rfl (by decide) (fun h => absurd h (by decide)) (fun _ => ?_)
    refine go_iload_n (z := 8) dX5_time_7 rfl rfl ?_
    refine go_callS (z := 11) [.int y] dX5_time_8 rfl mlX5_isHouse sX5_37 rfl rfl (by decide) (cat_i cat_nil) (by simp) (by decide) (by first | decide | omega) (by first | decide | omega) (c_isHouse y) ?_
    refine ret_elim ?_
    by_cases hy : isH y = true
    · rw [show (decide (0 ≤ y) && decide (y < 6)) = true from hy]
      refine go_if_ne (z := 16) (z2 := 14) dX5_time_11 rfl (by decide) (fun _ => ?_) (fun h => absurd h (by decide))
      obtain ⟨a, ha, ea, ea2⟩ := isH_of hx
      obtain ⟨b, hb, eb, eb2⟩ := isH_of hy
      have e : aTm A x y = A.1.2.1 (a * 7 + b) := by unfold aTm; rw [if_pos ⟨hx, hy⟩, ea2, eb2]
      rw [e, ea, eb]
      refine go_aload_n (z := 17) dX5_time_16 rfl rfl ?_
      refine go_getR (z := 20) dX5_time_17 rfl fX5_12 (by assumption) rfl (by assumption) ?_
      refine go_iload_n (z := 21) dX5_time_20 rfl rfl ?_
      refine go_iload_n (z := 22) dX5_time_21 rfl rfl ?_
      refine go_callV (z := 25) (t := 4) [.int (nI a), .int (nI b)] dX5_time_22 rfl mlX4_way vX5_110 ⟨by decide, rfl⟩ hs rfl rfl (by decide) (cat_i (cat_i cat_nil)) (by simp) (by decide) (by first | decide | omega) (by first | decide | omega) (c_way L2 hC.2.2.1 (by omega) (by omega)) ?_
      refine ret_elim ?_
      exact go_iret dX5_time_25 rfl ⟨rfl, rfl, rfl, rfl⟩
    · rw [show (decide (0 ≤ y) && decide (y < 6)) = false from Bool.eq_false_iff.mpr hy]
      exact go_if_ne (z := 16) (z2 := 14) dX5_time_11 rfl (by decide) (fun h => absurd rfl h) (fun _ => bad (fun q => hy q.2))
  · rw [show (decide (0 ≤ x) && decide (x < 6)) = false from Bool.eq_false_iff.mpr hx]
    exact go_if_eq (z := 14) (z2 := 7) dX5_time_4 rfl (by decide) (fun _ => bad (fun q => hx q.1)) (fun h => absurd rfl h)
theorem c_ceBt {x : Int32} (hL : CeL G n C) (hC : RepC C A i r) : Go l G mX5_bankTime 1 0 0 0 (lentry [.ref C, .int x] 2) [] n i r (RetI (aBt A x) n i r) := by
  have hc0 := hL.1
  have L2 := hL.2.1
  have hs := L2.s
  have f0 := hC.1.1
  refine go_iload_n (z := 1) dX5_bankTime_0 rfl rfl ?_
  refine go_callS (z := 4) [.int x] dX5_bankTime_1 rfl mlX5_isHouse sX5_37 rfl rfl (by decide) (cat_i cat_nil) (by simp) (by decide) (by first | decide | omega) (by first | decide | omega) (c_isHouse x) ?_
  refine ret_elim ?_
  by_cases hx : isH x = true
  · rw [show (decide (0 ≤ x) && decide (x < 6)) = true from hx]
    refine go_if_eq (z := 20) (z2 := 7) dX5_bankTime_4 rfl (by decide) (fun h => absurd h (by decide)) (fun _ => ?_)
    obtain ⟨a, ha, ea, ea2⟩ := isH_of hx
    have e : aBt A x = A.1.2.1 (a * 7 + 6) := by unfold aBt; rw [if_pos hx, ea2]
    rw [e, ea]
    refine go_aload_n (z := 8) dX5_bankTime_7 rfl rfl ?_
    refine go_getR (z := 11) dX5_bankTime_8 rfl fX5_12 (by assumption) rfl (by assumption) ?_
    refine go_iload_n (z := 12) dX5_bankTime_11 rfl rfl ?_
    refine go_bipush (z := 14) (v := 6) dX5_bankTime_12 rfl (by decide) ?_
    refine go_callV (z := 17) (t := 4) [.int (nI a), .int (nI 6)] dX5_bankTime_14 rfl mlX4_way vX5_110 ⟨by decide, rfl⟩ hs rfl rfl (by decide) (cat_i (cat_i cat_nil)) (by simp) (by decide) (by first | decide | omega) (by first | decide | omega) (c_way L2 hC.2.2.1 (by omega) (by omega)) ?_
    refine ret_elim ?_
    refine go_goto (z := 21) dX5_bankTime_17 (by decide) ?_
    exact go_iret dX5_bankTime_21 rfl ⟨rfl, rfl, rfl, rfl⟩
  · rw [show (decide (0 ≤ x) && decide (x < 6)) = false from Bool.eq_false_iff.mpr hx]
    have e : aBt A x = -1 := by unfold aBt; rw [if_neg hx]
    rw [e]
    refine go_if_eq (z := 20) (z2 := 7) dX5_bankTime_4 rfl (by decide) (fun _ => ?_) (fun h => absurd rfl h)
    refine go_iconst (z := 21) (v := (-1)) dX5_bankTime_20 rfl (by decide) ?_
    exact go_iret dX5_bankTime_21 rfl ⟨rfl, rfl, rfl, rfl⟩
theorem c_ceHouse {x k : Int32} (hL : CeL G n C) (hC : RepC C A i r) : Go l G mX5_house 1 0 0 0 (lentry [.ref C, .int x, .int k] 3) [] n i r (RetI (aHouse A x k) n i r) := by
  have hc0 := hL.1
  have L2 := hL.2.1
  have hs := L2.s
  have hhs := L2.hs
  have f0 := hC.1.1
  obtain ⟨⟨l1, l2, l3, l4⟩, -, -, hH, -⟩ := hC.2.2.1
  refine go_iload_n (z := 1) dX5_house_0 rfl rfl ?_
  refine go_callS (z := 4) [.int x] dX5_house_1 rfl mlX5_isHouse sX5_37 rfl rfl (by decide) (cat_i cat_nil) (by simp) (by decide) (by first | decide | omega) (by first | decide | omega) (c_isHouse x) ?_
  refine ret_elim ?_
  by_cases hx : isH x = true
  · rw [show (decide (0 ≤ x) && decide (x < 6)) = true from hx]
    refine go_if_eq (z := 23) (z2 := 7) dX5_house_4 rfl (by decide) (fun h => absurd h (by decide)) (fun _ => ?_)
    obtain ⟨a, ha, ea, ea2⟩ := isH_of hx
    have hho := L2.ho ha
    have e : aHouse A x k = tellH (i (C + 1 + 4 + 2 * a)) k := by
      unfold aHouse
      rw [if_pos hx, ea2]
      unfold tellH
      rw [hH a ha 0 (by omega), hH a ha 1 (by omega), hH a ha 2 (by omega), hH a ha 3 (by omega), hH a ha 4 (by omega), hH a ha 6 (by omega), hH a ha 7 (by omega), hH a ha 8 (by omega), hH a ha 9 (by omega)]
    rw [e, ea]
    refine go_aload_n (z := 8) dX5_house_7 rfl rfl ?_
    refine go_getR (z := 11) dX5_house_8 rfl fX5_12 (by assumption) rfl (by assumption) ?_
    refine go_getR (z := 14) dX5_house_11 rfl fX5_114 (by assumption) rfl (by assumption) ?_
    refine go_iload_n (z := 15) dX5_house_14 rfl rfl ?_
    refine go_aaldR (z := 16) a hhs ⟨by decide, by decide⟩ (by decide) rfl (by omega) (l4 a ha).1 dX5_house_15 rfl ?_
    refine go_iload_n (z := 17) dX5_house_16 rfl rfl ?_
    refine go_callV (z := 20) (t := 1) [.int k] dX5_house_17 rfl mlX1_tell vX5_118 ⟨by decide, rfl⟩ hho rfl rfl (by decide) (cat_i cat_nil) (by simp) (by decide) (by first | decide | omega) (by first | decide | omega) (c_House_tell hho) ?_
    refine ret_elim ?_
    refine go_goto (z := 24) dX5_house_20 (by decide) ?_
    exact go_iret dX5_house_24 rfl ⟨rfl, rfl, rfl, rfl⟩
  · rw [show (decide (0 ≤ x) && decide (x < 6)) = false from Bool.eq_false_iff.mpr hx]
    have e : aHouse A x k = -1 := by unfold aHouse; rw [if_neg hx]
    rw [e]
    refine go_if_eq (z := 23) (z2 := 7) dX5_house_4 rfl (by decide) (fun _ => ?_) (fun h => absurd rfl h)
    refine go_iconst (z := 24) (v := (-1)) dX5_house_23 rfl (by decide) ?_
    exact go_iret dX5_house_24 rfl ⟨rfl, rfl, rfl, rfl⟩
theorem c_ceTot {k : Int32} (hL : CeL G n C) (hC : RepC C A i r) : Go l G mX5_total 3 0 0 0 (lentry [.ref C, .int k] 2) [] n i r (RetI (aTot A k) n i r) := by
  have hc0 := hL.1
  have L2 := hL.2.1
  have hs := L2.s
  have f0 := hC.1.1
  obtain ⟨g4, g5, g7, gt, gh, gl⟩ := hC.2.1
  refine go_iload_n (z := 1) dX5_total_0 rfl rfl ?_
  refine go_bipush (z := 3) (v := 15) dX5_total_1 rfl (by decide) ?_
  refine go_icmp_ne (z := 11) (z2 := 6) dX5_total_3 rfl (by decide) (fun h => ?_) (fun h => ?_)
  · refine go_iload_n (z := 12) dX5_total_11 rfl rfl ?_
    refine go_bipush (z := 14) (v := 16) dX5_total_12 rfl (by decide) ?_
    refine go_icmp_ne (z := 24) (z2 := 17) dX5_total_14 rfl (by decide) (fun h2 => ?_) (fun h2 => ?_)
    · have e : aTot A k = tellS A.1 k := by unfold aTot; rw [if_neg h, if_neg h2]
      rw [e]
      refine go_aload_n (z := 25) dX5_total_24 rfl rfl ?_
      refine go_getR (z := 28) dX5_total_25 rfl fX5_12 (by assumption) rfl (by assumption) ?_
      refine go_iload_n (z := 29) dX5_total_28 rfl rfl ?_
      refine go_callV (z := 32) (t := 4) [.int k] dX5_total_29 rfl mlX4_tell vX5_138 ⟨by decide, rfl⟩ hs rfl rfl (by decide) (cat_i cat_nil) (by simp) (by decide) (by first | decide | omega) (by first | decide | omega) (c_State_tell L2 hC.2.2.1) ?_
      refine ret_elim ?_
      exact go_iret dX5_total_32 rfl ⟨rfl, rfl, rfl, rfl⟩
    · have e : aTot A k = nI A.2.2.2.2.2 := by unfold aTot; rw [if_neg h, if_pos h2]
      rw [e]
      refine go_aload_n (z := 18) dX5_total_17 rfl rfl ?_
      refine go_getI (z := 21) dX5_total_18 rfl fX5_55 (by assumption) rfl ?_
      refine go_goto (z := 32) dX5_total_21 (by decide) ?_
      exact go_iret dX5_total_32 rfl ⟨by rw [g7], rfl, rfl, rfl⟩
  · have e : aTot A k = nI A.2.1.length := by unfold aTot; rw [if_pos h]
    rw [e]
    refine go_aload_n (z := 7) dX5_total_6 rfl rfl ?_
    refine go_getI (z := 10) dX5_total_7 rfl fX5_100 (by assumption) rfl ?_
    exact go_iret dX5_total_10 rfl ⟨by rw [g4], rfl, rfl, rfl⟩
theorem c_ceWait {x p k : Int32} (hL : CeL G n C) (hC : RepC C A i r) (hE : RepE G n E Gd i r) (hg : ∀ h, h < 6 → ∀ e ∈ A.1.2.2.2.1 h, Gd e) : Go l G mX5_waiting 1 0 0 0 (lentry [.ref C, .int x, .int p, .int k] 5) [] n i r (RetI (aWait E A x p k) n i r) := by
  have hc0 := hL.1
  have L2 := hL.2.1
  have hs := L2.s
  have hhs := L2.hs
  have f0 := hC.1.1
  obtain ⟨⟨l1, l2, l3, l4⟩, -, -, hH, hQ, -⟩ := hC.2.2.1
  refine go_iload_n (z := 1) dX5_waiting_0 rfl rfl ?_
  refine go_callS (z := 4) [.int x] dX5_waiting_1 rfl mlX5_isHouse sX5_37 rfl rfl (by decide) (cat_i cat_nil) (by simp) (by decide) (by first | decide | omega) (by first | decide | omega) (c_isHouse x) ?_
  refine ret_elim ?_
  by_cases hx : isH x = true
  · rw [show (decide (0 ≤ x) && decide (x < 6)) = true from hx]
    refine go_if_ne (z := 9) (z2 := 7) dX5_waiting_4 rfl (by decide) (fun _ => ?_) (fun h => absurd h (by decide))
    have bad : ¬ ((0 ≤ k ∧ k ≤ 3) ∧ 0 ≤ p) → Go l G mX5_waiting 1 0 0 22 (lentry [.ref C, .int x, .int p, .int k] 5) [] n i r (RetI (aWait E A x p k) n i r) := by
      intro h
      have e : aWait E A x p k = -2 := by unfold aWait; rw [if_pos hx, if_neg h]
      rw [e]
      refine go_bipush (z := 24) (v := (-2)) dX5_waiting_22 rfl (by decide) ?_
      exact go_iret dX5_waiting_24 rfl ⟨rfl, rfl, rfl, rfl⟩
    refine go_iload_n (z := 10) dX5_waiting_9 rfl rfl ?_
    refine go_if_lt (z := 22) (z2 := 13) dX5_waiting_10 rfl (by decide) (fun h => bad (fun q => absurd (Int32.lt_of_lt_of_le h q.1.1) Int32.lt_irrefl)) (fun h1 => ?_)
    refine go_iload_n (z := 14) dX5_waiting_13 rfl rfl ?_
    refine go_iconst (z := 15) (v := 3) dX5_waiting_14 rfl (by decide) ?_
    refine go_icmp_gt (z := 22) (z2 := 18) dX5_waiting_15 rfl (by decide) (fun h => bad (fun q => absurd (Int32.lt_of_lt_of_le h q.1.2) Int32.lt_irrefl)) (fun h2 => ?_)
    refine go_iload_n (z := 19) dX5_waiting_18 rfl rfl ?_
    refine go_if_ge (z := 25) (z2 := 22) dX5_waiting_19 rfl (by decide) (fun h3 => ?_) (fun h => bad (fun q => h q.2))
    have h1 : 0 ≤ k := Int32.not_lt.mp h1
    have h2 : k ≤ 3 := Int32.not_lt.mp h2
    have h3 : 0 ≤ p := h3
    obtain ⟨a, ha, ea, ea2⟩ := isH_of hx
    obtain ⟨c, hc, ep⟩ := nI_of (x := p) (Int32.not_lt.mpr h3)
    have ep2 : p.toNatClampNeg = c := by rw [ep]; exact nI_clamp hc
    have hho := L2.ho ha
    have hli := L2.li ha
    have e : aWait E A x p k = aWaitO E k (A.1.2.2.2.1 a)[c]? := by unfold aWait; rw [if_pos hx, if_pos ⟨⟨h1, h2⟩, h3⟩, ea2, ep2]
    obtain ⟨q1, q2, q3⟩ := hQ a ha
    have hlen : i (C + 1 + 4 + 2 * a) 3 = nI (A.1.2.2.2.1 a).length := (hH a ha 3 (by omega)).trans q1
    rw [e, ea, ep]
    refine go_aload_n (z := 26) dX5_waiting_25 rfl rfl ?_
    refine go_getR (z := 29) dX5_waiting_26 rfl fX5_12 (by assumption) rfl (by assumption) ?_
    refine go_getR (z := 32) dX5_waiting_29 rfl fX5_114 (by assumption) rfl (by assumption) ?_
    refine go_iload_n (z := 33) dX5_waiting_32 rfl rfl ?_
    refine go_aaldR (z := 34) a hhs ⟨by decide, by decide⟩ (by decide) rfl (by omega) (l4 a ha).1 dX5_waiting_33 rfl ?_
    refine go_iload_n (z := 35) dX5_waiting_34 rfl rfl ?_
    refine go_callV (z := 38) (t := 1) [.int (nI c)] dX5_waiting_35 rfl mlX1_waitingAt vX5_123 ⟨by decide, rfl⟩ hho rfl rfl (by decide) (cat_i cat_nil) (by simp) (by decide) (by first | decide | omega) (by first | decide | omega) (c_House_waitingAt hho hli (l4 a ha).2 hlen q2) ?_
    refine ret_elim ?_
    rw [show (nI c).toNatClampNeg = c from nI_clamp hc]
    by_cases hcl : c < (A.1.2.2.2.1 a).length
    · rw [if_pos ⟨by rw [← ep]; exact h3, nI_lt hcl (by omega)⟩]
      have hm : (A.1.2.2.2.1 a)[c]? = some (A.1.2.2.2.1 a)[c] := List.getElem?_eq_getElem hcl
      rw [q3 c _ hm, hm]
      have hG := hE _ (hg a ha _ (List.getElem_mem hcl))
      have hok := hG.1
      show Go l G _ _ _ _ _ _ (.ref (A.1.2.2.2.1 a)[c] :: _) n i r _
      refine go_astore (z := 40) dX5_waiting_38 rfl (by decide) ?_
      refine go_aload (z := 42) dX5_waiting_40 rfl rfl ?_
      refine go_ifnonnull (a := some (A.1.2.2.2.1 a)[c]) (z := 50) (z2 := 45) dX5_waiting_42 rfl (by decide) (fun b hb => ?_) (fun h => by cases h)
      clear hb b
      refine go_aload (z := 52) dX5_waiting_50 rfl rfl ?_
      refine go_iload_n (z := 53) dX5_waiting_52 rfl rfl ?_
      refine go_callV (z := 56) (t := 0) [.int k] dX5_waiting_53 rfl mlX0_tell vX5_127 ⟨by decide, rfl⟩ hok rfl rfl (by decide) (cat_i cat_nil) (by simp) (by decide) (by first | decide | omega) (by first | decide | omega) (c_Errand_tell hok) ?_
      refine ret_elim ?_
      refine go_iret dX5_waiting_56 rfl ⟨?_, rfl, rfl, rfl⟩
      rw [hG.2.2.1, hG.2.2.2.1, hG.2.2.2.2.1, hG.2.2.2.2.2.1]
      rfl
    · rw [if_neg (fun q => hcl ((nI_ltI hc (by omega)).mp q.2)), List.getElem?_eq_none (by omega)]
      show Go l G _ _ _ _ _ _ (.null :: _) n i r _
      refine go_astoreN (z := 40) dX5_waiting_38 rfl (by decide) ?_
      refine go_aloadN (z := 42) dX5_waiting_40 rfl rfl ?_
      refine go_ifnonnull (a := none) (z := 50) (z2 := 45) dX5_waiting_42 rfl (by decide) (fun b hb => by cases hb) (fun _ => ?_)
      refine go_bipush (z := 47) (v := (-5)) dX5_waiting_45 rfl (by decide) ?_
      refine go_goto (z := 56) dX5_waiting_47 (by decide) ?_
      exact go_iret dX5_waiting_56 rfl ⟨rfl, rfl, rfl, rfl⟩
  · rw [show (decide (0 ≤ x) && decide (x < 6)) = false from Bool.eq_false_iff.mpr hx]
    have e : aWait E A x p k = -1 := by unfold aWait; rw [if_neg hx]
    rw [e]
    refine go_if_ne (z := 9) (z2 := 7) dX5_waiting_4 rfl (by decide) (fun h => absurd rfl h) (fun _ => ?_)
    refine go_iconst (z := 8) (v := (-1)) dX5_waiting_7 rfl (by decide) ?_
    exact go_iret dX5_waiting_8 rfl ⟨rfl, rfl, rfl, rfl⟩
theorem c_ceMsg {x k : Int32} (hL : CeL G n C) (hC : RepC C A i r) (hE : RepE G n E Gd i r) (hg : ∀ y ∈ A.1.2.2.2.2, ∀ b, y.2 = some b → Gd b) : Go l G mX5_message 2 0 0 0 (lentry [.ref C, .int x, .int k] 3) [] n i r (RetI (aMsg E A x k) n i r) := by
  have hc0 := hL.1
  have L2 := hL.2.1
  have hs := L2.s
  have hms := L2.ms
  have f0 := hC.1.1
  have hRn := hC.2.2.1
  obtain ⟨⟨l1, l2, l3, l4⟩, hZ, -, -, -, mx, ⟨hX, -⟩, hlen, -, hM⟩ := hC.2.2.1
  have bad : ¬ ((0 ≤ k ∧ k ≤ 6) ∧ 0 ≤ x) → Go l G mX5_message 2 0 0 14 (lentry [.ref C, .int x, .int k] 3) [] n i r (RetI (aMsg E A x k) n i r) := by
    intro h
    have e : aMsg E A x k = -2 := by unfold aMsg; rw [if_neg h]
    rw [e]
    refine go_bipush (z := 16) (v := (-2)) dX5_message_14 rfl (by decide) ?_
    exact go_iret dX5_message_16 rfl ⟨rfl, rfl, rfl, rfl⟩
  refine go_iload_n (z := 1) dX5_message_0 rfl rfl ?_
  refine go_if_lt (z := 14) (z2 := 4) dX5_message_1 rfl (by decide) (fun h => bad (fun q => absurd (Int32.lt_of_lt_of_le h q.1.1) Int32.lt_irrefl)) (fun h1 => ?_)
  refine go_iload_n (z := 5) dX5_message_4 rfl rfl ?_
  refine go_bipush (z := 7) (v := 6) dX5_message_5 rfl (by decide) ?_
  refine go_icmp_gt (z := 14) (z2 := 10) dX5_message_7 rfl (by decide) (fun h => bad (fun q => absurd (Int32.lt_of_lt_of_le h q.1.2) Int32.lt_irrefl)) (fun h2 => ?_)
  refine go_iload_n (z := 11) dX5_message_10 rfl rfl ?_
  refine go_if_ge (z := 17) (z2 := 14) dX5_message_11 rfl (by decide) (fun h3 => ?_) (fun h => bad (fun q => h q.2))
  have h1 : 0 ≤ k := Int32.not_lt.mp h1
  have h2 : k ≤ 6 := Int32.not_lt.mp h2
  have h3 : 0 ≤ x := h3
  obtain ⟨c, hc, ep⟩ := nI_of (x := x) (Int32.not_lt.mpr h3)
  have ep2 : x.toNatClampNeg = c := by rw [ep]; exact nI_clamp hc
  have e : aMsg E A x k = aMsgO E (A.1.1 0) k A.1.2.2.2.2[c]? := by unfold aMsg; rw [if_pos ⟨⟨h1, h2⟩, h3⟩, ep2]
  rw [e, ep]
  refine go_aload_n (z := 18) dX5_message_17 rfl rfl ?_
  refine go_getR (z := 21) dX5_message_18 rfl fX5_12 (by assumption) rfl (by assumption) ?_
  refine go_iload_n (z := 22) dX5_message_21 rfl rfl ?_
  refine go_callV (z := 25) (t := 4) [.int (nI c)] dX5_message_22 rfl mlX4_isOnItsWay vX5_87 ⟨by decide, rfl⟩ hs rfl rfl (by decide) (cat_i cat_nil) (by simp) (by decide) (by first | decide | omega) (by first | decide | omega) (c_isOn (k := 0) L2 hRn) ?_
  refine ret_elim ?_
  by_cases hcl : c < A.1.2.2.2.2.length
  · rw [if_pos ⟨by rw [← ep]; exact h3, nI_lt hcl (by omega)⟩]
    refine go_if_eq (z := 51) (z2 := 28) dX5_message_25 rfl (by decide) (fun h => absurd h (by decide)) (fun _ => ?_)
    have hm : A.1.2.2.2.2[c]? = some A.1.2.2.2.2[c] := List.getElem?_eq_getElem hcl
    rw [hm]
    have hc141 : c < 141 := by omega
    obtain ⟨x1, x2, x3⟩ := hX c hc141
    have hme := L2.me x2 (by omega)
    obtain ⟨y1, y2⟩ := hM c _ hm
    have hz : i (C + 1) 0 = A.1.1 0 := hZ 0 (by omega)
    refine go_aload_n (z := 29) dX5_message_28 rfl rfl ?_
    refine go_getR (z := 32) dX5_message_29 rfl fX5_12 (by assumption) rfl (by assumption) ?_
    refine go_getR (z := 35) dX5_message_32 rfl fX5_130 (by assumption) rfl (by assumption) ?_
    refine go_iload_n (z := 36) dX5_message_35 rfl rfl ?_
    refine go_aaldR (z := 37) c hms ⟨by decide, by decide⟩ (by decide) rfl (by omega) x1 dX5_message_36 rfl ?_
    refine go_iload_n (z := 38) dX5_message_37 rfl rfl ?_
    refine go_aload_n (z := 39) dX5_message_38 rfl rfl ?_
    refine go_getR (z := 42) dX5_message_39 rfl fX5_12 (by assumption) rfl (by assumption) ?_
    refine go_getI (z := 45) dX5_message_42 rfl fX5_80 (by assumption) rfl ?_
    refine go_callV (z := 48) (t := 2) [.int k, .int (i (C + 1) 0)] dX5_message_45 rfl mlX2_tell vX5_134 ⟨by decide, rfl⟩ hme rfl rfl (by decide) (cat_i (cat_i cat_nil)) (by simp) (by decide) (by first | decide | omega) (by first | decide | omega) (c_Message_tell hme hE y1 y2 (fun b hb => hg _ (List.getElem_mem hcl) b hb)) ?_
    refine ret_elim ?_
    refine go_goto (z := 53) dX5_message_48 (by decide) ?_
    exact go_iret dX5_message_53 rfl ⟨by rw [hz]; rfl, rfl, rfl, rfl⟩
  · rw [if_neg (fun q => hcl ((nI_ltI hc (by omega)).mp q.2)), List.getElem?_eq_none (by omega)]
    refine go_if_eq (z := 51) (z2 := 28) dX5_message_25 rfl (by decide) (fun _ => ?_) (fun h => absurd rfl h)
    refine go_bipush (z := 53) (v := (-5)) dX5_message_51 rfl (by decide) ?_
    exact go_iret dX5_message_53 rfl ⟨rfl, rfl, rfl, rfl⟩
end CE7
