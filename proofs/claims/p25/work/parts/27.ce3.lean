/-! the calls that set, and the history -/
theorem aRec_1 (A : AP) : (aRec A).1 = A.1 := by unfold aRec; split <;> rfl
def aR (A : AP) (m : MS) : AP := (m, (aRec A).2)
def okQ (G : GG) (n : Nat) (m : MS) : Prop := ∀ h, h < 6 → ∀ e ∈ m.2.2.2.1 h, Ok G n e 0
def aWay (A : AP) (a b : Nat) (x : Int32) : Int32 × AP := if A.1.2.1 (a * 7 + b) = x then (-5, A) else (A.1.2.1 (a * 7 + b), aR A (sW (sW A.1 (a * 7 + b) x) (b * 7 + a) x))
def isH (x : Int32) : Bool := decide (0 ≤ x) && decide (x < 6)
def isW (x : Int32) : Bool := decide (1 ≤ x) && decide (x ≤ 9)
theorem isH_of {x : Int32} (h : isH x = true) : ∃ c, c < 6 ∧ x = nI c ∧ x.toNatClampNeg = c := by
  unfold isH at h
  rw [Bool.and_eq_true] at h
  have h1 := of_decide_eq_true h.1
  have h2 := of_decide_eq_true h.2
  obtain ⟨c, hc, hx⟩ := nI_of (Int32.not_lt.mpr h1)
  subst hx
  exact ⟨c, (nI_ltI (b := 6) hc (by omega)).mp h2, rfl, nI_clamp hc⟩
def aTime (A : AP) (x y t : Int32) : Int32 × AP := if isH x = true ∧ isH y = true then (if isW t = true ∧ x ≠ y then aWay A x.toNatClampNeg y.toNatClampNeg t else (-2, A)) else (-1, A)
def aBank (A : AP) (x t : Int32) : Int32 × AP := if isH x = true then (if isW t = true then aWay A x.toNatClampNeg 6 t else (-2, A)) else (-1, A)
def aPow (A : AP) (x : Int32) : Int32 × AP := if 2 ≤ x ∧ x ≤ 16 then (if A.1.1 1 = x then (-5, A) else (A.1.1 1, aR A (sZ A.1 1 x))) else (-2, A)
def aLea (A : AP) (x : Int32) : Int32 × AP := if 1 ≤ x ∧ x ≤ 99 then (if A.1.1 2 = x then (-5, A) else (A.1.1 2, aR A (sZ A.1 2 x))) else (-2, A)
def aSet (A : AP) (k x : Int32) : Int32 × AP := if k = 0 then aPow A x else if k = 1 then aLea A x else (-1, A)
/-- an answer and a new state of all, in one -/
def CP (o : Int32 × AP) (n C : Nat) (i : IP) (r : RP) : QP := CQ o.1 n C o.2 i r
section CE3
variable {l : Launch} {G : GG} {n : Nat} {i : IP} {r : RP} {C : Nat} {A : AP}
theorem cp_same {x : Int32} (hC : RepC C A i r) : CP (x, A) n C i r (some (.int x)) n i r := ⟨rfl, rfl, hC, OutC.rf⟩
theorem rec_elim {P : Option Value → Nat → IP → RP → Prop} (K : ∀ i' r', RepC C (aRec A) i' r' → Rep (C + 1) A.1 i' r' → OutC C i r i' r' → r' C 0 = some (C + 1) → P none n i' r') : ∀ v n' i' r', (v = none ∧ n' = n ∧ RepC C (aRec A) i' r' ∧ OutC C i r i' r') → P v n' i' r' := by
  intro v n' i' r' ⟨h1, h2, h3, h4⟩
  rw [h1, h2]
  refine K i' r' h3 ?_ h4 h3.1.1
  have := h3.2.2.1
  rw [aRec_1] at this
  exact this
theorem c_changeWay {a b : Nat} {x : Int32} (hL : CeL G n C) (hC : RepC C A i r) (hq : okQ G n A.1) (ha : a < 7) (hb : b < 7) : Go l G mX5_changeWay 3 0 0 0 (lentry [.ref C, .int (nI a), .int (nI b), .int x] 5) [] n i r (CP (aWay A a b x) n C i r) := by
  have hRn := hC.2.2.1
  have hc0 := hL.1
  have L2 := hL.2.1
  have hs := L2.s
  have f0 := hC.1.1
  refine go_aload_n (z := 1) dX5_changeWay_0 rfl rfl ?_
  refine go_getR (z := 4) dX5_changeWay_1 rfl fX5_12 (by assumption) rfl (by assumption) ?_
  refine go_iload_n (z := 5) dX5_changeWay_4 rfl rfl ?_
  refine go_iload_n (z := 6) dX5_changeWay_5 rfl rfl ?_
  refine go_callV (z := 9) (t := 4) [.int (nI a), .int (nI b)] dX5_changeWay_6 rfl mlX4_way vX5_110 ⟨by decide, rfl⟩ hs rfl rfl (by decide) (cat_i (cat_i cat_nil)) (by simp) (by decide) (by first | decide | omega) (by first | decide | omega) (c_way L2 hRn ha hb) ?_
  refine ret_elim ?_
  refine go_istore (z := 11) dX5_changeWay_9 rfl (by decide) ?_
  refine go_iload (z := 13) dX5_changeWay_11 rfl rfl ?_
  refine go_iload_n (z := 14) dX5_changeWay_13 rfl rfl ?_
  refine go_icmp_ne (z := 20) (z2 := 17) dX5_changeWay_14 rfl (by decide) (fun h => ?_) (fun h => ?_)
  · have e : aWay A a b x = (A.1.2.1 (a * 7 + b), aR A (sW (sW A.1 (a * 7 + b) x) (b * 7 + a) x)) := by unfold aWay; rw [if_neg h]
    rw [e]
    refine go_aload_n (z := 21) dX5_changeWay_20 rfl rfl ?_
    refine go_callV (z := 24) (t := 5) [] dX5_changeWay_21 rfl mlX5_record vX5_70 ⟨by decide, rfl⟩ hc0 rfl rfl (by decide) cat_nil (by simp) (by decide) (by first | decide | omega) (by first | decide | omega) (c_record hL hC hq) ?_
    refine rec_elim (fun i2 r2 hC2 hR2 hO2 f0 => ?_)
    refine go_aload_n (z := 25) dX5_changeWay_24 rfl rfl ?_
    refine go_getR (z := 28) dX5_changeWay_25 rfl fX5_12 (by assumption) rfl (by assumption) ?_
    refine go_iload_n (z := 29) dX5_changeWay_28 rfl rfl ?_
    refine go_iload_n (z := 30) dX5_changeWay_29 rfl rfl ?_
    refine go_iload_n (z := 31) dX5_changeWay_30 rfl rfl ?_
    refine go_callV (z := 34) (t := 4) [.int (nI a), .int (nI b), .int x] dX5_changeWay_31 rfl mlX4_putWay vX5_147 ⟨by decide, rfl⟩ hs rfl rfl (by decide) (cat_i (cat_i (cat_i cat_nil))) (by simp) (by decide) (by first | decide | omega) (by first | decide | omega) (c_putWay L2 hR2 ha hb) ?_
    refine chg_elim (fun i3 r3 hR3 hO3 => ?_)
    refine go_iload (z := 36) dX5_changeWay_34 rfl rfl ?_
    exact go_iret dX5_changeWay_36 rfl ⟨rfl, rfl, hC2.now hR3 hO3, hO2.tr (Out.c hO3 (by omega) (by omega))⟩
  · have e : aWay A a b x = (-5, A) := by unfold aWay; rw [if_pos h]
    rw [e]
    refine go_bipush (z := 19) (v := (-5)) dX5_changeWay_17 rfl (by decide) ?_
    exact go_iret dX5_changeWay_19 rfl (cp_same hC)
theorem c_ceTime {x y t : Int32} (hL : CeL G n C) (hC : RepC C A i r) (hq : okQ G n A.1) : Go l G mX5_setTime 4 0 0 0 (lentry [.ref C, .int x, .int y, .int t] 4) [] n i r (CP (aTime A x y t) n C i r) := by
  have hc0 := hL.1
  have bad : ¬ (isH x = true ∧ isH y = true) → Go l G mX5_setTime 4 0 0 14 (lentry [.ref C, .int x, .int y, .int t] 4) [] n i r (CP (aTime A x y t) n C i r) := by
    intro h
    have e : aTime A x y t = (-1, A) := by unfold aTime; rw [if_neg h]
    rw [e]
    refine go_iconst (z := 15) (v := (-1)) dX5_setTime_14 rfl (by decide) ?_
    exact go_iret dX5_setTime_15 rfl (cp_same hC)
  refine go_iload_n (z := 1) dX5_setTime_0 rfl rfl ?_
  refine go_callS (z := 4) [.int x] dX5_setTime_1 rfl mlX5_isHouse sX5_37 rfl rfl (by decide) (cat_i cat_nil) (by simp) (by decide) (by first | decide | omega) (by first | decide | omega) (c_isHouse x) ?_
  refine ret_elim ?_
  by_cases hx : isH x = true
  · rw [show (decide (0 ≤ x) && decide (x < 6)) = true from hx]
    refine go_if_eq (z := 14) (z2 := 7) dX5_setTime_4 rfl (by decide) (fun h => absurd h (by decide)) (fun _ => ?_)
    refine go_iload_n (z := 8) dX5_setTime_7 rfl rfl ?_
    refine go_callS (z := 11) [.int y] dX5_setTime_8 rfl mlX5_isHouse sX5_37 rfl rfl (by decide) (cat_i cat_nil) (by simp) (by decide) (by first | decide | omega) (by first | decide | omega) (c_isHouse y) ?_
    refine ret_elim ?_
    by_cases hy : isH y = true
    · rw [show (decide (0 ≤ y) && decide (y < 6)) = true from hy]
      refine go_if_ne (z := 16) (z2 := 14) dX5_setTime_11 rfl (by decide) (fun _ => ?_) (fun h => absurd h (by decide))
      have bad2 : ¬ (isW t = true ∧ x ≠ y) → Go l G mX5_setTime 4 0 0 28 (lentry [.ref C, .int x, .int y, .int t] 4) [] n i r (CP (aTime A x y t) n C i r) := by
        intro h
        have e : aTime A x y t = (-2, A) := by unfold aTime; rw [if_pos ⟨hx, hy⟩, if_neg h]
        rw [e]
        refine go_bipush (z := 30) (v := (-2)) dX5_setTime_28 rfl (by decide) ?_
        exact go_iret dX5_setTime_30 rfl (cp_same hC)
      refine go_iload_n (z := 17) dX5_setTime_16 rfl rfl ?_
      refine go_callS (z := 20) [.int t] dX5_setTime_17 rfl mlX5_isWay sX5_41 rfl rfl (by decide) (cat_i cat_nil) (by simp) (by decide) (by first | decide | omega) (by first | decide | omega) (c_isWay t) ?_
      refine ret_elim ?_
      by_cases ht : isW t = true
      · rw [show (decide (1 ≤ t) && decide (t ≤ 9)) = true from ht]
        refine go_if_eq (z := 28) (z2 := 23) dX5_setTime_20 rfl (by decide) (fun h => absurd h (by decide)) (fun _ => ?_)
        refine go_iload_n (z := 24) dX5_setTime_23 rfl rfl ?_
        refine go_iload_n (z := 25) dX5_setTime_24 rfl rfl ?_
        refine go_icmp_ne (z := 31) (z2 := 28) dX5_setTime_25 rfl (by decide) (fun h => ?_) (fun h => bad2 (fun q => q.2 h))
        have e : aTime A x y t = aWay A x.toNatClampNeg y.toNatClampNeg t := by unfold aTime; rw [if_pos ⟨hx, hy⟩, if_pos ⟨ht, h⟩]
        rw [e]
        obtain ⟨a, ha, ea, ea2⟩ := isH_of hx
        obtain ⟨b, hb, eb, eb2⟩ := isH_of hy
        rw [ea2, eb2, ea, eb]
        refine go_aload_n (z := 32) dX5_setTime_31 rfl rfl ?_
        refine go_iload_n (z := 33) dX5_setTime_32 rfl rfl ?_
        refine go_iload_n (z := 34) dX5_setTime_33 rfl rfl ?_
        refine go_iload_n (z := 35) dX5_setTime_34 rfl rfl ?_
        refine go_callV (z := 38) (t := 5) [.int (nI a), .int (nI b), .int t] dX5_setTime_35 rfl mlX5_changeWay vX5_44 ⟨by decide, rfl⟩ hc0 rfl rfl (by decide) (cat_i (cat_i (cat_i cat_nil))) (by simp) (by decide) (by first | decide | omega) (by first | decide | omega) (c_changeWay hL hC hq (by omega) (by omega)) ?_
        intro v n2 i2 r2 hp
        obtain ⟨p1, p2, p3, p4⟩ := hp
        rw [p1, p2]
        exact go_iret dX5_setTime_38 rfl ⟨rfl, rfl, p3, p4⟩
      · rw [show (decide (1 ≤ t) && decide (t ≤ 9)) = false from Bool.eq_false_iff.mpr ht]
        refine go_if_eq (z := 28) (z2 := 23) dX5_setTime_20 rfl (by decide) (fun _ => bad2 (fun q => ht q.1)) (fun h => absurd rfl h)
    · rw [show (decide (0 ≤ y) && decide (y < 6)) = false from Bool.eq_false_iff.mpr hy]
      refine go_if_ne (z := 16) (z2 := 14) dX5_setTime_11 rfl (by decide) (fun h => absurd rfl h) (fun _ => bad (fun q => hy q.2))
  · rw [show (decide (0 ≤ x) && decide (x < 6)) = false from Bool.eq_false_iff.mpr hx]
    exact go_if_eq (z := 14) (z2 := 7) dX5_setTime_4 rfl (by decide) (fun _ => bad (fun q => hx q.1)) (fun h => absurd rfl h)
theorem c_ceBank {x t : Int32} (hL : CeL G n C) (hC : RepC C A i r) (hq : okQ G n A.1) : Go l G mX5_setBankTime 4 0 0 0 (lentry [.ref C, .int x, .int t] 3) [] n i r (CP (aBank A x t) n C i r) := by
  have hc0 := hL.1
  refine go_iload_n (z := 1) dX5_setBankTime_0 rfl rfl ?_
  refine go_callS (z := 4) [.int x] dX5_setBankTime_1 rfl mlX5_isHouse sX5_37 rfl rfl (by decide) (cat_i cat_nil) (by simp) (by decide) (by first | decide | omega) (by first | decide | omega) (c_isHouse x) ?_
  refine ret_elim ?_
  by_cases hx : isH x = true
  · rw [show (decide (0 ≤ x) && decide (x < 6)) = true from hx]
    refine go_if_ne (z := 9) (z2 := 7) dX5_setBankTime_4 rfl (by decide) (fun _ => ?_) (fun h => absurd h (by decide))
    refine go_iload_n (z := 10) dX5_setBankTime_9 rfl rfl ?_
    refine go_callS (z := 13) [.int t] dX5_setBankTime_10 rfl mlX5_isWay sX5_41 rfl rfl (by decide) (cat_i cat_nil) (by simp) (by decide) (by first | decide | omega) (by first | decide | omega) (c_isWay t) ?_
    refine ret_elim ?_
    by_cases ht : isW t = true
    · rw [show (decide (1 ≤ t) && decide (t ≤ 9)) = true from ht]
      refine go_if_ne (z := 19) (z2 := 16) dX5_setBankTime_13 rfl (by decide) (fun _ => ?_) (fun h => absurd h (by decide))
      have e : aBank A x t = aWay A x.toNatClampNeg 6 t := by unfold aBank; rw [if_pos hx, if_pos ht]
      rw [e]
      obtain ⟨a, ha, ea, ea2⟩ := isH_of hx
      rw [ea2, ea]
      refine go_aload_n (z := 20) dX5_setBankTime_19 rfl rfl ?_
      refine go_iload_n (z := 21) dX5_setBankTime_20 rfl rfl ?_
      refine go_bipush (z := 23) (v := 6) dX5_setBankTime_21 rfl (by decide) ?_
      refine go_iload_n (z := 24) dX5_setBankTime_23 rfl rfl ?_
      refine go_callV (z := 27) (t := 5) [.int (nI a), .int (nI 6), .int t] dX5_setBankTime_24 rfl mlX5_changeWay vX5_44 ⟨by decide, rfl⟩ hc0 rfl rfl (by decide) (cat_i (cat_i (cat_i cat_nil))) (by simp) (by decide) (by first | decide | omega) (by first | decide | omega) (c_changeWay hL hC hq (by omega) (by omega)) ?_
      intro v n2 i2 r2 hp
      obtain ⟨p1, p2, p3, p4⟩ := hp
      rw [p1, p2]
      exact go_iret dX5_setBankTime_27 rfl ⟨rfl, rfl, p3, p4⟩
    · rw [show (decide (1 ≤ t) && decide (t ≤ 9)) = false from Bool.eq_false_iff.mpr ht]
      refine go_if_ne (z := 19) (z2 := 16) dX5_setBankTime_13 rfl (by decide) (fun h => absurd rfl h) (fun _ => ?_)
      have e : aBank A x t = (-2, A) := by unfold aBank; rw [if_pos hx, if_neg ht]
      rw [e]
      refine go_bipush (z := 18) (v := (-2)) dX5_setBankTime_16 rfl (by decide) ?_
      exact go_iret dX5_setBankTime_18 rfl (cp_same hC)
  · rw [show (decide (0 ≤ x) && decide (x < 6)) = false from Bool.eq_false_iff.mpr hx]
    refine go_if_ne (z := 9) (z2 := 7) dX5_setBankTime_4 rfl (by decide) (fun h => absurd rfl h) (fun _ => ?_)
    have e : aBank A x t = (-1, A) := by unfold aBank; rw [if_neg hx]
    rw [e]
    refine go_iconst (z := 8) (v := (-1)) dX5_setBankTime_7 rfl (by decide) ?_
    exact go_iret dX5_setBankTime_8 rfl (cp_same hC)
end CE3
