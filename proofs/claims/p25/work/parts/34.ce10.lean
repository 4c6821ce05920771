/-! launch, planned, leastCoin -/
def aRead (A : AP) : Sum Nat RS := rgo A.2.2.2.2.1 ([], 0, 0) 0 A.2.2.2.2.2
def rdOk (s : RS) : Bool := decide (s.2.1 = 0 ∧ (s.2.2 = 3 ∨ s.2.2 = 4))
def errOf (len : Nat) : Sum Nat RS → Option Nat
  | .inl p => some p
  | .inr s => if rdOk s = true then none else some len
def nodesOf : Sum Nat RS → List RN
  | .inl _ => []
  | .inr s => s.1
def aErr (A : AP) : Option Nat := errOf A.2.2.2.2.2 (aRead A)
def aL (A : AP) : List RN := nodesOf (aRead A)
def aLaunchO (E : EE) (Gd : Nat → Prop) (n : Nat) (A : AP) : Option Nat → Int32 × AP × EE × (Nat → Prop)
  | some p => (-100 - nI p, A, E, Gd)
  | none => if mAll E A.1 + (aL A).length ≤ 80 then (nI (rootsOf n (aL A)).length, aR A (mLaunch (eExt n (aL A) E) (rootsOf n (aL A)) A.1), eExt n (aL A) E, gExt n (aL A) Gd) else (-3, A, E, Gd)
def aLaunch (E : EE) (Gd : Nat → Prop) (n : Nat) (A : AP) : Int32 × AP × EE × (Nat → Prop) := aLaunchO E Gd n A (aErr A)
def aPlanO (A : AP) (k : Int32) : Option Nat → Int32
  | some p => -100 - nI p
  | none => tell4 (nI (aL A).length) (nI (swk (aL A))) (nI (mxd (aL A))) (nI (mxP (fbL (aL A)) (aL A).length)) k
def aPlan (A : AP) (k : Int32) : Int32 := if 0 ≤ k ∧ k ≤ 3 then aPlanO A k (aErr A) else -2
def OutN (C n : Nat) (i : IP) (r : RP) (i' : IP) (r' : RP) : Prop := ∀ a, a < C ∨ (C + 1105 ≤ a ∧ a < n) → i' a = i a ∧ r' a = r a
def LQ (o : Int32 × AP × EE × (Nat → Prop)) (G : GG) (n C : Nat) (i : IP) (r : RP) : QP := fun v n' i' r' => v = some (.int o.1) ∧ n ≤ n' ∧ n' ≤ n + 60 ∧ RepC C o.2.1 i' r' ∧ RepE G n' o.2.2.1 o.2.2.2 i' r' ∧ OutN C n i r i' r'
theorem nI_m1 {c : Nat} (h : c < 2 ^ 31) : ¬ nI c = -1 := fun q => absurd (show nI c < 0 by rw [q]; decide) (nI_pos h)
section CE10
variable {l : Launch} {G : GG} {n : Nat} {i : IP} {r : RP} {C : Nat} {A : AP} {E : EE} {Gd : Nat → Prop}
def RQ (G : GG) (n C : Nat) (A : AP) (i : IP) (r : RP) : QP := fun v n' i' r' => n ≤ n' ∧ n' ≤ n + 60 ∧ OutR n (C + 474) i r i' r' ∧ RdL G n' (C + 474) r' ∧ (∀ p, aErr A = some p → v = some (.int (nI p)) ∧ p ≤ 60) ∧ (aErr A = none → v = some (.int (-1)) ∧ ∃ s, s.1 = aL A ∧ RdRep G n (C + 474) s n' i' r' ∧ RInv s A.2.2.2.2.2 ∧ s.1.length ≤ 15)
theorem CeL.rd (hL : CeL G n C) (hC : RepC C A i r) : RdL G n (C + 474) r := ⟨hL.2.2.2.2.2.2.1, hL.2.2.2.2.2.2.2.1, hL.2.2.2.2.2.2.2.2.1, hC.1.2.2.2.2.2.2.1, hC.1.2.2.2.2.2.2.2⟩
theorem c_ceRead (hL : CeL G n C) (hC : RepC C A i r) (htag : ∀ a, n ≤ a → (G.2.1 a).1 = 0) (hG : G.1 ≤ n) : Go l G mX3_read 4 60 420 0 (lentry [.ref (C + 474), .ref (C + 473), .int (nI A.2.2.2.2.2)] 4) [] n i r (RQ G n C A i r) := by
  obtain ⟨g4, g5, g7, gt, gh, gl⟩ := hC.2.1
  refine go_post (c_read (hL.rd hC) htag hG gl hL.2.2.2.2.2.1) ?_
  intro v n' i' r' ⟨p1, p2, p3, p4, p5, p6⟩
  have e : rgo (i (C + 473)) ([], 0, 0) 0 A.2.2.2.2.2 = aRead A := rgo_congr 0 _ (fun k _ hk => gt k (by omega))
  rw [e] at p5 p6
  refine ⟨p1, p2, p3, p4, fun p hp => ?_, fun hp => ?_⟩
  · unfold aErr at hp
    cases hr : aRead A with
    | inl q =>
      rw [hr] at hp
      have : q = p := Option.some.inj hp
      subst this
      obtain ⟨z1, z2⟩ := p5 q hr
      exact ⟨z2, by omega⟩
    | inr s =>
      rw [hr] at hp
      have hp : (if rdOk s = true then none else some A.2.2.2.2.2) = some p := hp
      by_cases hk : rdOk s = true
      · rw [if_pos hk] at hp; cases hp
      · rw [if_neg hk] at hp
        have : A.2.2.2.2.2 = p := Option.some.inj hp
        rw [← this]
        exact ⟨(p6 s hr).1 (fun q => hk (decide_eq_true q)), gl⟩
  · unfold aErr at hp
    cases hr : aRead A with
    | inl q => rw [hr] at hp; cases hp
    | inr s =>
      rw [hr] at hp
      have hp : (if rdOk s = true then none else some A.2.2.2.2.2) = none := hp
      by_cases hk : rdOk s = true
      · have hk2 := of_decide_eq_true hk
        obtain ⟨z1, z2, z3⟩ := (p6 s hr).2 hk2
        refine ⟨z1, s, by unfold aL; rw [hr]; rfl, z2, z3, ?_⟩
        have h3 := z3.2.2
        omega
      · rw [if_neg hk] at hp; cases hp
theorem OutR.toN (h : C + 1105 ≤ n) {i' : IP} {r' : RP} (ho : OutR n (C + 474) i r i' r') : OutN C n i r i' r' := fun a ha => ho a (by omega) (by omega) (by omega) (by omega)
theorem OutN.c {i1 i2 : IP} {r1 r2 : RP} (h1 : OutN C n i r i1 r1) (h2 : OutC C i1 r1 i2 r2) : OutN C n i r i2 r2 := fun a ha => ⟨(h2 a (by omega)).1.trans (h1 a ha).1, (h2 a (by omega)).2.trans (h1 a ha).2⟩
theorem roots_len {s : RS} {len : Nat} (hI : RInv s len) (n0 : Nat) : (rootsOf n0 s.1).length ≤ s.1.length := by
  obtain ⟨g1, g2, g3, g4, g5, g6, g7, g8, g9, g10, g11, g12, g13⟩ := hI.1
  unfold rootsOf
  rw [List.length_map]
  have := len_le_sum (l := (fbL s.1).1) (g := (fbL s.1).2.2.1) (fun k hk => (g7 k (g8 k hk)).1)
  omega
theorem c_ceLaunch (hL : CeL G n C) (hC : RepC C A i r) (hE : RepE G n E Gd i r) (hg : ∀ a, Gd a → C + 1105 ≤ a) (hCn : C + 1105 ≤ n) (htag : ∀ a, n ≤ a → (G.2.1 a).1 = 0) (hG : G.1 ≤ n) (hq : ∀ h, h < 6 → ∀ e ∈ A.1.2.2.2.1 h, Gd e) (hq2 : ∀ y ∈ A.1.2.2.2.2, ∀ b, y.2 = some b → Gd b) (hAll : mAll E A.1 ≤ 80) (hcap : mAll E A.1 + (aL A).length ≤ 80 → A.1.2.2.2.2.length + (aL A).length ≤ 141) : Go l G mX5_launch 5 60 420 0 (lentry [.ref C] 2) [] n i r (LQ (aLaunch E Gd n A) G n C i r) := by
  have hc0 := hL.1
  have L7 := hL.2.2.2.2.2.2.1
  obtain ⟨f0, f1, f2, f3, f6, f8, f80, f82⟩ := hC.1
  have g7 := hC.2.1.2.2.1
  have e0 : aLaunch E Gd n A = aLaunchO E Gd n A (aErr A) := rfl
  refine go_aload_n (z := 1) dX5_launch_0 rfl rfl ?_
  refine go_getR (z := 4) dX5_launch_1 rfl fX5_33 (by assumption) rfl (by assumption) ?_
  refine go_aload_n (z := 5) dX5_launch_4 rfl rfl ?_
  refine go_getR (z := 8) dX5_launch_5 rfl fX5_26 (by assumption) rfl (by assumption) ?_
  refine go_aload_n (z := 9) dX5_launch_8 rfl rfl ?_
  refine go_getI (z := 12) dX5_launch_9 rfl fX5_55 (by assumption) rfl ?_
  rw [g7]
  refine go_callV (z := 15) (t := 3) [.ref (C + 473), .int (nI A.2.2.2.2.2)] dX5_launch_12 rfl mlX3_read vX5_59 ⟨by decide, rfl⟩ L7 rfl rfl (by decide) (cat_r (cat_i cat_nil)) (by simp) (by decide) (by first | decide | omega) (by first | decide | omega) (c_ceRead hL hC htag hG) ?_
  intro v n1 i1 r1 hp
  obtain ⟨p1, p2, p3, p4, p5, p6⟩ := hp
  have hL1 := hL.mono p1
  have hC1 := hC.rd hCn p4 p3
  have hE1 : RepE G n1 E Gd i1 r1 := (hE.outR p4 p3).mono p1
  have o1 : OutN C n i r i1 r1 := OutR.toN hCn p3
  have hc1 := hL1.1
  cases hr : aErr A with
  | some p =>
    obtain ⟨z1, z2⟩ := p5 p hr
    rw [z1, e0, hr]
    refine go_istore_n (z := 16) dX5_launch_15 rfl (by decide) ?_
    refine go_iload_n (z := 17) dX5_launch_16 rfl rfl ?_
    refine go_iconst (z := 18) (v := (-1)) dX5_launch_17 rfl (by decide) ?_
    refine go_icmp_eq (z := 26) (z2 := 21) dX5_launch_18 rfl (by decide) (fun h => absurd h (nI_m1 (by omega))) (fun _ => ?_)
    refine go_bipush (z := 23) (v := (-100)) dX5_launch_21 rfl (by decide) ?_
    refine go_iload_n (z := 24) dX5_launch_23 rfl rfl ?_
    refine go_isub (z := 25) dX5_launch_24 rfl ?_
    exact go_iret dX5_launch_25 rfl ⟨rfl, p1, p2, hC1, hE1, o1⟩
  | none =>
    obtain ⟨z1, s, z2, z3, z4, z5⟩ := p6 hr
    rw [z1, e0, hr]
    have L2 := hL1.2.1
    have hs := L2.s
    have L71 := hL1.2.2.2.2.2.2.1
    have hf0 := hC1.1.1
    have hf8 := hC1.1.2.2.2.2.2.1
    refine go_istore_n (z := 16) dX5_launch_15 rfl (by decide) ?_
    refine go_iload_n (z := 17) dX5_launch_16 rfl rfl ?_
    refine go_iconst (z := 18) (v := (-1)) dX5_launch_17 rfl (by decide) ?_
    refine go_icmp_eq (z := 26) (z2 := 21) dX5_launch_18 rfl (by decide) (fun _ => ?_) (fun h => absurd rfl h)
    have g5 : i1 (C + 474) 5 = nI s.1.length := z3.2.2.2.2.1.2.2.2.1
    refine go_aload_n (z := 27) dX5_launch_26 rfl rfl ?_
    refine go_getR (z := 30) dX5_launch_27 rfl fX5_12 (by assumption) rfl (by assumption) ?_
    refine go_callV (z := 33) (t := 4) [] dX5_launch_30 rfl mlX4_errandsInAll vX5_63 ⟨by decide, rfl⟩ hs rfl rfl (by decide) cat_nil (by simp) (by decide) (by first | decide | omega) (by first | decide | omega) (c_errandsInAll L2 hC1.2.2.1 hE1 hq hq2) ?_
    refine ret_elim ?_
    refine go_aload_n (z := 34) dX5_launch_33 rfl rfl ?_
    refine go_getR (z := 37) dX5_launch_34 rfl fX5_33 (by assumption) rfl (by assumption) ?_
    refine go_getI (z := 40) dX5_launch_37 rfl fX5_67 (by assumption) rfl ?_
    refine go_iadd (z := 41) dX5_launch_40 rfl ?_
    refine go_bipush (z := 43) (v := 80) dX5_launch_41 rfl (by decide) ?_
    rw [g5, nI_add, z2]
    have hk1 : mAll E A.1 + (aL A).length < 2 ^ 31 := by rw [← z2]; omega
    refine go_icmp_le (z := 49) (z2 := 46) dX5_launch_43 rfl (by decide) (fun h => ?_) (fun h => ?_)
    · have hk : mAll E A.1 + (aL A).length ≤ 80 := (nI_leI (b := 80) hk1 (by omega)).mp h
      have e1 : aLaunchO E Gd n A none = (nI (rootsOf n (aL A)).length, aR A (mLaunch (eExt n (aL A) E) (rootsOf n (aL A)) A.1), eExt n (aL A) E, gExt n (aL A) Gd) := if_pos hk
      rw [e1]
      have hEx := hE.ext p3 z3 z4 z5
      rw [z2] at hEx
      have hgx : ∀ a, gExt n (aL A) Gd a → C + 1105 ≤ a := fun a ha => by
        rcases ha with ha | ha
        · exact hg a ha
        · omega
      have hrl := roots_len z4 n
      rw [z2] at hrl
      have z5' : (aL A).length ≤ 15 := by rw [← z2]; exact z5
      have hc := hcap hk
      refine go_aload_n (z := 50) dX5_launch_49 rfl rfl ?_
      refine go_callV (z := 53) (t := 5) [] dX5_launch_50 rfl mlX5_record vX5_70 ⟨by decide, rfl⟩ hc1 rfl rfl (by decide) cat_nil (by simp) (by decide) (by first | decide | omega) (by first | decide | omega) (c_record2 hL1 hC1 (fun h hh e he => (hE1 e (hq h hh e he)).1)) ?_
      intro v n2 i2 r2 hp
      obtain ⟨w1, w2, hC2, w4⟩ := hp
      rw [w1, w2]
      have hR2 : Rep (C + 1) A.1 i2 r2 := by rw [← aRec_1 A]; exact hC2.2.2.1
      have hO2 : OutC C i1 r1 i2 r2 := fun a ha => w4 a (by omega)
      have f0 := hC2.1.1
      have hf8 := hC2.1.2.2.2.2.2.1
      have rd2 := hL1.rd hC2
      have hEx2 := hEx.outC hgx hO2
      have k1 : i2 (C + 474) 1 = nI (rootsOf n (aL A)).length := by
        rw [(w4 (C + 474) (by omega)).1, z3.2.2.2.2.1.1, z2]
        unfold rootsOf
        rw [List.length_map]
      have k2 : ∀ (c a : Nat), (rootsOf n (aL A))[c]? = some a → r2 (C + 475) c = some a ∧ gExt n (aL A) Gd a := by
        intro c a hca
        unfold rootsOf at hca
        rw [List.getElem?_map] at hca
        obtain ⟨q, hq1, hq2⟩ := Option.map_eq_some_iff.mp hca
        rw [← z2] at hq1
        have hqm : q ∈ (fbL s.1).1 := List.mem_of_getElem? hq1
        have hqc := z4.1.2.2.2.2.2.2.2.1 q hqm
        rw [(w4 (C + 475) (by omega)).2, z3.2.2.2.2.2.1 c q hq1, ← hq2, ← z2]
        exact ⟨rfl, Or.inr ⟨by omega, by omega⟩⟩
      refine go_aload_n (z := 54) dX5_launch_53 rfl rfl ?_
      refine go_getR (z := 57) dX5_launch_54 rfl fX5_12 (by assumption) rfl (by assumption) ?_
      refine go_aload_n (z := 58) dX5_launch_57 rfl rfl ?_
      refine go_getR (z := 61) dX5_launch_58 rfl fX5_33 (by assumption) rfl (by assumption) ?_
      refine go_callV (z := 64) (t := 4) [.ref (C + 474)] dX5_launch_61 rfl mlX4_startErrands vX5_73 ⟨by decide, rfl⟩ hs rfl rfl (by decide) (cat_r cat_nil) (by simp) (by decide) (by first | decide | omega) (by first | decide | omega) (c_startErrands L2 hR2 hEx2 L71 rd2.2.1 (by omega) (by omega) k1 rd2.2.2.2.1 (by omega) k2 (by omega)) ?_
      refine chg_elim (fun i3 r3 hR3 hO3 => ?_)
      have hC3 := hC2.now hR3 hO3
      have hf8 := hC3.1.2.2.2.2.2.1
      have hO3' : OutC C i2 r2 i3 r3 := Out.c hO3 (by omega) (by omega)
      refine go_aload_n (z := 65) dX5_launch_64 rfl rfl ?_
      refine go_getR (z := 68) dX5_launch_65 rfl fX5_33 (by assumption) rfl (by assumption) ?_
      refine go_getI (z := 71) dX5_launch_68 rfl fX5_77 (by assumption) rfl ?_
      refine go_iret dX5_launch_71 rfl ⟨?_, p1, p2, hC3, hEx2.outC hgx hO3', (o1.c hO2).c hO3'⟩
      rw [(hO3 (C + 474) (by omega)).1, k1]
    · have hk : ¬ mAll E A.1 + (aL A).length ≤ 80 := fun q => h ((nI_leI (b := 80) hk1 (by omega)).mpr q)
      have e1 : aLaunchO E Gd n A none = (-3, A, E, Gd) := if_neg hk
      rw [e1]
      refine go_bipush (z := 48) (v := (-3)) dX5_launch_46 rfl (by decide) ?_
      exact go_iret dX5_launch_48 rfl ⟨rfl, p1, p2, hC1, hE1, o1⟩
theorem c_cePlan {k : Int32} (hL : CeL G n C) (hC : RepC C A i r) (hE : RepE G n E Gd i r) (hCn : C + 1105 ≤ n) (htag : ∀ a, n ≤ a → (G.2.1 a).1 = 0) (hG : G.1 ≤ n) : Go l G mX5_planned 5 60 420 0 (lentry [.ref C, .int k] 3) [] n i r (LQ (aPlan A k, A, E, Gd) G n C i r) := by
  have hc0 := hL.1
  have L7 := hL.2.2.2.2.2.2.1
  obtain ⟨f0, f1, f2, f3, f6, f8, f80, f82⟩ := hC.1
  have g7 := hC.2.1.2.2.1
  have bad : ¬ (0 ≤ k ∧ k ≤ 3) → Go l G mX5_planned 5 60 420 9 (lentry [.ref C, .int k] 3) [] n i r (LQ (aPlan A k, A, E, Gd) G n C i r) := by
    intro h
    have e : aPlan A k = -2 := by unfold aPlan; rw [if_neg h]
    rw [e]
    refine go_bipush (z := 11) (v := (-2)) dX5_planned_9 rfl (by decide) ?_
    exact go_iret dX5_planned_11 rfl ⟨rfl, Nat.le_refl _, by omega, hC, hE, fun _ _ => ⟨rfl, rfl⟩⟩
  refine go_iload_n (z := 1) dX5_planned_0 rfl rfl ?_
  refine go_if_lt (z := 9) (z2 := 4) dX5_planned_1 rfl (by decide) (fun h => bad (fun q => absurd (Int32.lt_of_lt_of_le h q.1) Int32.lt_irrefl)) (fun h1 => ?_)
  refine go_iload_n (z := 5) dX5_planned_4 rfl rfl ?_
  refine go_iconst (z := 6) (v := 3) dX5_planned_5 rfl (by decide) ?_
  refine go_icmp_le (z := 12) (z2 := 9) dX5_planned_6 rfl (by decide) (fun h2 => ?_) (fun h => bad (fun q => h q.2))
  have h1 : 0 ≤ k := Int32.not_lt.mp h1
  have h2 : k ≤ 3 := h2
  have e0 : aPlan A k = aPlanO A k (aErr A) := by unfold aPlan; rw [if_pos ⟨h1, h2⟩]
  refine go_aload_n (z := 13) dX5_planned_12 rfl rfl ?_
  refine go_getR (z := 16) dX5_planned_13 rfl fX5_33 (by assumption) rfl (by assumption) ?_
  refine go_aload_n (z := 17) dX5_planned_16 rfl rfl ?_
  refine go_getR (z := 20) dX5_planned_17 rfl fX5_26 (by assumption) rfl (by assumption) ?_
  refine go_aload_n (z := 21) dX5_planned_20 rfl rfl ?_
  refine go_getI (z := 24) dX5_planned_21 rfl fX5_55 (by assumption) rfl ?_
  rw [g7]
  refine go_callV (z := 27) (t := 3) [.ref (C + 473), .int (nI A.2.2.2.2.2)] dX5_planned_24 rfl mlX3_read vX5_59 ⟨by decide, rfl⟩ L7 rfl rfl (by decide) (cat_r (cat_i cat_nil)) (by simp) (by decide) (by first | decide | omega) (by first | decide | omega) (c_ceRead hL hC htag hG) ?_
  intro v n1 i1 r1 hp
  obtain ⟨p1, p2, p3, p4, p5, p6⟩ := hp
  have hL1 := hL.mono p1
  have hC1 := hC.rd hCn p4 p3
  have hE1 : RepE G n1 E Gd i1 r1 := (hE.outR p4 p3).mono p1
  have o1 : OutN C n i r i1 r1 := OutR.toN hCn p3
  have hc1 := hL1.1
  cases hr : aErr A with
  | some p =>
    obtain ⟨z1, z2⟩ := p5 p hr
    rw [z1, e0, hr]
    refine go_istore_n (z := 28) dX5_planned_27 rfl (by decide) ?_
    refine go_iload_n (z := 29) dX5_planned_28 rfl rfl ?_
    refine go_iconst (z := 30) (v := (-1)) dX5_planned_29 rfl (by decide) ?_
    refine go_icmp_ne (z := 44) (z2 := 33) dX5_planned_30 rfl (by decide) (fun _ => ?_) (fun h => absurd h (nI_m1 (by omega)))
    refine go_bipush (z := 46) (v := (-100)) dX5_planned_44 rfl (by decide) ?_
    refine go_iload_n (z := 47) dX5_planned_46 rfl rfl ?_
    refine go_isub (z := 48) dX5_planned_47 rfl ?_
    exact go_iret dX5_planned_48 rfl ⟨rfl, p1, p2, hC1, hE1, o1⟩
  | none =>
    obtain ⟨z1, s, z2, z3, z4, z5⟩ := p6 hr
    rw [z1, e0, hr]
    have hf8 := hC1.1.2.2.2.2.2.1
    have L71 := hL1.2.2.2.2.2.2.1
    refine go_istore_n (z := 28) dX5_planned_27 rfl (by decide) ?_
    refine go_iload_n (z := 29) dX5_planned_28 rfl rfl ?_
    refine go_iconst (z := 30) (v := (-1)) dX5_planned_29 rfl (by decide) ?_
    refine go_icmp_ne (z := 44) (z2 := 33) dX5_planned_30 rfl (by decide) (fun h => absurd rfl h) (fun _ => ?_)
    refine go_aload_n (z := 34) dX5_planned_33 rfl rfl ?_
    refine go_getR (z := 37) dX5_planned_34 rfl fX5_33 (by assumption) rfl (by assumption) ?_
    refine go_iload_n (z := 38) dX5_planned_37 rfl rfl ?_
    refine go_callV (z := 41) (t := 3) [.int k] dX5_planned_38 rfl mlX3_tell vX5_143 ⟨by decide, rfl⟩ L71 rfl rfl (by decide) (cat_i cat_nil) (by simp) (by decide) (by first | decide | omega) (by first | decide | omega) (c_Reader_tell (hL1.rd hC1)) ?_
    refine ret_elim ?_
    refine go_goto (z := 48) dX5_planned_41 (by decide) ?_
    obtain ⟨y1, y3, y4, y5, y6, y7, y8⟩ := z3.2.2.2.2.1
    refine go_iret dX5_planned_48 rfl ⟨?_, p1, p2, hC1, hE1, o1⟩
    rw [y5, y6, y7, y8, z2]
    rfl
end CE10
/-! does a fresh run ask -/
def wRun (E : EE) : Nat → MS → Bool
  | 0, _ => false
  | c + 1, m => if mIdle m = true then false else if mAsked (mTick E m) = true then true else wRun E c (mTick E m)
def wAsk (E : EE) (roots : List Nat) (m : MS) (k : Int32) : Bool := wRun E 500 (mLaunch E roots (mNew m k))
def lRun (E : EE) (roots : List Nat) (m : MS) : Nat → Nat → Int32
  | 0, _ => -5
  | c + 1, k => if wAsk E roots m (nI k) = true then lRun E roots m c (k + 1) else nI k
def aLeastO (E : EE) (n : Nat) (A : AP) : Option Nat → Int32
  | some p => -100 - nI p
  | none => lRun (eExt n (aL A) E) (rootsOf n (aL A)) A.1 15 2
def aLeast (E : EE) (n : Nat) (A : AP) : Int32 := aLeastO E n A (aErr A)
section CE11
variable {l : Launch} {G : GG} {n : Nat} {i : IP} {r : RP} {C : Nat} {A : AP} {E : EE} {Gd : Nat → Prop}
/-- only the trial state's cells change -/
def WQ (b : Bool) (n C : Nat) (A : AP) (i : IP) (r : RP) : QP := fun v n' i' r' => v = some (.int (b2i b)) ∧ n' = n ∧ RepC C A i' r' ∧ Out (C + 315) i r i' r'
end CE11
