/-! P25: how far it is; isAhead, forecasts -/
theorem ticks_add (E : EE) (a : Nat) : ∀ (b : Nat) (m : MS), mTicks E (a + b) m = mTicks E b (mTicks E a m) := by
  induction a with
  | zero => intro b m; rw [Nat.zero_add]; rfl
  | succ a ih =>
    intro b m
    rw [show a + 1 + b = a + b + 1 by omega]
    exact ih b (mTick E m)
theorem uRef_spec {E : EE} {b : Bool} (c : Nat) : ∀ (j : Nat) (m : MS), (∃ t, t < c ∧ uRef E b c j m = nI (j + t) ∧ uDone b (mTicks E t m) = true ∧ ∀ s, s < t → ¬ uDone b (mTicks E s m) = true) ∨ (uRef E b c j m = -5 ∧ ∀ s, s < c → ¬ uDone b (mTicks E s m) = true) := by
  induction c with
  | zero => intro j m; exact Or.inr ⟨rfl, fun s hs => absurd hs (Nat.not_lt_zero s)⟩
  | succ c ih =>
    intro j m
    have e : uRef E b (c + 1) j m = if uDone b m = true then nI j else uRef E b c (j + 1) (mTick E m) := rfl
    by_cases hd : uDone b m = true
    · exact Or.inl ⟨0, by omega, by rw [e, if_pos hd]; rfl, hd, fun s hs => absurd hs (Nat.not_lt_zero s)⟩
    · rw [e, if_neg hd]
      have nx : ∀ s, (∀ s', s' < s → ¬ uDone b (mTicks E s' (mTick E m)) = true) → ∀ s', s' < s + 1 → ¬ uDone b (mTicks E s' m) = true := by
        intro s h s' hs
        cases s' with
        | zero => exact hd
        | succ s' => exact h s' (by omega)
      rcases ih (j + 1) (mTick E m) with ⟨t, t1, t2, t3, t4⟩ | ⟨t1, t2⟩
      · exact Or.inl ⟨t + 1, by omega, by rw [t2, show j + 1 + t = j + (t + 1) by omega], t3, nx t t4⟩
      · exact Or.inr ⟨t1, nx c t2⟩
theorem uRun_spec (E : EE) (b : Bool) (m : MS) : (∃ t, t < 501 ∧ uRun E b 501 0 m = nI t ∧ uDone b (mTicks E t m) = true ∧ ∀ s, s < t → ¬ uDone b (mTicks E s m) = true) ∨ (uRun E b 501 0 m = -5 ∧ ∀ s, s < 501 → ¬ uDone b (mTicks E s m) = true) := by
  rw [uRun_ref]
  have h := uRef_spec (E := E) (b := b) 501 0 m
  rcases h with ⟨t, t1, t2, t3⟩ | h
  · rw [Nat.zero_add] at t2
    exact Or.inl ⟨t, t1, t2, t3⟩
  · exact Or.inr h
theorem uRun_of {E : EE} {b : Bool} {m : MS} {t : Nat} (ht : t < 501) (hd : uDone b (mTicks E t m) = true) (hn : ∀ s, s < t → ¬ uDone b (mTicks E s m) = true) : uRun E b 501 0 m = nI t := by
  rcases uRun_spec E b m with ⟨t2, a1, a2, a3, a4⟩ | ⟨-, a2⟩
  · rcases Nat.lt_trichotomy t t2 with q | q | q
    · exact absurd hd (a4 t q)
    · rw [a2, q]
    · exact absurd a3 (hn t2 q)
  · exact absurd hd (a2 t ht)
/-- the class's side of the law's heap -/
def DS (G : GG) (n C : Nat) (E : EE) (Gd : Nat → Prop) (K : Nat) (A : AP) (i : IP) (r : RP) : Prop := CeL G n C ∧ RepC C A i r ∧ RepE G n E Gd i r ∧ (∀ a, Gd a → C + 1105 ≤ a) ∧ AInv E Gd A ∧ AllS (PI E K) A ∧ EW E Gd
section PAHEAD
variable {l : Launch} {G : GG} {n : Nat} {i i1 : IP} {r r1 : RP} {C K : Nat} {E : EE} {Gd : Nat → Prop} {A A1 : AP}
theorem DS.vw (h : DS G n C E Gd K A i r) : VW G n C E Gd A i r := by
  obtain ⟨h1, h2, h3, h4, h5, h6, h7⟩ := h
  have hm := h5.ms
  obtain ⟨T, -, hI⟩ := h5.1
  have := hI.lt141 h3.ok (Nat.le_refl _)
  exact ⟨h1, h2, h3, hm.2.2, hm.2.1, by omega⟩
theorem DS.inv {T : Nat} (h : DS G n C E Gd K A i r) (hT : A.1.1 0 = nI T) (hT2 : T < 2 ^ 31) : Inv E Gd T T (fun _ => T) A.1 := by
  obtain ⟨T', h1, hI⟩ := h.2.2.2.2.1.1
  have e : nI T = nI T' := hT.symm.trans hI.1.1
  have e : T = T' := (nI_eq hT2 (by omega)).mp e
  rw [e]
  exact hI
theorem DS.next (h : DS G n C E Gd K A i r) (hC : RepC C A1 i1 r1) (ho : OutC C i r i1 r1) (hA : AInv E Gd A1) (hP : AllS (PI E K) A1) : DS G n C E Gd K A1 i1 r1 := ⟨h.1, hC, h.2.2.1.outC h.2.2.2.1 ho, h.2.2.2.1, hA, hP, h.2.2.2.2.2.2⟩
theorem pass_eq {T c : Nat} (hI : Inv E Gd T T (fun _ => T) A.1) (hE : EOk E Gd) (h1 : 1 ≤ c) (h2 : c ≤ 100) (h3 : T + c ≤ 1000000) : aPass E A (nI c) = (nI (T + c), aR A (mTicks E c A.1)) := by
  unfold aPass
  rw [if_pos ⟨(nI_leI (a := 1) (by omega) (by omega)).mpr h1, (nI_leI (b := 100) (by omega) (by omega)).mpr h2⟩, hI.1.1, nI_add, if_pos (show nI (T + c) ≤ 1000000 from (nI_leI (b := 1000000) (by omega) (by omega)).mpr h3), nI_clamp (by omega)]
  exact congrArg (fun x => (x, aR A (mTicks E c A.1))) (hI.ticks hE c (by omega)).2.1.1
theorem c_dsPass {T c : Nat} (h : DS G n C E Gd K A i r) (hT : A.1.1 0 = nI T) (hK : K ≤ 2 ^ 30) (h1 : 1 ≤ c) (h2 : c ≤ 100) (h3 : T + c ≤ 1000000) : Go l G mX5_pass 5 0 0 0 (lentry [.ref C, .int (nI c)] 3) [] n i r (fun v n' i' r' => v = some (.int (nI (T + c))) ∧ n' = n ∧ OutC C i r i' r' ∧ DS G n C E Gd K (aR A (mTicks E c A.1)) i' r') := by
  have hI := h.inv hT (by omega)
  have hE := h.2.2.1.ok
  have e := pass_eq (A := A) hI hE h1 h2 h3
  have hA := h.2.2.2.2.1.pass hE (nI c)
  have hP := PA.pass h.2.2.2.2.2.1 h.2.2.2.2.1 hE h.2.2.2.2.2.2 hK (nI c)
  rw [e] at hA hP
  refine go_post (c_cePass h.1 h.2.1 h.2.2.1 h.2.2.2.1 (AInv.q h.2.2.2.2.1.1 h.2.2.1) (pass_ok h.2.2.2.2.1 hE)) ?_
  rintro v n' i' r' ⟨p1, p2, p3, p4⟩
  rw [e] at p1 p3
  exact ⟨p1, p2, p4, h.next p3 p4 hA hP⟩
theorem undo_aR {m : MS} : 0 ≤ (aUndo (aR A m)).1 ∨ 4 < A.2.1.length := by
  by_cases hc : A.2.1.length ≤ 4
  · refine Or.inl ?_
    have e : ∃ H, (aR A m).2.1 = H ++ [A.1] ∧ H.length ≤ 4 := by
      unfold aR aRec
      split
      · exact ⟨A.2.1, rfl, hc⟩
      · exact ⟨A.2.1.tail, rfl, by rw [List.length_tail]; omega⟩
    obtain ⟨H, e1, e2⟩ := e
    have e3 : (aR A m).2.1.getLast? = some A.1 := by rw [e1, List.getLast?_append]; rfl
    unfold aUndo
    rw [e3]
    show 0 ≤ nI ((aR A m).2.1.length - 1)
    rw [e1, List.length_append]
    exact nI_pos' (by show H.length + 1 - 1 < _; omega)
  · exact Or.inr (by omega)
theorem undo_aR2 {m : MS} : (aUndo (aR A m)).2.1 = A.1 ∧ (aUndo (aR A m)).2.2.2 = A.2.2 := by
  have e : ∃ H, (aR A m).2.1 = H ++ [A.1] ∧ (aR A m).2.2 = A.2.2 := by
    unfold aR aRec
    split
    · exact ⟨A.2.1, rfl, rfl⟩
    · exact ⟨A.2.1.tail, rfl, rfl⟩
  obtain ⟨H, e1, e2⟩ := e
  have e3 : (aR A m).2.1.getLast? = some A.1 := by rw [e1, List.getLast?_append]; rfl
  unfold aUndo
  rw [e3]
  exact ⟨rfl, e2⟩
/-- back where it was, but for the history -/
def AQ (x : Int32) (G : GG) (n C : Nat) (E : EE) (Gd : Nat → Prop) (K : Nat) (A : AP) (i : IP) (r : RP) : QP := fun v n' i' r' => v = some (.int x) ∧ n' = n ∧ OutC C i r i' r' ∧ ∃ A', A'.1 = A.1 ∧ A'.2.2 = A.2.2 ∧ DS G n C E Gd K A' i' r'
theorem c_dsUndo {m : MS} (h : DS G n C E Gd K (aR A m) i r) (hl : A.2.1.length ≤ 4) : Go l G mX5_undo 2 0 0 0 (lentry [.ref C] 2) [] n i r (fun v n' i' r' => ∃ x, 0 ≤ x ∧ AQ x G n C E Gd K A i r v n' i' r') := by
  have hA := h.2.2.2.2.1.undo
  have hP := h.2.2.2.2.2.1.undo
  refine go_post (c_ceUndo h.1 h.2.1 (fun m hm => AInv.q (h.2.2.2.2.1.2.1 m hm) h.2.2.1)) ?_
  rintro v n' i' r' ⟨p1, p2, p3, p4⟩
  exact ⟨_, undo_aR.resolve_right (by omega), p1, p2, p4, _, undo_aR2.1, undo_aR2.2, h.next p3 p4 hA hP⟩
theorem c_dsQuiet (h : DS G n C E Gd K A i r) : Go l G mX5_quietIn 6 0 0 0 (lentry [.ref C] 1) [] n i r (fun v n' i' r' => v = some (.int (uRun E true 501 0 A.1)) ∧ n' = n ∧ OutC C i r i' r' ∧ DS G n C E Gd K A i' r') := by
  refine go_post (c_ceQuiet h.1 h.2.1 h.2.2.1 h.2.2.2.1 (AInv.q h.2.2.2.2.1.1 h.2.2.1) (h.2.2.2.2.1.run h.2.2.1.ok)) ?_
  rintro v n' i' r' ⟨p1, p2, p3, p4⟩
  exact ⟨p1, p2, p4, h.next p3 p4 h.2.2.2.2.1 h.2.2.2.2.2.1⟩
theorem c_dsIdle (h : DS G n C E Gd K A i r) : Go l G mX5_idleIn 6 0 0 0 (lentry [.ref C] 1) [] n i r (fun v n' i' r' => v = some (.int (uRun E false 501 0 A.1)) ∧ n' = n ∧ OutC C i r i' r' ∧ DS G n C E Gd K A i' r') := by
  refine go_post (c_ceIdle h.1 h.2.1 h.2.2.1 h.2.2.2.1 (AInv.q h.2.2.2.2.1.1 h.2.2.1) (h.2.2.2.2.1.run h.2.2.1.ok)) ?_
  rintro v n' i' r' ⟨p1, p2, p3, p4⟩
  exact ⟨p1, p2, p4, h.next p3 p4 h.2.2.2.2.1 h.2.2.2.2.2.1⟩
def wB (b : Bool) : Int32 := if b = true then 11 else 12
theorem tot_w (b : Bool) : aTot A (wB b) = b2i (uDone b A.1) := by cases b <;> rfl
theorem b2i_0 {b : Bool} (h : ¬ b = true) : b2i b = 0 := if_neg h
theorem b2i_1 {b : Bool} (h : b = true) : b2i b = 1 := if_pos h
theorem DS.hl (h : DS G n C E Gd K A i r) : A.2.1.length ≤ 4 := h.2.1.2.1.2.2.2.2.1
theorem c_isAhead {T : Nat} (b : Bool) (h : DS G n C E Gd K A i r) (hT : A.1.1 0 = nI T) (hT2 : T ≤ 900000) (hK : K ≤ 2 ^ 30) : Go l G mL_isAhead 7 0 0 0 (lentry [.ref C, .int (wB b), .int (uRun E b 501 0 A.1)] 5) [] n i r (AQ 1 G n C E Gd K A i r) := by
  have okC := h.1.1
  have hL := h.1
  have hC := h.2.1
  rcases uRun_spec E b A.1 with ⟨t, t1, t2, t3, t4⟩ | ⟨t1, t2⟩
  · rw [t2]
    by_cases t0 : t = 0
    · subst t0
      refine go_iload_n (z := 1) dL_isAhead_0 rfl rfl ?_
      refine go_if_ne (z := 19) (z2 := 4) dL_isAhead_1 rfl (by decide) (fun q => absurd rfl q) (fun _ => ?_)
      refine go_aload_n (z := 5) dL_isAhead_4 rfl rfl ?_
      refine go_iload_n (z := 6) dL_isAhead_5 rfl rfl ?_
      refine go_callV (z := 9) (t := 5) [.int (wB b)] dL_isAhead_6 rfl mlX5_total vL_30 ⟨by decide, rfl⟩ okC rfl rfl (by decide) (cat_i cat_nil) (by simp) (by decide) (by first | decide | omega) (by first | decide | omega) (c_ceTot hL hC) ?_
      refine ret_elim ?_
      rw [tot_w, b2i_1 (show uDone b A.1 = true from t3)]
      refine go_iconst (z := 10) (v := 1) dL_isAhead_9 rfl (by decide) ?_
      refine go_icmp_ne (z := 17) (z2 := 13) dL_isAhead_10 rfl (by decide) (fun q => absurd rfl q) (fun _ => ?_)
      refine go_iconst (z := 14) (v := 1) dL_isAhead_13 rfl (by decide) ?_
      refine go_goto (z := 18) dL_isAhead_14 (by decide) ?_
      exact go_zret dL_isAhead_18 rfl (congrArg Value.int (by decide)) ⟨rfl, rfl, OutC.rf, A, rfl, rfl, h⟩
    · have c65 : ∀ c, 1 ≤ c → c ≤ 100 → c ≤ t → (c = t ∨ c = 100) → Go l G mL_isAhead 7 0 0 65 [some (.ref C), some (.int (wB b)), some (.int (nI t)), none, none] [.int (nI c)] n i r (AQ 1 G n C E Gd K A i r) := by
        intro c c1 c2 c3 c4
        refine go_istore_n (z := 66) dL_isAhead_65 rfl (by decide) ?_
        refine go_aload_n (z := 67) dL_isAhead_66 rfl rfl ?_
        refine go_iload_n (z := 68) dL_isAhead_67 rfl rfl ?_
        refine go_callV (z := 71) (t := 5) [.int (wB b)] dL_isAhead_68 rfl mlX5_total vL_30 ⟨by decide, rfl⟩ okC rfl rfl (by decide) (cat_i cat_nil) (by simp) (by decide) (by first | decide | omega) (by first | decide | omega) (c_ceTot hL hC) ?_
        refine ret_elim ?_
        rw [tot_w, b2i_0 (show ¬ uDone b A.1 = true from t4 0 (by omega))]
        refine go_if_ne (z := 134) (z2 := 74) dL_isAhead_71 rfl (by decide) (fun q => absurd rfl q) (fun _ => ?_)
        refine go_aload_n (z := 75) dL_isAhead_74 rfl rfl ?_
        refine go_iload_n (z := 76) dL_isAhead_75 rfl rfl ?_
        refine go_callV (z := 79) (t := 5) [.int (nI c)] dL_isAhead_76 rfl mlX5_pass vL_59 ⟨by decide, rfl⟩ okC rfl rfl (by decide) (cat_i cat_nil) (by simp) (by decide) (by first | decide | omega) (by first | decide | omega) (c_dsPass h hT hK c1 c2 (by omega)) ?_
        rintro v n1 i1 r1 ⟨p1, p2, ho1, h1⟩
        rw [p1, p2]
        have hL := h1.1
        have hC := h1.2.1
        refine go_if_lt (z := 134) (z2 := 82) dL_isAhead_79 rfl (by decide) (fun q => absurd q (nI_pos (by omega))) (fun _ => ?_)
        have c97 : ∀ v, b2i (uDone b (mTicks E c A.1)) = v → Go l G mL_isAhead 7 0 0 97 [some (.ref C), some (.int (wB b)), some (.int (nI t)), some (.int (nI c)), none] [.int v, .int (b2i (uDone b (mTicks E c A.1)))] n i1 r1 (AQ 1 G n C E Gd K A i r) := by
          intro v hv
          refine go_icmp_ne (z := 134) (z2 := 100) dL_isAhead_97 rfl (by decide) (fun q => absurd hv q) (fun _ => ?_)
          have hur : uRun E b 501 0 (mTicks E c A.1) = nI (t - c) := by
            refine uRun_of (by omega) ?_ (fun s hs => ?_)
            · rw [← ticks_add, show c + (t - c) = t by omega]
              exact t3
            · rw [← ticks_add]
              exact t4 _ (by omega)
          have c117 : ∀ i2 r2, OutC C i1 r1 i2 r2 → DS G n C E Gd K (aR A (mTicks E c A.1)) i2 r2 → Go l G mL_isAhead 7 0 0 117 [some (.ref C), some (.int (wB b)), some (.int (nI t)), some (.int (nI c)), none] [.int (nI (t - c))] n i2 r2 (AQ 1 G n C E Gd K A i r) := by
            intro i2 r2 ho2 h2
            refine go_iload_n (z := 118) dL_isAhead_117 rfl rfl ?_
            refine go_iload_n (z := 119) dL_isAhead_118 rfl rfl ?_
            refine go_isub (z := 120) dL_isAhead_119 rfl ?_
            refine go_icmp_ne (z := 134) (z2 := 123) dL_isAhead_120 rfl (by decide) (fun q => absurd (pk_sub c3).symm q) (fun _ => ?_)
            refine go_aload_n (z := 124) dL_isAhead_123 rfl rfl ?_
            refine go_callV (z := 127) (t := 5) [] dL_isAhead_124 rfl mlX5_undo vL_62 ⟨by decide, rfl⟩ okC rfl rfl (by decide) cat_nil (by simp) (by decide) (by first | decide | omega) (by first | decide | omega) (c_dsUndo h2 h.hl) ?_
            rintro v n3 i3 r3 ⟨x3, g3', p1, p2, ho3, A3, e1, e2, h3⟩
            rw [p1, p2]
            refine go_if_lt (z := 134) (z2 := 130) dL_isAhead_127 rfl (by decide) (fun q => absurd q (Int32.not_lt.mpr g3')) (fun _ => ?_)
            refine go_iconst (z := 131) (v := 1) dL_isAhead_130 rfl (by decide) ?_
            refine go_goto (z := 135) dL_isAhead_131 (by decide) ?_
            refine go_istore (z := 137) dL_isAhead_135 rfl (by decide) ?_
            refine go_iload (z := 139) dL_isAhead_137 rfl rfl ?_
            refine go_if_eq (z := 176) (z2 := 142) dL_isAhead_139 rfl (by decide) (fun q => absurd q (by decide)) (fun _ => ?_)
            have fin : ∀ i4 r4 A4, OutC C i r i4 r4 → A4.1 = A.1 → A4.2.2 = A.2.2 → DS G n C E Gd K A4 i4 r4 → Go l G mL_isAhead 7 0 0 172 [some (.ref C), some (.int (wB b)), some (.int (nI t)), some (.int (nI c)), some (.int 1)] [] n i4 r4 (AQ 1 G n C E Gd K A i r) := by
              intro i4 r4 A4 ho4 e3 e4 h4
              refine go_iconst (z := 173) (v := 1) dL_isAhead_172 rfl (by decide) ?_
              refine go_goto (z := 177) dL_isAhead_173 (by decide) ?_
              exact go_zret dL_isAhead_177 rfl (congrArg Value.int (by decide)) ⟨rfl, rfl, ho4, A4, e3, e4, h4⟩
            have hoT := (ho1.tr ho2).tr ho3
            refine go_iload_n (z := 143) dL_isAhead_142 rfl rfl ?_
            refine go_iconst (z := 144) (v := 1) dL_isAhead_143 rfl (by decide) ?_
            refine go_icmp_eq (z := 172) (z2 := 147) dL_isAhead_144 rfl (by decide) (fun _ => go_lo rfl (fin i3 r3 A3 hoT e1 e2 h3)) (fun q => ?_)
            have cc : 1 < c := by
              rcases Nat.lt_or_ge 1 c with w | w
              · exact w
              · have : c = 1 := by omega
                rw [this] at q
                exact absurd rfl q
            have hT3 : A3.1.1 0 = nI T := by rw [e1]; exact hT
            refine go_aload_n (z := 148) dL_isAhead_147 rfl rfl ?_
            refine go_iload_n (z := 149) dL_isAhead_148 rfl rfl ?_
            refine go_iconst (z := 150) (v := 1) dL_isAhead_149 rfl (by decide) ?_
            refine go_isub (z := 151) dL_isAhead_150 rfl ?_
            rw [show nI c - 1 = nI (c - 1) from pk_sub (b := 1) (by omega)]
            refine go_callV (z := 154) (t := 5) [.int (nI (c - 1))] dL_isAhead_151 rfl mlX5_pass vL_59 ⟨by decide, rfl⟩ okC rfl rfl (by decide) (cat_i cat_nil) (by simp) (by decide) (by first | decide | omega) (by first | decide | omega) (c_dsPass h3 hT3 hK (by omega) (by omega) (by omega)) ?_
            rintro v n4 i4 r4 ⟨p1, p2, ho4, h4⟩
            rw [p1, p2]
            have hL := h4.1
            have hC := h4.2.1
            refine go_if_lt (z := 176) (z2 := 157) dL_isAhead_154 rfl (by decide) (fun q => absurd q (nI_pos (by omega))) (fun _ => ?_)
            have hd4 : ¬ uDone b (aR A3 (mTicks E (c - 1) A3.1)).1 = true := by
              show ¬ uDone b (mTicks E (c - 1) A3.1) = true
              rw [e1]
              exact t4 _ (by omega)
            refine go_aload_n (z := 158) dL_isAhead_157 rfl rfl ?_
            refine go_iload_n (z := 159) dL_isAhead_158 rfl rfl ?_
            refine go_callV (z := 162) (t := 5) [.int (wB b)] dL_isAhead_159 rfl mlX5_total vL_30 ⟨by decide, rfl⟩ okC rfl rfl (by decide) (cat_i cat_nil) (by simp) (by decide) (by first | decide | omega) (by first | decide | omega) (c_ceTot hL hC) ?_
            refine ret_elim ?_
            rw [tot_w, b2i_0 hd4]
            refine go_if_ne (z := 176) (z2 := 165) dL_isAhead_162 rfl (by decide) (fun q => absurd rfl q) (fun _ => ?_)
            refine go_aload_n (z := 166) dL_isAhead_165 rfl rfl ?_
            refine go_callV (z := 169) (t := 5) [] dL_isAhead_166 rfl mlX5_undo vL_62 ⟨by decide, rfl⟩ okC rfl rfl (by decide) cat_nil (by simp) (by decide) (by first | decide | omega) (by first | decide | omega) (c_dsUndo h4 h3.hl) ?_
            rintro v n5 i5 r5 ⟨x5, g5, p1, p2, ho5, A5, e3, e4, h5⟩
            rw [p1, p2]
            refine go_if_lt (z := 176) (z2 := 172) dL_isAhead_169 rfl (by decide) (fun q => absurd q (Int32.not_lt.mpr g5)) (fun _ => ?_)
            exact go_lo rfl (fin i5 r5 A5 ((hoT.tr ho4).tr ho5) (e3.trans e1) (e4.trans e2) h5)
          cases b with
          | true =>
            refine go_iload_n (z := 101) dL_isAhead_100 rfl rfl ?_
            refine go_bipush (z := 103) (v := 11) dL_isAhead_101 rfl (by decide) ?_
            refine go_icmp_ne (z := 113) (z2 := 106) dL_isAhead_103 rfl (by decide) (fun q => absurd rfl q) (fun _ => ?_)
            refine go_aload_n (z := 107) dL_isAhead_106 rfl rfl ?_
            refine go_callV (z := 110) (t := 5) [] dL_isAhead_107 rfl mlX5_quietIn vL_65 ⟨by decide, rfl⟩ okC rfl rfl (by decide) cat_nil (by simp) (by decide) (by first | decide | omega) (by first | decide | omega) (c_dsQuiet h1) ?_
            rintro v n2 i2 r2 ⟨p1, p2, ho2, h2⟩
            rw [p1, p2, show (aR A (mTicks E c A.1)).1 = mTicks E c A.1 from rfl, hur]
            refine go_goto (z := 117) dL_isAhead_110 (by decide) ?_
            exact c117 i2 r2 ho2 h2
          | false =>
            refine go_iload_n (z := 101) dL_isAhead_100 rfl rfl ?_
            refine go_bipush (z := 103) (v := 11) dL_isAhead_101 rfl (by decide) ?_
            refine go_icmp_ne (z := 113) (z2 := 106) dL_isAhead_103 rfl (by decide) (fun _ => ?_) (fun q => absurd q (by decide))
            refine go_aload_n (z := 114) dL_isAhead_113 rfl rfl ?_
            refine go_callV (z := 117) (t := 5) [] dL_isAhead_114 rfl mlX5_idleIn vL_68 ⟨by decide, rfl⟩ okC rfl rfl (by decide) cat_nil (by simp) (by decide) (by first | decide | omega) (by first | decide | omega) (c_dsIdle h1) ?_
            rintro v n2 i2 r2 ⟨p1, p2, ho2, h2⟩
            rw [p1, p2, show (aR A (mTicks E c A.1)).1 = mTicks E c A.1 from rfl, hur]
            exact c117 i2 r2 ho2 h2
        refine go_aload_n (z := 83) dL_isAhead_82 rfl rfl ?_
        refine go_iload_n (z := 84) dL_isAhead_83 rfl rfl ?_
        refine go_callV (z := 87) (t := 5) [.int (wB b)] dL_isAhead_84 rfl mlX5_total vL_30 ⟨by decide, rfl⟩ okC rfl rfl (by decide) (cat_i cat_nil) (by simp) (by decide) (by first | decide | omega) (by first | decide | omega) (c_ceTot hL hC) ?_
        refine ret_elim ?_
        rw [tot_w, show (aR A (mTicks E c A.1)).1 = mTicks E c A.1 from rfl]
        refine go_iload_n (z := 88) dL_isAhead_87 rfl rfl ?_
        refine go_iload_n (z := 89) dL_isAhead_88 rfl rfl ?_
        refine go_icmp_ne (z := 96) (z2 := 92) dL_isAhead_89 rfl (by decide) (fun q => ?_) (fun q => ?_)
        · refine go_iconst (z := 97) (v := 0) dL_isAhead_96 rfl (by decide) ?_
          refine go_lo rfl (c97 0 (b2i_0 (t4 c ?_)))
          rcases Nat.lt_or_ge c t with w | w
          · exact w
          · exact absurd (congrArg nI (show c = t by omega)) q
        · refine go_iconst (z := 93) (v := 1) dL_isAhead_92 rfl (by decide) ?_
          refine go_goto (z := 97) dL_isAhead_93 (by decide) ?_
          refine go_lo rfl (c97 1 (b2i_1 ?_))
          rw [(nI_eq (by omega) (by omega)).mp q]
          exact t3
      refine go_iload_n (z := 1) dL_isAhead_0 rfl rfl ?_
      refine go_if_ne (z := 19) (z2 := 4) dL_isAhead_1 rfl (by decide) (fun _ => ?_) (fun q => absurd q (nI_ne0 (by omega) (by omega)))
      refine go_iload_n (z := 20) dL_isAhead_19 rfl rfl ?_
      refine go_if_ge (z := 53) (z2 := 23) dL_isAhead_20 rfl (by decide) (fun _ => ?_) (fun q => absurd (nI_pos' (by omega)) q)
      refine go_iload_n (z := 54) dL_isAhead_53 rfl rfl ?_
      refine go_bipush (z := 56) (v := 100) dL_isAhead_54 rfl (by decide) ?_
      refine go_icmp_le (z := 64) (z2 := 59) dL_isAhead_56 rfl (by decide) (fun q => ?_) (fun q => ?_)
      · refine go_iload_n (z := 65) dL_isAhead_64 rfl rfl ?_
        have q2 : t ≤ 100 := (nI_leI (b := 100) (by omega) (by omega)).mp q
        exact go_lo rfl (c65 t (by omega) q2 (Nat.le_refl _) (Or.inl rfl))
      · refine go_bipush (z := 61) (v := 100) dL_isAhead_59 rfl (by decide) ?_
        refine go_goto (z := 65) dL_isAhead_61 (by decide) ?_
        have q2 : ¬ t ≤ 100 := fun c => q ((nI_leI (b := 100) (by omega) (by omega)).mpr c)
        exact go_lo rfl (c65 100 (by omega) (Nat.le_refl _) (by omega) (Or.inr rfl))
  · rw [t1]
    refine go_iload_n (z := 1) dL_isAhead_0 rfl rfl ?_
    refine go_if_ne (z := 19) (z2 := 4) dL_isAhead_1 rfl (by decide) (fun _ => ?_) (fun q => absurd q (by decide))
    refine go_iload_n (z := 20) dL_isAhead_19 rfl rfl ?_
    refine go_if_ge (z := 53) (z2 := 23) dL_isAhead_20 rfl (by decide) (fun q => absurd q (by decide)) (fun _ => ?_)
    obtain ⟨c, hc⟩ : ∃ c : Nat, c = 100 := ⟨_, rfl⟩
    refine go_aload_n (z := 24) dL_isAhead_23 rfl rfl ?_
    refine go_bipush (z := 26) (v := 100) dL_isAhead_24 rfl (by decide) ?_
    rw [show (100 : Int32) = nI c by rw [hc]; rfl]
    refine go_callV (z := 29) (t := 5) [.int (nI c)] dL_isAhead_26 rfl mlX5_pass vL_59 ⟨by decide, rfl⟩ okC rfl rfl (by decide) (cat_i cat_nil) (by simp) (by decide) (by first | decide | omega) (by first | decide | omega) (c_dsPass h hT hK (by omega) (by omega) (by omega)) ?_
    rintro v n1 i1 r1 ⟨p1, p2, ho1, h1⟩
    rw [p1, p2]
    have hL := h1.1
    have hC := h1.2.1
    refine go_if_lt (z := 51) (z2 := 32) dL_isAhead_29 rfl (by decide) (fun q => absurd q (nI_pos (by omega))) (fun _ => ?_)
    have hd4 : ¬ uDone b (aR A (mTicks E c A.1)).1 = true := t2 c (by omega)
    refine go_aload_n (z := 33) dL_isAhead_32 rfl rfl ?_
    refine go_iload_n (z := 34) dL_isAhead_33 rfl rfl ?_
    refine go_callV (z := 37) (t := 5) [.int (wB b)] dL_isAhead_34 rfl mlX5_total vL_30 ⟨by decide, rfl⟩ okC rfl rfl (by decide) (cat_i cat_nil) (by simp) (by decide) (by first | decide | omega) (by first | decide | omega) (c_ceTot hL hC) ?_
    refine ret_elim ?_
    rw [tot_w, b2i_0 hd4]
    refine go_if_ne (z := 51) (z2 := 40) dL_isAhead_37 rfl (by decide) (fun q => absurd rfl q) (fun _ => ?_)
    refine go_aload_n (z := 41) dL_isAhead_40 rfl rfl ?_
    refine go_callV (z := 44) (t := 5) [] dL_isAhead_41 rfl mlX5_undo vL_62 ⟨by decide, rfl⟩ okC rfl rfl (by decide) cat_nil (by simp) (by decide) (by first | decide | omega) (by first | decide | omega) (c_dsUndo h1 h.hl) ?_
    rintro v n3 i3 r3 ⟨x3, g3', p1, p2, ho3, A3, e1, e2, h3⟩
    rw [p1, p2]
    refine go_if_lt (z := 51) (z2 := 47) dL_isAhead_44 rfl (by decide) (fun q => absurd q (Int32.not_lt.mpr g3')) (fun _ => ?_)
    refine go_iconst (z := 48) (v := 1) dL_isAhead_47 rfl (by decide) ?_
    refine go_goto (z := 52) dL_isAhead_48 (by decide) ?_
    exact go_zret dL_isAhead_52 rfl (congrArg Value.int (by decide)) ⟨rfl, rfl, ho1.tr ho3, A3, e1, e2, h3⟩
end PAHEAD
