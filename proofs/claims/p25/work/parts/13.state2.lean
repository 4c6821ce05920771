theorem Rep.putQ {S : Nat} {m : MS} {i i' : IP} {r r' : RP} (hR : Rep S m i r) {h : Nat} (hh : h < 6) {q : List Nat} (hl : q.length ≤ 80) (hi : i' = ups i (S + 4 + 2 * h) 3 (nI q.length)) (hr : ∀ a, a ≠ S + 5 + 2 * h → r' a = r a) (hq : ∀ c a, q[c]? = some a → r' (S + 5 + 2 * h) c = some a) : Rep S (sQ m h q) i' r' := by
  subst hi
  obtain ⟨h1, h2, h3, h4, h5, mx, h6, h7⟩ := hR
  refine ⟨⟨?_, ?_, ?_, fun c hc => ⟨?_, ?_⟩⟩, fun k hk => ?_, fun k hk => ?_, fun c hc f hf => ?_, fun c hc => ?_, mx, ⟨fun j hj => ⟨?_, (h6.1 j hj).2⟩, h6.2⟩, h7.1, ?_, fun j x hx => ?_⟩
  · rw [hr S (by omega)]; exact h1.1
  · rw [hr S (by omega)]; exact h1.2.1
  · rw [hr S (by omega)]; exact h1.2.2.1
  · rw [hr _ (by omega)]; exact (h1.2.2.2 c hc).1
  · rw [hr _ (by omega)]; exact (h1.2.2.2 c hc).2
  · rw [ups_a (by omega)]; exact h2 k hk
  · rw [ups_a (by omega)]; exact h3 k hk
  · by_cases e : c = h
    · subst e
      by_cases e2 : f = 3
      · subst e2; rw [ups_s]; exact ups_s.symm
      · rw [ups_k e2]; exact (h4 c hc f hf).trans (ups_k e2).symm
    · rw [ups_a (by omega)]; exact (h4 c hc f hf).trans (ups_a e).symm
  · by_cases e : c = h
    · subst e
      refine ⟨ups_s.trans ?_, ?_, ?_⟩
      · show nI q.length = nI (up1 m.2.2.2.1 c q c).length
        rw [up1_s]
      · show (up1 m.2.2.2.1 c q c).length ≤ 80
        rw [up1_s]; exact hl
      · intro c2 a ha
        have ha : (up1 m.2.2.2.1 c q c)[c2]? = some a := ha
        rw [up1_s] at ha
        exact hq c2 a ha
    · refine ⟨?_, ?_, ?_⟩
      · show ups m.2.2.1 h 3 _ c 3 = nI (up1 m.2.2.2.1 h q c).length
        rw [ups_a e, up1_n e]; exact (h5 c hc).1
      · show (up1 m.2.2.2.1 h q c).length ≤ 80
        rw [up1_n e]; exact (h5 c hc).2.1
      · intro c2 a ha
        have ha : (up1 m.2.2.2.1 h q c)[c2]? = some a := ha
        rw [up1_n e] at ha
        rw [hr _ (by omega)]; exact (h5 c hc).2.2 c2 a ha
  · rw [hr _ (by omega)]; exact (h6.1 j hj).1
  · rw [ups_a (by omega)]; exact h7.2.1
  · have hx : m.2.2.2.2[j]? = some x := hx
    have hj : j < 141 := by
      have := (List.getElem?_eq_some_iff.mp hx).1
      have := h7.1
      omega
    obtain ⟨-, g1, g2⟩ := h6.1 j hj
    exact ⟨fun f hf => by rw [ups_a (by omega)]; exact (h7.2.2 j x hx).1 f hf, by rw [hr _ (by omega)]; exact (h7.2.2 j x hx).2⟩
theorem StL.not0 {G : GG} {n S a : Nat} (hL : StL G n S) (ha : Ok G n a 0) : a < S ∨ S + 157 ≤ a := by
  rcases Nat.lt_or_ge a S with h | h
  · exact Or.inl h
  · rcases Nat.lt_or_ge a (S + 157) with h2 | h2
    · exfalso
      have ht := ha.2.2
      by_cases e0 : a = S
      · rw [e0, hL.s.2.2] at ht; omega
      by_cases e1 : a = S + 1
      · rw [e1, hL.w.ok.2.2] at ht; omega
      by_cases e2 : a = S + 2
      · rw [e2, hL.hs.ok.2.2] at ht; omega
      by_cases e3 : a = S + 3
      · rw [e3, hL.ms.ok.2.2] at ht; omega
      by_cases e4 : a < S + 16
      · obtain ⟨q, hq, e5⟩ : ∃ q, q < 6 ∧ (a = S + 4 + 2 * q ∨ a = S + 5 + 2 * q) := ⟨(a - S - 4) / 2, by omega, by omega⟩
        rcases e5 with e5 | e5
        · rw [e5, (hL.ho hq).2.2] at ht; omega
        · rw [e5, (hL.li hq).ok.2.2] at ht; omega
      · rw [(hL.me (by omega) h2).2.2] at ht; omega
    · exact Or.inr h2
theorem Kid.same {r r' : RP} {q : List Nat} {o : Option Nat} (h : Kid r o q) (hs : ∀ b ∈ q, r' b = r b) : Kid r' o q := by
  induction q generalizing o with
  | nil => exact h
  | cons b q ih =>
    obtain ⟨h1, h2⟩ := h
    refine ⟨h1, ?_⟩
    rw [hs b List.mem_cons_self]
    exact ih h2 (fun c hc => hs c (List.mem_cons_of_mem _ hc))
theorem RepE.same {G : GG} {n : Nat} {E : EE} {Gd : Nat → Prop} {i i' : IP} {r r' : RP} (h : RepE G n E Gd i r) (hs : ∀ a, Gd a → i' a = i a ∧ r' a = r a) : RepE G n E Gd i' r' := by
  intro a ha
  obtain ⟨g1, g2, g3, g4, g5, g6, g7, g8, g9⟩ := h a ha
  refine ⟨g1, g2, ?_, ?_, ?_, ?_, ?_, g8, g9⟩
  · rw [(hs a ha).1]; exact g3
  · rw [(hs a ha).1]; exact g4
  · rw [(hs a ha).1]; exact g5
  · rw [(hs a ha).1]; exact g6
  · rw [(hs a ha).2]; exact g7.same (fun b hb => (hs b (g8 b hb).1).2)
theorem RepE.out {G : GG} {n S : Nat} {E : EE} {Gd : Nat → Prop} {i i' : IP} {r r' : RP} (h : RepE G n E Gd i r) (hL : StL G n S) (ho : Out S i r i' r') : RepE G n E Gd i' r' := h.same (fun a ha => ho a (hL.not0 (h a ha).1))
/-- a message in order -/
def MgOk (Gd : Nat → Prop) (x : Mg) : Prop := ∃ f t : Nat, f < 7 ∧ t < 7 ∧ x.1 1 = nI f ∧ x.1 2 = nI t ∧ ((x.1 0 = 0 ∧ t < 6 ∧ ∃ a, x.2 = some a ∧ Gd a) ∨ (x.1 0 = 1 ∧ f < 6 ∧ x.2 = none) ∨ (x.1 0 = 2 ∧ t < 6 ∧ x.2 = none) ∨ (x.1 0 = 3 ∧ f < 6 ∧ x.2 = none))
section STATE2
variable {l : Launch} {G : GG} {n : Nat} {i : IP} {r : RP} {S : Nat} {m : MS} {E : EE} {Gd : Nat → Prop}
theorem c_house1 {h : Nat} (hh : h < 6) : Go l G mX5_isHouse 0 0 0 0 (lentry [.int (nI h)] 1) [] n i r (RetI 1 n i r) := by
  have := c_isHouse (l := l) (G := G) (n := n) (i := i) (r := r) (nI h)
  have h6 : nI h < 6 := nI_lt (b := 6) hh (by omega)
  rw [decide_eq_true (nI_pos' (show h < 2 ^ 31 by omega)), decide_eq_true h6] at this
  exact this
theorem c_isOn {k : Nat} (hL : StL G n S) (hR : Rep S m i r) {x : Int32} : Go l G mX4_isOnItsWay 0 0 0 0 (lentry [.ref S, .int x] 2) [] n i r (RetI (if 0 ≤ x ∧ x < nI m.2.2.2.2.length then 1 else 0) n i r) := by
  obtain ⟨h1, h2, h3, h4, h5, mx, hX, hlen, h6, hM⟩ := hR
  have hs := hL.s
  have hmm := hL.ms
  have e5 := h1.2.2.1
  refine go_iload_n (z := 1) dX4_isOnItsWay_0 rfl rfl ?_
  refine go_if_lt (z := 25) (z2 := 4) dX4_isOnItsWay_1 rfl (by decide) (fun h => ?_) (fun h => ?_)
  · rw [if_neg (fun q => absurd h (Int32.not_lt.mpr q.1))]
    refine go_iconst (z := 26) (v := 0) dX4_isOnItsWay_25 rfl (by decide) ?_
    refine go_zret dX4_isOnItsWay_26 rfl (congrArg Value.int (by decide)) ?_
    exact ret_ok
  · refine go_iload_n (z := 5) dX4_isOnItsWay_4 rfl rfl ?_
    refine go_aload_n (z := 6) dX4_isOnItsWay_5 rfl rfl ?_
    refine go_getI (z := 9) dX4_isOnItsWay_6 rfl fX4_51 (by assumption) rfl ?_
    refine go_icmp_ge (z := 25) (z2 := 12) dX4_isOnItsWay_9 rfl (by decide) (fun h2 => ?_) (fun h2 => ?_)
    · rw [h6] at h2
      rw [if_neg (fun q => absurd q.2 (Int32.not_lt.mpr h2))]
      refine go_iconst (z := 26) (v := 0) dX4_isOnItsWay_25 rfl (by decide) ?_
      refine go_zret dX4_isOnItsWay_26 rfl (congrArg Value.int (by decide)) ?_
      exact ret_ok
    · rw [h6] at h2
      refine go_iload_n (z := 13) dX4_isOnItsWay_12 rfl rfl ?_
      refine go_aload_n (z := 14) dX4_isOnItsWay_13 rfl rfl ?_
      refine go_getR (z := 17) dX4_isOnItsWay_14 rfl fX4_30 (by assumption) rfl (by assumption) ?_
      refine go_alen (z := 18) (by assumption) (by decide) dX4_isOnItsWay_17 rfl ?_
      refine go_icmp_ge (z := 25) (z2 := 21) dX4_isOnItsWay_18 rfl (by decide) (fun h3 => ?_) (fun h3 => ?_)
      · exact absurd (Int32.le_trans (nI_le hlen (by omega)) h3) h2
      · rw [if_pos ⟨Int32.not_lt.mp h, Int32.not_le.mp h2⟩]
        refine go_iconst (z := 22) (v := 1) dX4_isOnItsWay_21 rfl (by decide) ?_
        refine go_goto (z := 26) dX4_isOnItsWay_22 (by decide) ?_
        refine go_zret dX4_isOnItsWay_26 rfl (congrArg Value.int (by decide)) ?_
        exact ret_ok
theorem c_isOn1 {k : Nat} (hL : StL G n S) (hR : Rep S m i r) (hk : k < m.2.2.2.2.length) : Go l G mX4_isOnItsWay 0 0 0 0 (lentry [.ref S, .int (nI k)] 2) [] n i r (RetI 1 n i r) := by
  have := c_isOn (k := 0) (l := l) hL hR (x := nI k)
  obtain ⟨-, -, -, -, -, -, -, hlen, -⟩ := hR
  rw [if_pos ⟨nI_pos' (by omega), nI_lt hk (by omega)⟩] at this
  exact this
theorem c_takeOut {k : Nat} (hL : StL G n S) (hR : Rep S m i r) (hk : k < m.2.2.2.2.length) : Go l G mX4_takeOut 1 0 0 0 (lentry [.ref S, .int (nI k)] 4) [] n i r (Chg n S i r (mOut k m)) := by
  have hR0 := hR
  have hon := c_isOn1 (l := l) hL hR hk
  obtain ⟨h1, h2, h3, h4, h5, mx, hX, hlen, h6, hM⟩ := hR
  have hms0 : ∃ ms, ms = m.2.2.2.2 := ⟨_, rfl⟩
  obtain ⟨ms, hms⟩ := hms0
  rw [← hms] at hk hlen h6 hM
  have hs := hL.s
  have hmm := hL.ms
  have e5 := h1.2.2.1
  refine go_aload_n (z := 1) dX4_takeOut_0 rfl rfl ?_
  refine go_iload_n (z := 2) dX4_takeOut_1 rfl rfl ?_
  refine go_callV (z := 5) (t := 4) [.int (nI k)] dX4_takeOut_2 rfl mlX4_isOnItsWay vX4_54 ⟨by decide, rfl⟩ (by assumption) rfl rfl (by decide) (cat_i cat_nil) (by simp) (by decide) (by first | decide | omega) (by first | decide | omega) (hon) ?_
  refine ret_elim ?_
  refine go_if_ne (z := 9) (z2 := 8) dX4_takeOut_5 rfl (by decide) (fun _ => ?_) (fun h => absurd h (by decide))
  have hxk := hX.1 k (by omega)
  have hrk := hxk.1
  refine go_aload_n (z := 10) dX4_takeOut_9 rfl rfl ?_
  refine go_getR (z := 13) dX4_takeOut_10 rfl fX4_30 (by assumption) rfl (by assumption) ?_
  refine go_iload_n (z := 14) dX4_takeOut_13 rfl rfl ?_
  refine go_aaldR (z := 15) k (by assumption) ⟨by decide, by decide⟩ (by decide) rfl (by omega) (by assumption) dX4_takeOut_14 rfl ?_
  refine go_astore_n (z := 16) dX4_takeOut_15 rfl (by decide) ?_
  refine go_iload_n (z := 17) dX4_takeOut_16 rfl rfl ?_
  refine go_istore_n (z := 18) dX4_takeOut_17 rfl (by decide) ?_
  have loop : ∀ d c (r2 : RP), c + 1 + d = ms.length → k ≤ c → (∀ a, a ≠ S + 3 → r2 a = r a) → (∀ j, j < k → r2 (S + 3) j = r (S + 3) j) → (∀ j, k ≤ j → j < c → r2 (S + 3) j = r (S + 3) (j + 1)) → (∀ j, c ≤ j → r2 (S + 3) j = r (S + 3) j) → Go l G mX4_takeOut 1 0 0 18 [some (.ref S), some (.int (nI k)), some (.ref (mx k)), some (.int (nI c))] [] n i r2 (Chg n S i r (mOut k m)) := by
    intro d
    induction d with
    | zero =>
      intro c r2 hc hkc g1 g2 g3 g4
      have e5' : r2 S 5 = some (S + 3) := by rw [g1 S (by omega)]; exact e5
      refine go_iload_n (z := 19) dX4_takeOut_18 rfl rfl ?_
      refine go_iconst (z := 20) (v := 1) dX4_takeOut_19 rfl (by decide) ?_
      refine go_iadd (z := 21) dX4_takeOut_20 rfl ?_
      refine go_aload_n (z := 22) dX4_takeOut_21 rfl rfl ?_
      refine go_getI (z := 25) dX4_takeOut_22 rfl fX4_51 (by assumption) rfl ?_
      refine go_icmp_ge (z := 59) (z2 := 28) dX4_takeOut_25 rfl (by decide) (fun _ => ?_) (fun h => ?_)
      · have hcl : c = ms.length - 1 := by omega
        subst hcl
        have hlast : ups i S 6 (nI (ms.length - 1)) S 6 = nI (ms.length - 1) := ups_s
        have key := Rep.reM (i' := ups i S 6 (nI (ms.length - 1))) (r' := ups r2 (S + 3) (ms.length - 1) (some (mx k))) hR0 hX (fun j => if j < k then j else if j + 1 < ms.length then j + 1 else if j + 1 = ms.length then k else j) (ms.eraseIdx k) (fun j hj => by split <;> (try split) <;> (try split) <;> omega) (fun a b ha hb hab => by split at hab <;> split at hab <;> (try split at hab) <;> (try split at hab) <;> (try split at hab) <;> (try split at hab) <;> omega) ?_ ?_ ?_ ?_ ?_ ?_
        · refine go_aload_n (z := 60) dX4_takeOut_59 rfl rfl ?_
          refine go_getR (z := 63) dX4_takeOut_60 rfl fX4_30 (by assumption) rfl (by assumption) ?_
          refine go_iload_n (z := 64) dX4_takeOut_63 rfl rfl ?_
          refine go_aload_n (z := 65) dX4_takeOut_64 rfl rfl ?_
          refine go_aastR (z := 66) (ms.length - 1) (by assumption) ⟨by decide, by decide⟩ (by decide) rfl (by omega) (hL.me hxk.2.1 hxk.2.2) (by decide) rfl dX4_takeOut_65 rfl ?_
          refine go_aload_n (z := 67) dX4_takeOut_66 rfl rfl ?_
          refine go_iload_n (z := 68) dX4_takeOut_67 rfl rfl ?_
          refine go_putI (z := 71) dX4_takeOut_68 rfl fX4_51 (by assumption) rfl (Or.inl rfl) rfl ?_
          refine go_vret dX4_takeOut_71 rfl ⟨rfl, rfl, ?_, key.2⟩
          have hm : mOut k m = sM m (ms.eraseIdx k) := by unfold mOut; rw [← hms]
          rw [hm]
          exact key.1
        · intro j hj
          by_cases a1 : j = ms.length - 1
          · subst a1
            rw [ups_s, if_neg (by omega), if_neg (by omega), if_pos (by omega)]
          · rw [ups_k a1]
            by_cases a2 : j < k
            · rw [if_pos a2, g2 j a2]; exact (hX.1 j hj).1
            · rw [if_neg a2]
              by_cases a3 : j + 1 < ms.length
              · rw [if_pos a3, g3 j (by omega) (by omega)]; exact (hX.1 _ (by omega)).1
              · rw [if_neg a3, if_neg (by omega), g4 j (by omega)]; exact (hX.1 j hj).1
        · intro a ha ha2
          rw [ups_row ha2, g1 a ha2]
        · intro a q ha hac
          by_cases a1 : a = S
          · subst a1
            rw [ups_k (fun q => hac ⟨rfl, q⟩)]
          · rw [ups_a a1]
        · rw [hlast, List.length_eraseIdx_of_lt hk]
        · rw [List.length_eraseIdx_of_lt hk]; omega
        · intro j x hx
          rw [List.getElem?_eraseIdx] at hx
          have old : ∀ q, q < ms.length → ms[q]? = some x → (∀ f, f < 5 → ups i S 6 (nI (ms.length - 1)) (mx q) f = x.1 f) ∧ ups r2 (S + 3) (ms.length - 1) (some (mx k)) (mx q) 5 = x.2 := by
            intro q hq hqx
            have hb := hX.1 q (by omega)
            exact ⟨fun f hf => by rw [ups_a (by omega)]; exact (hM q x hqx).1 f hf, by rw [ups_a (by omega), g1 _ (by omega)]; exact (hM q x hqx).2⟩
          by_cases a2 : j < k
          · rw [if_pos a2] at hx ⊢
            exact old j (by omega) hx
          · rw [if_neg a2] at hx ⊢
            have hj1 : j + 1 < ms.length := (List.getElem?_eq_some_iff.mp hx).1
            rw [if_pos hj1]
            exact old (j + 1) hj1 hx
      · exact absurd (by rw [h6, nI_1]; exact nI_le (by omega) (by omega)) h
    | succ d ih =>
      intro c r2 hc hkc g1 g2 g3 g4
      have e5' : r2 S 5 = some (S + 3) := by rw [g1 S (by omega)]; exact e5
      have hxc := hX.1 (c + 1) (by omega)
      have hrc : r2 (S + 3) (c + 1) = some (mx (c + 1)) := by rw [g4 _ (by omega)]; exact hxc.1
      have hMc := hL.me hxc.2.1 hxc.2.2
      refine go_iload_n (z := 19) dX4_takeOut_18 rfl rfl ?_
      refine go_iconst (z := 20) (v := 1) dX4_takeOut_19 rfl (by decide) ?_
      refine go_iadd (z := 21) dX4_takeOut_20 rfl ?_
      refine go_aload_n (z := 22) dX4_takeOut_21 rfl rfl ?_
      refine go_getI (z := 25) dX4_takeOut_22 rfl fX4_51 (by assumption) rfl ?_
      refine go_icmp_ge (z := 59) (z2 := 28) dX4_takeOut_25 rfl (by decide) (fun h => ?_) (fun _ => ?_)
      · exact absurd h (by rw [h6, nI_1]; exact nI_ge (by omega) (by omega))
      · refine go_iload_n (z := 29) dX4_takeOut_28 rfl rfl ?_
        refine go_iconst (z := 30) (v := 1) dX4_takeOut_29 rfl (by decide) ?_
        refine go_iadd (z := 31) dX4_takeOut_30 rfl ?_
        refine go_aload_n (z := 32) dX4_takeOut_31 rfl rfl ?_
        refine go_getR (z := 35) dX4_takeOut_32 rfl fX4_30 (by assumption) rfl (by assumption) ?_
        refine go_alen (z := 36) (by assumption) (by decide) dX4_takeOut_35 rfl ?_
        refine go_icmp_ge (z := 59) (z2 := 39) dX4_takeOut_36 rfl (by decide) (fun h => absurd h (by rw [nI_1]; exact nI_ge (by omega) (by omega))) (fun _ => ?_)
        refine go_aload_n (z := 40) dX4_takeOut_39 rfl rfl ?_
        refine go_getR (z := 43) dX4_takeOut_40 rfl fX4_30 (by assumption) rfl (by assumption) ?_
        refine go_iload_n (z := 44) dX4_takeOut_43 rfl rfl ?_
        refine go_aload_n (z := 45) dX4_takeOut_44 rfl rfl ?_
        refine go_getR (z := 48) dX4_takeOut_45 rfl fX4_30 (by assumption) rfl (by assumption) ?_
        refine go_iload_n (z := 49) dX4_takeOut_48 rfl rfl ?_
        refine go_iconst (z := 50) (v := 1) dX4_takeOut_49 rfl (by decide) ?_
        refine go_iadd (z := 51) dX4_takeOut_50 rfl ?_
        refine go_aaldR (z := 52) (c + 1) (by assumption) ⟨by decide, by decide⟩ (by decide) (nI_1 c) (by omega) (by assumption) dX4_takeOut_51 rfl ?_
        refine go_aastR (z := 53) _ (by assumption) ⟨by decide, by decide⟩ (by decide) rfl (by omega) hMc (by decide) rfl dX4_takeOut_52 rfl ?_
        refine go_iinc (z := 56) dX4_takeOut_53 rfl rfl (nI_1 c) (by decide) ?_
        refine go_goto (z := 18) dX4_takeOut_56 (by decide) ?_
        refine go_lo (lo' := [some (.ref S), some (.int (nI k)), some (.ref (mx k)), some (.int (nI (c + 1)))]) rfl (ih (c + 1) _ (by omega) (by omega) (fun a ha => (ups_row ha).trans (g1 a ha)) (fun j hj => (ups_k (by omega)).trans (g2 j hj)) (fun j hj1 hj2 => ?_) (fun j hj => (ups_k (by omega)).trans (g4 j (by omega))))
        by_cases a1 : j = c
        · subst a1; rw [ups_s]; exact hxc.1.symm
        · exact (ups_k a1).trans (g3 j hj1 (by omega))
  exact go_lo (lo' := [some (.ref S), some (.int (nI k)), some (.ref (mx k)), some (.int (nI k))]) rfl (loop (ms.length - 1 - k) k r (by omega) (Nat.le_refl _) (fun _ _ => rfl) (fun _ _ => rfl) (fun j a b => absurd b (by omega)) (fun _ _ => rfl))
theorem c_mint (hL : StL G n S) (hR : Rep S m i r) : Go l G mX4_mint 0 0 0 0 (lentry [.ref S] 2) [] n i r (ChgI (coin m) n S i r (mMint m)) := by
  have hs := hL.s
  have hz1 : i S 1 = m.1 1 := hR.2.1 1 (by omega)
  have hz7 : i S 7 = m.1 7 := hR.2.1 7 (by omega)
  have hz11 : i S 11 = m.1 11 := hR.2.1 11 (by omega)
  refine go_iconst (z := 1) (v := 1) dX4_mint_0 rfl (by decide) ?_
  refine go_aload_n (z := 2) dX4_mint_1 rfl rfl ?_
  refine go_getI (z := 5) dX4_mint_2 rfl fX4_9 (by assumption) rfl ?_
  refine go_ishl (z := 6) dX4_mint_5 rfl rfl ?_
  refine go_istore_n (z := 7) dX4_mint_6 rfl (by decide) ?_
  refine go_aload_n (z := 8) dX4_mint_7 rfl rfl ?_
  refine go_dup (z := 9) dX4_mint_8 rfl rfl ?_
  refine go_getI (z := 12) dX4_mint_9 rfl fX4_61 (by assumption) rfl ?_
  refine go_iload_n (z := 13) dX4_mint_12 rfl rfl ?_
  refine go_iadd (z := 14) dX4_mint_13 rfl ?_
  refine go_putI (z := 17) dX4_mint_14 rfl fX4_61 (by assumption) rfl (Or.inl rfl) rfl ?_
  refine go_aload_n (z := 18) dX4_mint_17 rfl rfl ?_
  refine go_dup (z := 19) dX4_mint_18 rfl rfl ?_
  refine go_getI (z := 22) dX4_mint_19 rfl fX4_73 (by assumption) rfl ?_
  refine go_iconst (z := 23) (v := 1) dX4_mint_22 rfl (by decide) ?_
  refine go_iadd (z := 24) dX4_mint_23 rfl ?_
  refine go_putI (z := 27) dX4_mint_24 rfl fX4_73 (by assumption) rfl (Or.inl rfl) rfl ?_
  refine go_iload_n (z := 28) dX4_mint_27 rfl rfl ?_
  refine go_iret dX4_mint_28 rfl ?_
  have e2 : ups i S 7 (i S 7 + 1 <<< (i S 1 &&& 31)) S 11 = i S 11 := ups_k (by omega)
  rw [e2, hz1, hz7, hz11]
  exact ⟨rfl, rfl, (hR.putZ _ (by omega)).putZ _ (by omega), (Out.pi (by omega) (by omega)).tr (Out.pi (by omega) (by omega))⟩
theorem c_loseAskOf {h : Nat} (hh : h < 6) (hL : StL G n S) (hR : Rep S m i r) : Go l G mX4_loseAskOf 1 0 0 0 (lentry [.ref S, .int (nI h)] 2) [] n i r (Chg n S i r (sH m h 5 1)) := by
  have hs := hL.s
  have hhs := hL.hs
  have e4 := hR.1.2.1
  have eh := (hR.1.2.2.2 h hh).1
  have hho := hL.ho hh
  refine go_iload_n (z := 1) dX4_loseAskOf_0 rfl rfl ?_
  refine go_callSN (z := 4) [.int (nI h)] dX4_loseAskOf_1 rfl mlX5_isHouse sX4_134 rfl rfl (by decide) (cat_i cat_nil) (by simp) (by decide) (by first | decide | omega) (by first | decide | omega) (c_house1 hh) ?_
  refine ret_elim ?_
  refine go_if_eq (z := 17) (z2 := 7) dX4_loseAskOf_4 rfl (by decide) (fun h => absurd h (by decide)) (fun _ => ?_)
  refine go_aload_n (z := 8) dX4_loseAskOf_7 rfl rfl ?_
  refine go_getR (z := 11) dX4_loseAskOf_8 rfl fX4_24 (by assumption) rfl (by assumption) ?_
  refine go_iload_n (z := 12) dX4_loseAskOf_11 rfl rfl ?_
  refine go_aaldR (z := 13) _ (by assumption) ⟨by decide, by decide⟩ (by decide) rfl (by omega) (by assumption) dX4_loseAskOf_12 rfl ?_
  refine go_iconst (z := 14) (v := 1) dX4_loseAskOf_13 rfl (by decide) ?_
  refine go_putI (z := 17) dX4_loseAskOf_14 rfl fX4_137 (by assumption) rfl (Or.inl rfl) (congrArg Value.int (by decide)) ?_
  refine go_vret dX4_loseAskOf_17 rfl ?_
  exact ⟨rfl, rfl, hR.putH _ hh (by omega), Out.pi (by omega) (by omega)⟩
theorem c_countArriving (hL : StL G n S) (hR : Rep S m i r) : Go l G mX4_countArriving 0 0 0 0 (lentry [.ref S] 2) [] n i r (RetI (nI (cntA (m.1 0) m.2.2.2.2)) n i r) := by
  have hz0 : i S 0 = m.1 0 := hR.2.1 0 (by omega)
  obtain ⟨h1, h2, h3, h4, h5, mx, hX, hlen, h6, hM⟩ := hR
  generalize m.2.2.2.2 = ms at hlen h6 hM ⊢
  have hs := hL.s
  have hmm := hL.ms
  have e5 := h1.2.2.1
  have tw : ∀ (c : Nat) (p : Mg → Bool), (∀ j x, j < c → ms[j]? = some x → p x = true) → (∀ x, ms[c]? = some x → p x = false) → c ≤ ms.length → (ms.takeWhile p).length = c := by
    intro c p
    clear hM h6 hlen
    induction c generalizing ms with
    | zero =>
      intro _ h _
      cases ms with
      | nil => rfl
      | cons x t => rw [List.takeWhile_cons, h x rfl]; rfl
    | succ c ih =>
      intro h h2 h3
      cases ms with
      | nil => simp at h3
      | cons x t =>
        rw [List.takeWhile_cons, h 0 x (by omega) rfl]
        simp only [if_true, List.length_cons]
        rw [ih t (fun j y hj hy => h (j + 1) y (by omega) hy) (fun y hy => h2 y hy) (by simpa using h3)]
  refine go_iconst (z := 1) (v := 0) dX4_countArriving_0 rfl (by decide) ?_
  refine go_istore_n (z := 2) dX4_countArriving_1 rfl (by decide) ?_
  have loop : ∀ d c, c + d = ms.length → (∀ j x, j < c → ms[j]? = some x → decide (x.1 4 ≤ m.1 0) = true) → Go l G mX4_countArriving 0 0 0 2 [some (.ref S), some (.int (nI c))] [] n i r (RetI (nI (cntA (m.1 0) ms)) n i r) := by
    intro d
    induction d with
    | zero =>
      intro c hc hp
      refine go_iload_n (z := 3) dX4_countArriving_2 rfl rfl ?_
      refine go_aload_n (z := 4) dX4_countArriving_3 rfl rfl ?_
      refine go_getI (z := 7) dX4_countArriving_4 rfl fX4_51 (by assumption) rfl ?_
      refine go_icmp_ge (z := 43) (z2 := 10) dX4_countArriving_7 rfl (by decide) (fun _ => ?_) (fun h => ?_)
      · refine go_aload_n (z := 44) dX4_countArriving_43 rfl rfl ?_
        refine go_getI (z := 47) dX4_countArriving_44 rfl fX4_51 (by assumption) rfl ?_
        refine go_iret dX4_countArriving_47 rfl ?_
        rw [h6]
        unfold cntA
        rw [tw ms.length _ (fun j x hj hx => hp j x (by omega) hx) (fun x hx => by simp at hx) (Nat.le_refl _)]
        exact ret_ok
      · exact absurd (by rw [h6]; exact nI_le (by omega) (by omega)) h
    | succ d ih =>
      intro c hc hp
      have hxc := hX.1 c (by omega)
      have hrc := hxc.1
      have hMc := hL.me hxc.2.1 hxc.2.2
      obtain ⟨x, hx⟩ : ∃ x, ms[c]? = some x := ⟨ms[c], List.getElem?_eq_getElem (by omega)⟩
      refine go_iload_n (z := 3) dX4_countArriving_2 rfl rfl ?_
      refine go_aload_n (z := 4) dX4_countArriving_3 rfl rfl ?_
      refine go_getI (z := 7) dX4_countArriving_4 rfl fX4_51 (by assumption) rfl ?_
      refine go_icmp_ge (z := 43) (z2 := 10) dX4_countArriving_7 rfl (by decide) (fun h => ?_) (fun _ => ?_)
      · exact absurd h (by rw [h6]; exact nI_ge (by omega) (by omega))
      · refine go_iload_n (z := 11) dX4_countArriving_10 rfl rfl ?_
        refine go_aload_n (z := 12) dX4_countArriving_11 rfl rfl ?_
        refine go_getR (z := 15) dX4_countArriving_12 rfl fX4_30 (by assumption) rfl (by assumption) ?_
        refine go_alen (z := 16) (by assumption) (by decide) dX4_countArriving_15 rfl ?_
        refine go_icmp_ge (z := 43) (z2 := 19) dX4_countArriving_16 rfl (by decide) (fun h => ?_) (fun _ => ?_)
        · exact absurd h (nI_ge (by omega) (by omega))
        · refine go_aload_n (z := 20) dX4_countArriving_19 rfl rfl ?_
          refine go_getR (z := 23) dX4_countArriving_20 rfl fX4_30 (by assumption) rfl (by assumption) ?_
          refine go_iload_n (z := 24) dX4_countArriving_23 rfl rfl ?_
          refine go_aaldR (z := 25) c (by assumption) ⟨by decide, by decide⟩ (by decide) rfl (by omega) (by assumption) dX4_countArriving_24 rfl ?_
          refine go_getI (z := 28) dX4_countArriving_25 rfl fX4_120 hMc rfl ?_
          refine go_aload_n (z := 29) dX4_countArriving_28 rfl rfl ?_
          refine go_getI (z := 32) dX4_countArriving_29 rfl fX4_40 (by assumption) rfl ?_
          refine go_icmp_le (z := 37) (z2 := 35) dX4_countArriving_32 rfl (by decide) (fun h => ?_) (fun h => ?_)
          · rw [(hM c x hx).1 4 (by omega), hz0] at h
            refine go_iinc (z := 40) dX4_countArriving_37 rfl rfl (nI_1 c) (by decide) ?_
            refine go_goto (z := 2) dX4_countArriving_40 (by decide) ?_
            refine go_lo (lo' := [some (.ref S), some (.int (nI (c + 1)))]) rfl (ih (c + 1) (by omega) (fun j y hj hy => ?_))
            by_cases a1 : j = c
            · subst a1; rw [hx] at hy; cases hy; exact decide_eq_true h
            · exact hp j y (by omega) hy
          · rw [(hM c x hx).1 4 (by omega), hz0] at h
            refine go_iload_n (z := 36) dX4_countArriving_35 rfl rfl ?_
            refine go_iret dX4_countArriving_36 rfl ?_
            unfold cntA
            rw [tw c _ hp (fun y hy => by rw [hx] at hy; cases hy; exact decide_eq_false h) (by omega)]
            exact ret_ok
  exact go_lo (lo' := [some (.ref S), some (.int (nI 0))]) rfl (loop ms.length 0 (by omega) (fun j x hj => absurd hj (Nat.not_lt_zero j)))
end STATE2
