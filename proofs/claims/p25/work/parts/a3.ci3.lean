/-! P25: work, a tick, ticks -/
section CI3
variable {E : EE} {Gd : Nat → Prop} {m m' : MS} {d1 d2 d3 z : Int32} {B t : Nat} {e : Nat → Nat} {W u : Nat → Prop}
theorem CI.setZ {k : Nat} {x : Int32} (hI : CI d1 d2 d3 z B t e W u m) (hk : k ≠ 7 ∧ k ≠ 8 ∧ k ≠ 9 ∧ k ≠ 10 ∧ k ≠ 11 ∧ k ≠ 13) : CI d1 d2 d3 z B t e W u (sZ m k x) := by
  obtain ⟨⟨i1, i2, i3, i4, i5, i6⟩, iB, ih, iM⟩ := hI
  have f : ∀ j, j ≠ k → (sZ m k x).1 j = m.1 j := fun j hj => up1_n hj
  obtain ⟨h7, h8, h9, h10, h11, h13⟩ := hk
  refine ⟨⟨?_, ?_, ?_, ?_, ?_, ?_⟩, ?_, ih, iM⟩
  · unfold L1
    rw [f 8 (Ne.symm h8), f 9 (Ne.symm h9), f 7 (Ne.symm h7)]
    exact i1
  · unfold L2
    rw [f 10 (Ne.symm h10)]
    exact i2
  · unfold L3
    rw [f 10 (Ne.symm h10), f 11 (Ne.symm h11)]
    exact i3
  · rw [f 13 (Ne.symm h13)]; exact i4
  · rw [f 8 (Ne.symm h8)]; exact i5
  · rw [f 9 (Ne.symm h9)]; exact i6
  · unfold tN
    rw [f 8 (Ne.symm h8), f 9 (Ne.symm h9)]
    exact iB
theorem CI.setW {k : Nat} {x : Int32} (hI : CI d1 d2 d3 z B t e W u m) : CI d1 d2 d3 z B t e W u (sW m k x) := hI
theorem CI.fin {h : Nat} (hI : CI d1 d2 d3 z B 0 (fun _ => 0) (fun _ => True) u m) (hh : h < 6) (hl : (m.2.2.2.1 h).length < 2 ^ 31) (hb : m.2.2.1 h 0 = 1) (h2 : 0 ≤ m.2.2.1 h 2) : CI d1 d2 d3 z B 0 (fun _ => 0) (fun _ => True) u (if 0 < m.2.2.1 h 2 ∨ 0 < m.2.2.1 h 3 ∨ ¬ m.2.2.1 h 4 = 0 then m else if 0 < (sH (sH m h 0 0) h 9 (m.2.2.1 h 9 + 1)).2.2.1 h 1 then sH (mPost (sH (sH m h 0 0) h 9 (m.2.2.1 h 9 + 1)) 3 h 6 ((sH (sH m h 0 0) h 9 (m.2.2.1 h 9 + 1)).2.2.1 h 1) none) h 1 0 else sH (sH m h 0 0) h 9 (m.2.2.1 h 9 + 1)) := by
  obtain ⟨a1, a2, a3, a4, a5, a6, a7, a8, a9⟩ := hI.2.2.1 h hh
  by_cases hc : 0 < m.2.2.1 h 2 ∨ 0 < m.2.2.1 h 3 ∨ ¬ m.2.2.1 h 4 = 0
  · rw [if_pos hc]; exact hI
  · rw [if_neg hc]
    have hw : m.2.2.1 h 2 = 0 := Int32.le_antisymm (Int32.not_lt.mp (fun q => hc (Or.inl q))) h2
    have h4 : m.2.2.1 h 4 = 0 := Decidable.not_not.mp (fun q => hc (Or.inr (Or.inr q)))
    have hq : m.2.2.2.1 h = [] := by
      cases hQ : m.2.2.2.1 h with
      | nil => rfl
      | cons a q =>
        refine absurd (Or.inr (Or.inl ?_)) hc
        rw [a9]
        exact nI_lt (a := 0) (by rw [hQ]; exact Nat.succ_pos _) hl
    have h1 := a4 hb
    have e1 : (sH (sH m h 0 0) h 9 (m.2.2.1 h 9 + 1)).2.2.1 h 1 = m.2.2.1 h 1 := by
      show ups (ups m.2.2.1 h 0 0) h 9 _ h 1 = _
      rw [ups_k (by decide), ups_k (by decide)]
    rw [e1, if_pos (Int32.lt_of_lt_of_le (by decide : (0 : Int32) < 1) h1)]
    obtain ⟨y, hy⟩ : ∃ y : Mg, y = (mg 3 (nI h) (nI 6) (m.2.2.1 h 1) (m.1 0 + m.2.1 (h * 7 + 6)), none) := ⟨_, rfl⟩
    have ya : ∀ v, agN v y = 0 := fun v => by rw [hy]; exact ag_0 (show (3 : Int32) ≠ 1 by decide) (show (3 : Int32) ≠ 2 by decide)
    have y0 : kC 0 y = 0 := by rw [hy]; rfl
    have y1 : kC 1 y = 0 := by rw [hy]; rfl
    have y3 : g3 y = m.2.2.1 h 1 := by rw [hy]; rfl
    have y4 : gN3 y = gN (m.2.2.1 h 1) := by rw [hy]; rfl
    obtain ⟨m1, hm⟩ : ∃ m1, m1 = sH (mPost (sH (sH m h 0 0) h 9 (m.2.2.1 h 9 + 1)) 3 h 6 (m.2.2.1 h 1) none) h 1 0 := ⟨_, rfl⟩
    rw [← hm]
    have f0 : ∀ k, k ≠ 0 → k ≠ 1 → k ≠ 9 → m1.2.2.1 h k = m.2.2.1 h k := fun k k0 k1 k9 => by
      rw [hm]
      show ups (ups (ups m.2.2.1 h 0 0) h 9 _) h 1 0 h k = _
      rw [ups_k k1, ups_k k9, ups_k k0]
    have fb : m1.2.2.1 h 0 = 0 := by
      rw [hm]
      show ups (ups (ups m.2.2.1 h 0 0) h 9 _) h 1 0 h 0 = _
      rw [ups_k (by decide), ups_k (by decide), ups_s]
    have f1 : m1.2.2.1 h 1 = 0 := by
      rw [hm]
      exact ups_s
    have fQ : m1.2.2.2.1 = m.2.2.2.1 := by rw [hm]; rfl
    have fz : m1.1 = m.1 := by rw [hm]; rfl
    refine CI.upd (h := h) (yo := some y) hI hh (fun v hv hn => ?_) (fun v hv hn => by rw [fQ]) ?_ ?_ ?_ ?_ (by rw [fz]; exact hI.1.2.2.2) ?_ ?_ (fun v hv hn => ⟨?_, fun _ => trivial, fun k => k⟩) (fun y' hy' => ?_)
    · rw [hm]
      show ups (ups (ups m.2.2.1 h 0 0) h 9 _) h 1 0 v = _
      rw [ups_row hn, ups_row hn, ups_row hn]
    · rw [hm, hy]; rfl
    · rw [f1, fz]
      show _ + (0 : Int32) + g3 y = _
      rw [y3]
      grind
    · rw [f0 7 (by decide) (by decide) (by decide), f0 6 (by decide) (by decide) (by decide), fz]
      show _ - kC 0 y = _
      rw [y0]
      grind
    · rw [f0 8 (by decide) (by decide) (by decide), fz]
      show _ - kC 1 y - _ = _
      rw [y1]
      grind
    · rw [f1, fz, gN_z]
      show _ + 0 + gN3 y + 0 + B ≤ _
      rw [y4]
      omega
    · rw [fQ]
      refine ⟨Or.inl fb, ?_, ?_, fun k => ?_, fun _ => ⟨f1, ?_, hq, ?_⟩, ?_, fun _ k => absurd hq k, fun k => ?_, ?_⟩
      · rw [f0 4 (by decide) (by decide) (by decide)]; exact a2
      · rw [f0 5 (by decide) (by decide) (by decide)]; exact a3
      · rw [fb] at k
        exact absurd k (by decide)
      · rw [f0 2 (by decide) (by decide) (by decide)]; exact hw
      · rw [f0 4 (by decide) (by decide) (by decide)]; exact h4
      · rw [f0 4 (by decide) (by decide) (by decide), f0 5 (by decide) (by decide) (by decide)]
        show m.2.2.2.2.countP (agOf h) + agN h y + 0 + n01 (m.2.2.1 h 5) = _
        rw [ya]
        exact a6
      · rw [f0 5 (by decide) (by decide) (by decide)]; exact a8 k
      · rw [f0 3 (by decide) (by decide) (by decide)]; exact a9
    · exact ya v
    · cases hy'
      rw [hy]
      exact Or.inr (Or.inr (Or.inr ⟨rfl, rfl, h1⟩))
theorem CI.dec {h : Nat} (hI : CI d1 d2 d3 z B 0 (fun _ => 0) (fun _ => True) u m) (hh : h < 6) (hb : m.2.2.1 h 0 = 1) (x : Int32) : CI d1 d2 d3 z B 0 (fun _ => 0) (fun _ => True) u (sH m h 2 x) := by
  obtain ⟨a1, a2, a3, a4, a5, a6, a7, a8, a9⟩ := hI.2.2.1 h hh
  have f0 : ∀ k, k ≠ 2 → (sH m h 2 x).2.2.1 h k = m.2.2.1 h k := fun k k2 => ups_k k2
  refine CI.upd (h := h) (yo := none) hI hh (fun v hv hn => ups_row hn) (fun v hv hn => rfl) rfl ?_ ?_ ?_ hI.1.2.2.2 ?_ ?_ (fun v hv hn => ⟨rfl, fun _ => trivial, fun k => k⟩) (fun y hy => by cases hy)
  · rw [f0 1 (by decide)]
    show _ + (0 : Int32) = d1 - d1 + (m.1 8 + m.1 9 - m.1 7 + m.2.2.1 h 1)
    show m.1 8 + m.1 9 - m.1 7 + m.2.2.1 h 1 + (0 : Int32) = d1 - d1 + (m.1 8 + m.1 9 - m.1 7 + m.2.2.1 h 1)
    grind
  · rw [f0 7 (by decide), f0 6 (by decide)]
    show m.2.2.1 h 7 + m.1 10 - m.2.2.1 h 6 - (0 : Int32) = _
    grind
  · rw [f0 8 (by decide)]
    show m.1 10 + m.2.2.1 h 8 - (0 : Int32) - m.1 11 = _
    grind
  · rw [f0 1 (by decide)]
    exact Nat.le_refl _
  · refine ⟨?_, ?_, ?_, fun _ => ?_, fun k => ?_, ?_, fun k => ?_, fun k => ?_, ?_⟩
    · rw [f0 0 (by decide)]; exact a1
    · rw [f0 4 (by decide)]; exact a2
    · rw [f0 5 (by decide)]; exact a3
    · rw [f0 1 (by decide)]; exact a4 hb
    · rw [f0 0 (by decide), hb] at k
      exact absurd k (by decide)
    · rw [f0 4 (by decide), f0 5 (by decide)]; exact a6
    · rw [f0 4 (by decide)]; exact a7 k
    · rw [f0 5 (by decide)]; exact a8 k
    · rw [f0 3 (by decide)]; exact a9
theorem CI.workB {h : Nat} (hI : CI d1 d2 d3 z B 0 (fun _ => 0) (fun _ => True) u m) (hP : PG m) (hh : h < 6) (hl : (m.2.2.2.1 h).length < 2 ^ 31) : CI d1 d2 d3 z B 0 (fun _ => 0) (fun _ => True) u (mWorkB h m) := by
  unfold mWorkB
  by_cases hc : m.2.2.1 h 0 = 0
  · rw [if_pos hc]; exact hI
  · rw [if_neg hc]
    have hb : m.2.2.1 h 0 = 1 := (hI.2.2.1 h hh).1.resolve_left hc
    have p2 := (hP.1 h hh).2.1
    unfold mWork
    dsimp only
    by_cases hd : 0 < m.2.2.1 h 2
    · rw [if_pos hd]
      have fb : (sH m h 2 (m.2.2.1 h 2 - 1)).2.2.1 h 0 = 1 := (ups_k (by decide)).trans hb
      refine CI.fin (hI.dec hh hb _) hh hl fb ?_
      show 0 ≤ ups m.2.2.1 h 2 (m.2.2.1 h 2 - 1) h 2
      rw [ups_s]
      obtain ⟨e1, e2⟩ := gN_of p2
      have g1 : 1 ≤ gN (m.2.2.1 h 2) := by
        rw [e1] at hd
        exact (nI_ltI (a := 0) (by omega) e2).mp hd
      have es : m.2.2.1 h 2 - 1 = nI (gN (m.2.2.1 h 2) - 1) := by
        conv => lhs; lhs; rw [e1]
        exact pk_sub (b := 1) (by omega)
      rw [es]
      exact nI_pos' (by omega)
    · rw [if_neg hd]
      exact hI.fin hh hl hb p2
theorem CI.workN (hI : CI d1 d2 d3 z B 0 (fun _ => 0) (fun _ => True) u m) (hP : ∀ q, q ≤ 6 → PG (mWorkN q m)) (hl : ∀ q, q ≤ 6 → ∀ h, h < 6 → ((mWorkN q m).2.2.2.1 h).length < 2 ^ 31) (q : Nat) : q ≤ 6 → CI d1 d2 d3 z B 0 (fun _ => 0) (fun _ => True) u (mWorkN q m) := by
  induction q with
  | zero => intro _; exact hI
  | succ q ih => intro hq; exact (ih (by omega)).workB (hP q (by omega)) (by omega) (hl q (by omega) q (by omega))
def isAsk (x : Mg) : Bool := decide (x.1 0 = 1)
theorem CI.steps {T b0 : Nat} {b : Nat → Nat} (hE : EOk E Gd) (hB : b0 ≤ T) (l : List Mg) : ∀ (m : MS) (B B' : Nat), Inv E Gd T b0 b (pushL l m) → (∀ y ∈ l, y.1 4 ≤ nI T) → Inv E Gd T T b m → CI d1 d2 d3 z B 0 (fun _ => 0) (fun _ => True) u (pushL l m) → B + 65536 * l.countP isAsk ≤ B' → B' + 65536 < 2 ^ 31 → CI d1 d2 d3 z B' 0 (fun _ => 0) (fun _ => True) u (mSteps E l.length (pushL l m)) := by
  induction l with
  | nil => intro m B B' _ _ _ h3 h4 _; exact h3.more (by simpa using h4)
  | cons x l ih =>
    intro m B B' h1 hl h2 h3 h4 h5
    have h1 : Inv E Gd T b0 b (hdM x (pushL l m)) := h1
    have hx := (h1.2.2.2.1 x List.mem_cons_self).1
    obtain ⟨s1, s2, s3, s4, s5⟩ := push_same l m
    have ht := h1.tl
    have harr : mArr E x (pushL l m) = pushL l (mArr E x m) := arr_push hE hx h2.2.2.1 l (fun y hy => h2.past (hl y (List.mem_cons_of_mem _ hy)))
    have hst : mStep E (hdM x (pushL l m)) = pushL l (mArr E x m) := by
      rw [hd_step hE hx ht.2.2.1 (ht.past (hl x List.mem_cons_self))]
      exact harr
    have hal : sz E x.2 + mAll E (pushL l m) ≤ 80 := by rw [← all_hd]; exact h1.2.2.2.2.1
    have hp := push_all E l m
    have i1 : Inv E Gd T b0 b (pushL l (mArr E x m)) := by rw [← harr]; exact h1.arr hE hB
    have i2 : Inv E Gd T T b (mArr E x m) := h2.arr2 hE (Nat.le_refl _) hx (by omega) (fun h hh => by
      have q := h1.hg6 h hh
      rw [s3, s5, List.countP_append] at q
      omega)
    rw [List.countP_cons] at h4
    have hc : (if isAsk x = true then 1 else 0) = (if x.1 0 = 1 then 1 else 0 : Nat) := by
      unfold isAsk
      by_cases c : x.1 0 = 1
      · rw [if_pos c, if_pos (decide_eq_true c)]
      · rw [if_neg c, if_neg (fun q => c (of_decide_eq_true q))]
    rw [hc] at h4
    have hd : (if x.1 0 = 1 then 65536 else 0) = 65536 * (if x.1 0 = 1 then 1 else 0 : Nat) := by
      by_cases c : x.1 0 = 1
      · rw [if_pos c, if_pos c]
      · rw [if_neg c, if_neg c]
    have hA := CI.arr (B' := B + 65536 * (if x.1 0 = 1 then 1 else 0)) h3 h1 hE (by omega) (by rw [hd]; exact Nat.le_refl _)
    rw [harr] at hA
    have e : mSteps E (x :: l).length (pushL (x :: l) m) = mSteps E l.length (mStep E (hdM x (pushL l m))) := rfl
    rw [e, hst]
    exact ih (mArr E x m) _ B' i1 (fun y hy => hl y (List.mem_cons_of_mem _ hy)) i2 hA (by omega) h5
theorem asks_le (ms : List Mg) : (∀ x ∈ ms, MgOk Gd x) → ms.countP isAsk ≤ s6 (fun h => ms.countP (agOf h)) := by
  induction ms with
  | nil => intro _; exact Nat.zero_le _
  | cons x l ih =>
    intro hx
    have i := ih (fun y hy => hx y (List.mem_cons_of_mem _ hy))
    have key : (if isAsk x = true then 1 else 0) ≤ s6 (fun h => agN h x) := by
      by_cases c : isAsk x = true
      · rw [if_pos c]
        have c1 : x.1 0 = 1 := of_decide_eq_true c
        obtain ⟨f, tt, hf, ht7, e1, e2, hk⟩ := hx x List.mem_cons_self
        have hf6 : f < 6 := by
          rcases hk with ⟨k0, -⟩ | ⟨k1, hf6, -⟩ | ⟨k2, -⟩ | ⟨k3, -⟩
          · rw [k0] at c1; exact absurd c1 (by decide)
          · exact hf6
          · rw [k2] at c1; exact absurd c1 (by decide)
          · rw [k3] at c1; exact absurd c1 (by decide)
        have q := s6_one (f := fun h => agN h x) hf6
        have q2 : agN f x = 1 := by rw [ag_ask c1 e1 hf6 hf, if_pos rfl]
        have q : agN f x ≤ s6 (fun h => agN h x) := q
        omega
      · rw [if_neg c]; exact Nat.zero_le _
    rw [List.countP_cons]
    have e : s6 (fun h => (x :: l).countP (agOf h)) = s6 (fun h => l.countP (agOf h)) + s6 (fun h => agN h x) := by
      simp only [s6, List.countP_cons, agN]
      omega
    rw [e]
    omega
theorem Inv.asks {T b0 : Nat} {b : Nat → Nat} (hV : Inv E Gd T b0 b m) : m.2.2.2.2.countP isAsk ≤ 6 := by
  have h := asks_le (Gd := Gd) m.2.2.2.2 (fun x hx => (hV.2.2.2.1 x hx).1)
  have q : ∀ h, h < 6 → m.2.2.2.2.countP (agOf h) ≤ 1 := fun h hh => by
    have q1 := hV.2.2.2.2.2.1 h hh
    have q2 := n01_le (m.2.2.1 h 4)
    omega
  have q0 := q 0 (by omega)
  have q1 := q 1 (by omega)
  have q2 := q 2 (by omega)
  have q3 := q 3 (by omega)
  have q4 := q 4 (by omega)
  have q5 := q 5 (by omega)
  simp only [s6] at h
  omega
/-- what a tick may mint -/
def tB : Nat := 393216
theorem tB_eq : tB = 393216 := rfl
theorem CI.tick {T K : Nat} (hI : CI d1 d2 d3 z B 0 (fun _ => 0) (fun _ => True) u m) (hV : Inv E Gd T T (fun _ => T) m) (hE : EOk E Gd) (hW : EW E Gd) (hT : T < 1001000) (hP : PI E K m) (hK : K ≤ 2 ^ 30) (hB : B + tB + 65536 < 2 ^ 31) : CI d1 d2 d3 z (B + tB) 0 (fun _ => 0) (fun _ => True) u (mTick E m) := by
  have h1 := hV.next1 hT
  have hP2 := (hV.tickP hE hW hT hP hK).1
  have hC : CI d1 d2 d3 z B 0 (fun _ => 0) (fun _ => True) u (sZ m 0 (m.1 0 + 1)) := hI.setZ (by decide)
  have h3 := (h1.arrs hE (by omega)).2
  have hlen : ∀ q, q ≤ 6 → ∀ h, h < 6 → ((mWorkN q (mArrive E (sZ m 0 (m.1 0 + 1)))).2.2.2.1 h).length < 2 ^ 31 := fun q hq h hh => by
    have := (h3.workN q hq).qlen hE hh
    omega
  obtain ⟨l, m0, e1, e2, e3, e4⟩ := h1.cut (by omega)
  have hna := h1.asks
  have ha : mArrive E (sZ m 0 (m.1 0 + 1)) = mSteps E l.length (sZ m 0 (m.1 0 + 1)) := by rw [e2]; rfl
  have hla : l.countP isAsk ≤ 6 := by
    rw [e1, (push_same l m0).2.2.2.2, List.countP_append] at hna
    omega
  have hA : CI d1 d2 d3 z (B + tB) 0 (fun _ => 0) (fun _ => True) u (mArrive E (sZ m 0 (m.1 0 + 1))) := by
    rw [ha]
    rw [e1] at h1 hC ⊢
    exact CI.steps hE (by omega) l m0 B (B + tB) h1 e3 e4 hC (by have := tB_eq; omega) hB
  show CI d1 d2 d3 z (B + tB) 0 (fun _ => 0) (fun _ => True) u (mWorks (mArrive E (sZ m 0 (m.1 0 + 1))))
  rw [mWorks_N]
  exact hA.workN hP2 hlen 6 (Nat.le_refl _)
theorem CI.ticks {K : Nat} (hE : EOk E Gd) (hW : EW E Gd) (hK : K ≤ 2 ^ 30) (c : Nat) : ∀ {T B : Nat} {m : MS}, CI d1 d2 d3 z B 0 (fun _ => 0) (fun _ => True) u m → Inv E Gd T T (fun _ => T) m → T + c ≤ 1001000 → PI E K m → B + tB * c + 65536 < 2 ^ 31 → CI d1 d2 d3 z (B + tB * c) 0 (fun _ => 0) (fun _ => True) u (mTicks E c m) := by
  induction c with
  | zero => intro T B m hI _ _ _ _; exact hI
  | succ c ih =>
    intro T B m hI hV hT hP hB
    have e : tB * (c + 1) = tB * c + tB := Nat.mul_succ tB c
    have h1 := hI.tick hV hE hW (by omega) hP hK (by omega)
    have h2 := (hV.tick hE (by omega)).2
    have h3 := (hV.tickP hE hW (by omega) hP hK).2
    have h := ih h1 h2 (by omega) h3 (by omega)
    exact h.more (by omega)
end CI3
