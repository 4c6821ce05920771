/-! WHAT IS HELD DOWN: grains and work never pass what an int holds. Each errand that waits may still bring two coins and its work -/
def gN (x : Int32) : Nat := x.toNatClampNeg
theorem gN_of {x : Int32} (h : 0 ≤ x) : x = nI (gN x) ∧ gN x < 2 ^ 31 := by
  obtain ⟨j, hj, e⟩ := nI_of (Int32.not_lt.mpr h)
  have : gN x = j := by rw [e]; exact nI_clamp hj
  rw [this]
  exact ⟨e, hj⟩
theorem gN_n {g : Nat} (h : g < 2 ^ 31) : gN (nI g) = g := nI_clamp h
def wt (E : EE) (x : Mg) : Nat := if x.1 0 = 3 then 0 else match x.2 with
  | some a => 131290 * (E.2.2.1 a - 1) + 65556 + gN (x.1 3)
  | none => 65536
def hw (m : MS) (h : Nat) : Nat := max (gN (m.2.2.1 h 1)) 198 + gN (m.2.2.1 h 2) + 65536 * n01 (m.2.2.1 h 5)
def sumW (E : EE) (ms : List Mg) : Nat := (ms.map (wt E)).sum
def pot (E : EE) (m : MS) : Nat := s6 (hw m) + 131290 * sumQ E m.2.2.2.1 6 + sumW E m.2.2.2.2
def PG (m : MS) : Prop := (∀ h, h < 6 → 0 ≤ m.2.2.1 h 1 ∧ 0 ≤ m.2.2.1 h 2 ∧ m.2.2.1 h 3 = nI (m.2.2.2.1 h).length) ∧ ∀ x ∈ m.2.2.2.2, 0 ≤ x.1 3 ∧ (x.2 = none → x.1 0 ≠ 3 → x.1 3 ≤ 65536)
def PI (E : EE) (K : Nat) (m : MS) : Prop := PG m ∧ pot E m ≤ K
def EW (E : EE) (Gd : Nat → Prop) : Prop := ∀ a, Gd a → ∃ w, w ≤ 20 ∧ E.2.1 a = nI w
theorem s6_up {f g : Nat → Nat} {h : Nat} (hh : h < 6) (he : ∀ q, q < 6 → q ≠ h → g q = f q) : s6 g + f h = s6 f + g h := by
  unfold s6
  rcases (show h = 0 ∨ h = 1 ∨ h = 2 ∨ h = 3 ∨ h = 4 ∨ h = 5 by omega) with e | e | e | e | e | e <;> subst e
  · rw [he 1 (by omega) (by omega), he 2 (by omega) (by omega), he 3 (by omega) (by omega), he 4 (by omega) (by omega), he 5 (by omega) (by omega)]; omega
  · rw [he 0 (by omega) (by omega), he 2 (by omega) (by omega), he 3 (by omega) (by omega), he 4 (by omega) (by omega), he 5 (by omega) (by omega)]; omega
  · rw [he 0 (by omega) (by omega), he 1 (by omega) (by omega), he 3 (by omega) (by omega), he 4 (by omega) (by omega), he 5 (by omega) (by omega)]; omega
  · rw [he 0 (by omega) (by omega), he 1 (by omega) (by omega), he 2 (by omega) (by omega), he 4 (by omega) (by omega), he 5 (by omega) (by omega)]; omega
  · rw [he 0 (by omega) (by omega), he 1 (by omega) (by omega), he 2 (by omega) (by omega), he 3 (by omega) (by omega), he 5 (by omega) (by omega)]; omega
  · rw [he 0 (by omega) (by omega), he 1 (by omega) (by omega), he 2 (by omega) (by omega), he 3 (by omega) (by omega), he 4 (by omega) (by omega)]; omega
theorem sumW_cons (E : EE) (x : Mg) (ms : List Mg) : sumW E (x :: ms) = wt E x + sumW E ms := by
  unfold sumW
  rw [List.map_cons, List.sum_cons]
theorem sumW_ins (E : EE) (x : Mg) (ms : List Mg) : sumW E (ins x ms) = wt E x + sumW E ms := by
  rw [← sumW_cons]
  unfold sumW
  exact ((ins_perm x ms).map (wt E)).sum_nat
theorem pot_h {E : EE} {m : MS} {h : Nat} (hh : h < 6) : hw m h ≤ pot E m := by
  have := s6_one (f := hw m) hh
  unfold pot
  omega
section POT
variable {E : EE} {Gd : Nat → Prop} {m : MS}
theorem PG.ins {y : Mg} {ms : List Mg} (h : ∀ x ∈ ms, 0 ≤ x.1 3 ∧ (x.2 = none → x.1 0 ≠ 3 → x.1 3 ≤ 65536)) (hy : 0 ≤ y.1 3 ∧ (y.2 = none → y.1 0 ≠ 3 → y.1 3 ≤ 65536)) : ∀ x ∈ ins y ms, 0 ≤ x.1 3 ∧ (x.2 = none → x.1 0 ≠ 3 → x.1 3 ≤ 65536) := fun x hx => by
  rcases List.mem_cons.mp ((ins_perm y ms).mem_iff.mp hx) with e | e
  · rw [e]; exact hy
  · exact h x e
theorem pot_sendF (hE : EOk E Gd) (hP : PG m) {h a : Nat} {q : List Nat} (hh : h < 6) (hq : m.2.2.2.1 h = a :: q) (ha : Gd a) : PG (mSendF E h m) ∧ pot E (mSendF E h m) + 65536 ≤ pot E m := by
  have hEa := (hE a ha).2.2.2.1
  obtain ⟨p1, p2, p3⟩ := hP.1 h hh
  obtain ⟨g1, g2⟩ := gN_of p1
  have d2 : m.2.2.1 h 1 / 2 = nI (gN (m.2.2.1 h 1) / 2) := by
    conv => lhs; rw [g1]
    exact pk_div g2 (d := 2) (by omega) (by omega)
  have d1 : m.2.2.1 h 1 - m.2.2.1 h 1 / 2 = nI (gN (m.2.2.1 h 1) - gN (m.2.2.1 h 1) / 2) := by
    rw [d2]
    conv => lhs; lhs; rw [g1]
    exact pk_sub (by omega)
  have e : mSendF E h m = mPost (sQ (sH (sH m h 1 (m.2.2.1 h 1 - m.2.2.1 h 1 / 2)) h 7 (m.2.2.1 h 7 + 1)) h q) 0 h (E.1 a) (m.2.2.1 h 1 / 2) (some a) := by unfold mSendF; rw [hq]
  rw [e, d1, d2]
  generalize gN (m.2.2.1 h 1) = g at g1 g2
  have f1 : ∀ v k, k ≠ 7 → k ≠ 3 → ups (ups (ups m.2.2.1 h 1 (nI (g - g / 2))) h 7 (m.2.2.1 h 7 + 1)) h 3 (nI q.length) v k = ups m.2.2.1 h 1 (nI (g - g / 2)) v k := fun v k k7 k3 => by rw [ups_k k3, ups_k k7]
  refine ⟨⟨fun v hv => ?_, ?_⟩, ?_⟩
  · obtain ⟨a1, a2, a3⟩ := hP.1 v hv
    refine ⟨?_, ?_, ?_⟩
    · show 0 ≤ ups (ups (ups m.2.2.1 h 1 (nI (g - g / 2))) h 7 (m.2.2.1 h 7 + 1)) h 3 (nI q.length) v 1
      rw [f1 v 1 (by decide) (by decide)]
      by_cases c : v = h
      · rw [c, ups_s]; exact nI_pos' (by omega)
      · rw [ups_a c]; exact a1
    · show 0 ≤ ups (ups (ups m.2.2.1 h 1 (nI (g - g / 2))) h 7 (m.2.2.1 h 7 + 1)) h 3 (nI q.length) v 2
      rw [f1 v 2 (by decide) (by decide), ups_k (by decide)]
      exact a2
    · show ups (ups (ups m.2.2.1 h 1 (nI (g - g / 2))) h 7 (m.2.2.1 h 7 + 1)) h 3 (nI q.length) v 3 = nI (up1 m.2.2.2.1 h q v).length
      by_cases c : v = h
      · rw [c, ups_s, up1_s]
      · rw [ups_a c, up1_n c, ups_a c, ups_a c]; exact a3
  · exact PG.ins hP.2 ⟨nI_pos' (show g / 2 < 2 ^ 31 by omega), fun c => by cases c⟩
  · have s1 := s6_up (f := hw m) (g := hw (mPost (sQ (sH (sH m h 1 (nI (g - g / 2))) h 7 (m.2.2.1 h 7 + 1)) h q) 0 h (E.1 a) (nI (g / 2)) (some a))) hh (fun v _ hvh => by
      show max (gN (ups (ups (ups m.2.2.1 h 1 (nI (g - g / 2))) h 7 (m.2.2.1 h 7 + 1)) h 3 (nI q.length) v 1)) 198 + gN (ups (ups (ups m.2.2.1 h 1 (nI (g - g / 2))) h 7 (m.2.2.1 h 7 + 1)) h 3 (nI q.length) v 2) + 65536 * n01 (ups (ups (ups m.2.2.1 h 1 (nI (g - g / 2))) h 7 (m.2.2.1 h 7 + 1)) h 3 (nI q.length) v 5) = _
      rw [ups_a hvh, ups_a hvh, ups_a hvh, ups_a hvh, ups_a hvh, ups_a hvh, ups_a hvh, ups_a hvh, ups_a hvh]
      rfl)
    have s2 : hw (mPost (sQ (sH (sH m h 1 (nI (g - g / 2))) h 7 (m.2.2.1 h 7 + 1)) h q) 0 h (E.1 a) (nI (g / 2)) (some a)) h = max (g - g / 2) 198 + gN (m.2.2.1 h 2) + 65536 * n01 (m.2.2.1 h 5) := by
      show max (gN (ups (ups (ups m.2.2.1 h 1 (nI (g - g / 2))) h 7 (m.2.2.1 h 7 + 1)) h 3 (nI q.length) h 1)) 198 + gN (ups (ups (ups m.2.2.1 h 1 (nI (g - g / 2))) h 7 (m.2.2.1 h 7 + 1)) h 3 (nI q.length) h 2) + 65536 * n01 (ups (ups (ups m.2.2.1 h 1 (nI (g - g / 2))) h 7 (m.2.2.1 h 7 + 1)) h 3 (nI q.length) h 5) = _
      rw [f1 h 1 (by decide) (by decide), f1 h 2 (by decide) (by decide), f1 h 5 (by decide) (by decide), ups_s, ups_k (by decide), ups_k (by decide), gN_n (by omega)]
    have s3 : hw m h = max g 198 + gN (m.2.2.1 h 2) + 65536 * n01 (m.2.2.1 h 5) := by
      unfold hw
      rw [g1, gN_n g2]
    rw [s2, s3] at s1
    have s4 := sumQ_up E m.2.2.2.1 hh q
    rw [hq, List.map_cons, List.sum_cons] at s4
    have s5 : pot E (mPost (sQ (sH (sH m h 1 (nI (g - g / 2))) h 7 (m.2.2.1 h 7 + 1)) h q) 0 h (E.1 a) (nI (g / 2)) (some a)) = s6 (hw (mPost (sQ (sH (sH m h 1 (nI (g - g / 2))) h 7 (m.2.2.1 h 7 + 1)) h q) 0 h (E.1 a) (nI (g / 2)) (some a))) + 131290 * sumQ E (up1 m.2.2.2.1 h q) 6 + (131290 * (E.2.2.1 a - 1) + 65556 + g / 2 + sumW E m.2.2.2.2) := by
      unfold pot
      refine congrArg (fun v => s6 (hw (mPost (sQ (sH (sH m h 1 (nI (g - g / 2))) h 7 (m.2.2.1 h 7 + 1)) h q) 0 h (E.1 a) (nI (g / 2)) (some a))) + 131290 * sumQ E (up1 m.2.2.2.1 h q) 6 + v) ?_
      refine (sumW_ins E _ _).trans (congrArg (fun v => v + sumW E m.2.2.2.2) ?_)
      show (if (0 : Int32) = 3 then 0 else 131290 * (E.2.2.1 a - 1) + 65556 + gN (nI (g / 2))) = _
      rw [if_neg (by decide), gN_n (by omega)]
    rw [s5]
    unfold pot
    omega
/-! one number of a house; a message; what waits -/
theorem hw_same {m m' : MS} {h : Nat} (h1 : m'.2.2.1 h 1 = m.2.2.1 h 1) (h2 : m'.2.2.1 h 2 = m.2.2.1 h 2) (h5 : m'.2.2.1 h 5 = m.2.2.1 h 5) : hw m' h = hw m h := by
  unfold hw
  rw [h1, h2, h5]
theorem pot_sH {h k : Nat} {x : Int32} (hh : h < 6) : pot E (sH m h k x) + hw m h = pot E m + hw (sH m h k x) h := by
  have s1 := s6_up (f := hw m) (g := hw (sH m h k x)) hh (fun v _ hvh => hw_same (ups_a hvh) (ups_a hvh) (ups_a hvh))
  have e : pot E (sH m h k x) = s6 (hw (sH m h k x)) + 131290 * sumQ E m.2.2.2.1 6 + sumW E m.2.2.2.2 := rfl
  rw [e]
  unfold pot
  omega
theorem pot_sHo {h k : Nat} {x : Int32} (hh : h < 6) (hk : k ≠ 1 ∧ k ≠ 2 ∧ k ≠ 5) : pot E (sH m h k x) = pot E m := by
  have s1 := pot_sH (E := E) (m := m) (h := h) (k := k) (x := x) hh
  have s2 : hw (sH m h k x) h = hw m h := hw_same (ups_k (Ne.symm hk.1)) (ups_k (Ne.symm hk.2.1)) (ups_k (Ne.symm hk.2.2))
  omega
theorem PG.sH (hP : PG m) {h k : Nat} {x : Int32} (hk : k ≠ 3) (hx : k = 1 ∨ k = 2 → 0 ≤ x) : PG (sH m h k x) := by
  refine ⟨fun v hv => ?_, hP.2⟩
  obtain ⟨a1, a2, a3⟩ := hP.1 v hv
  have one : ∀ j, (j = 1 ∨ j = 2) → 0 ≤ m.2.2.1 v j → 0 ≤ ups m.2.2.1 h k x v j := by
    intro j hj h0
    by_cases c : v = h ∧ j = k
    · rw [c.1, c.2, ups_s]
      exact hx (by rw [← c.2]; exact hj)
    · unfold ups
      rw [if_neg c]
      exact h0
  refine ⟨one 1 (Or.inl rfl) a1, one 2 (Or.inr rfl) a2, ?_⟩
  show ups m.2.2.1 h k x v 3 = _
  rw [ups_k (Ne.symm hk)]
  exact a3
theorem pot_post {k g : Int32} {f t : Nat} {e : Option Nat} : pot E (mPost m k f t g e) = pot E m + wt E (mg k (nI f) (nI t) g (m.1 0 + m.2.1 (f * 7 + t)), e) := by
  show s6 (hw m) + 131290 * sumQ E m.2.2.2.1 6 + sumW E (ins (mg k (nI f) (nI t) g (m.1 0 + m.2.1 (f * 7 + t)), e) m.2.2.2.2) = _
  rw [sumW_ins]
  unfold pot
  omega
theorem PG.post (hP : PG m) {k g : Int32} {f t : Nat} {e : Option Nat} (hg : 0 ≤ g) (h2 : e = none → k ≠ 3 → g ≤ 65536) : PG (mPost m k f t g e) := ⟨hP.1, PG.ins hP.2 ⟨hg, h2⟩⟩
theorem pot_sQ {h : Nat} {q : List Nat} (hh : h < 6) : pot E (sQ m h q) + 131290 * ((m.2.2.2.1 h).map E.2.2.1).sum = pot E m + 131290 * (q.map E.2.2.1).sum := by
  have s4 := sumQ_up E m.2.2.2.1 hh q
  have s1 : s6 (hw (sQ m h q)) = s6 (hw m) := by
    have : ∀ v, hw (sQ m h q) v = hw m v := fun v => hw_same (ups_k (by decide)) (ups_k (by decide)) (ups_k (by decide))
    unfold s6
    rw [this, this, this, this, this, this]
  have e : pot E (sQ m h q) = s6 (hw (sQ m h q)) + 131290 * sumQ E (up1 m.2.2.2.1 h q) 6 + sumW E m.2.2.2.2 := rfl
  rw [e, s1]
  unfold pot
  omega
theorem PG.sQ (hP : PG m) {h : Nat} {q : List Nat} : PG (sQ m h q) := by
  refine ⟨fun v hv => ?_, hP.2⟩
  obtain ⟨a1, a2, a3⟩ := hP.1 v hv
  refine ⟨?_, ?_, ?_⟩
  · show 0 ≤ ups m.2.2.1 h 3 (nI q.length) v 1
    rw [ups_k (by decide)]; exact a1
  · show 0 ≤ ups m.2.2.1 h 3 (nI q.length) v 2
    rw [ups_k (by decide)]; exact a2
  · show ups m.2.2.1 h 3 (nI q.length) v 3 = nI (up1 m.2.2.2.1 h q v).length
    by_cases c : v = h
    · rw [c, ups_s, up1_s]
    · rw [ups_a c, up1_n c]; exact a3
theorem pot_z {k : Nat} {x : Int32} : pot E (sZ m k x) = pot E m := rfl
theorem pot_sendL (hE : EOk E Gd) {h : Nat} (hh : h < 6) (c : Nat) : ∀ (m : MS), PG m → (∀ e ∈ m.2.2.2.1 h, Gd e) → PG (mSendL E h c m) ∧ pot E (mSendL E h c m) ≤ pot E m ∧ (0 < c → m.2.2.2.1 h ≠ [] → 2 * m.1 2 ≤ m.2.2.1 h 1 → pot E (mSendL E h c m) + 65536 ≤ pot E m) := by
  induction c with
  | zero => intro m hP _; exact ⟨hP, Nat.le_refl _, fun h => absurd h (Nat.lt_irrefl _)⟩
  | succ c ih =>
    intro m hP hq
    have e0 : mSendL E h (c + 1) m = if 2 * m.1 2 ≤ m.2.2.1 h 1 then mSendL E h c (mSendF E h m) else m := rfl
    rw [e0]
    by_cases hc : 2 * m.1 2 ≤ m.2.2.1 h 1
    · rw [if_pos hc]
      obtain ⟨i1, i2, -⟩ := ih (mSendF E h m) (by
        cases hQ : m.2.2.2.1 h with
        | nil => rw [show mSendF E h m = m by unfold mSendF; rw [hQ]]; exact hP
        | cons a q => exact (pot_sendF hE hP hh hQ (hq a (by rw [hQ]; exact List.mem_cons_self))).1) (sendF_q hq)
      cases hQ : m.2.2.2.1 h with
      | nil =>
        rw [show mSendF E h m = m by unfold mSendF; rw [hQ]] at i1 i2 ⊢
        exact ⟨i1, i2, fun _ q => absurd rfl q⟩
      | cons a q =>
        have hs := (pot_sendF hE hP hh hQ (hq a (by rw [hQ]; exact List.mem_cons_self))).2
        exact ⟨i1, by omega, fun _ _ _ => by omega⟩
    · rw [if_neg hc]
      exact ⟨hP, Nat.le_refl _, fun _ _ q => absurd q hc⟩
theorem wt_none {k f t g a : Int32} (hk : k ≠ 3) : wt E (mg k f t g a, none) = 65536 := if_neg hk
theorem pot_ask (hP : PG m) {h : Nat} (hh : h < 6) : PG (mAsk h m) ∧ pot E (mAsk h m) ≤ pot E m + 65536 ∧ (m.2.2.2.1 h = [] → mAsk h m = m) := by
  unfold mAsk
  by_cases hc : 0 < m.2.2.1 h 3 ∧ m.2.2.1 h 4 = 0
  · rw [if_pos hc]
    refine ⟨((hP.sH (by decide) (fun q => absurd q (by decide))).sH (by decide) (fun q => absurd q (by decide))).post (by decide) (fun _ _ => by decide), ?_, fun q => ?_⟩
    · rw [pot_post, pot_sHo hh (by decide), pot_sHo hh (by decide), wt_none (by decide)]
      exact Nat.le_refl _
    · have := (hP.1 h hh).2.2
      rw [q] at this
      rw [this] at hc
      exact absurd hc.1 (by decide)
  · rw [if_neg hc]
    exact ⟨hP, by omega, fun _ => rfl⟩
theorem pot_send (hE : EOk E Gd) (hP : PG m) {h : Nat} (hh : h < 6) (hq : ∀ e ∈ m.2.2.2.1 h, Gd e) : PG (mSend E h m) ∧ pot E (mSend E h m) ≤ pot E m + 65536 ∧ ((m.2.2.2.1 h = [] ∨ 2 * m.1 2 ≤ m.2.2.1 h 1) → pot E (mSend E h m) ≤ pot E m) := by
  obtain ⟨i1, i2, i3⟩ := pot_sendL hE hh (m.2.2.2.1 h).length m hP hq
  obtain ⟨a1, a2, a3⟩ := pot_ask (E := E) i1 hh
  have e : mSend E h m = mAsk h (mSendL E h (m.2.2.2.1 h).length m) := rfl
  rw [e]
  refine ⟨a1, by omega, fun hc => ?_⟩
  by_cases hQ : m.2.2.2.1 h = []
  · have e0 : mSendL E h (m.2.2.2.1 h).length m = m := by rw [hQ]; rfl
    rw [e0] at a3 ⊢
    rw [a3 hQ]
    exact Nat.le_refl _
  · have := i3 (List.length_pos_iff.mpr hQ) hQ (hc.resolve_left hQ)
    omega
theorem add_nI {x y : Int32} (hx : 0 ≤ x) (hy : 0 ≤ y) (hs : gN x + gN y < 2 ^ 31) : 0 ≤ x + y ∧ gN (x + y) = gN x + gN y := by
  obtain ⟨x1, x2⟩ := gN_of hx
  obtain ⟨y1, y2⟩ := gN_of hy
  have e : x + y = nI (gN x + gN y) := by
    conv => lhs; rw [x1, y1]
    exact nI_add _ _
  rw [e, gN_n hs]
  exact ⟨nI_pos' hs, rfl⟩
theorem coin_of {x : Int32} (h1 : 2 ≤ x) (h2 : x ≤ 16) : 0 ≤ (1 : Int32) <<< (x &&& 31) ∧ (1 : Int32) <<< (x &&& 31) ≤ 65536 := by
  obtain ⟨j, hj, e⟩ := nI_of (x := x) (fun q => absurd (Int32.lt_of_lt_of_le q (Int32.le_trans (by decide : (0 : Int32) ≤ 2) h1)) Int32.lt_irrefl)
  subst e
  have j1 := (nI_leI (a := 2) (by omega) hj).mp h1
  have j2 := (nI_leI (b := 16) hj (by omega)).mp h2
  have : ∀ j, j < 17 → 0 ≤ (1 : Int32) <<< (nI j &&& 31) ∧ (1 : Int32) <<< (nI j &&& 31) ≤ 65536 := by decide +kernel
  exact this j (by omega)
theorem gN_le {x : Int32} {k : Nat} (hx : 0 ≤ x) (hk : x ≤ nI k) (hk2 : k < 2 ^ 31) : gN x ≤ k := by
  obtain ⟨x1, x2⟩ := gN_of hx
  rw [x1] at hk
  exact (nI_leI x2 hk2).mp hk
theorem two_le {p x : Int32} (h1 : 1 ≤ p) (h2 : p ≤ 99) (hx : 0 ≤ x) : 2 * p ≤ x ∨ gN x < 198 := by
  obtain ⟨j, hj, e⟩ := nI_of (x := p) (fun q => absurd (Int32.lt_of_lt_of_le q (Int32.le_trans (by decide : (0 : Int32) ≤ 1) h1)) Int32.lt_irrefl)
  subst e
  have j2 := (nI_leI (b := 99) hj (by omega)).mp h2
  obtain ⟨x1, x2⟩ := gN_of hx
  by_cases hc : 2 * j ≤ gN x
  · refine Or.inl ?_
    rw [x1, show (2 : Int32) = nI 2 from rfl, pk_mul]
    exact (nI_leI (by omega) x2).mpr hc
  · exact Or.inr (by omega)
/-- an arrival brings nothing more -/
theorem pot_arr (hE : EOk E Gd) (hW : EW E Gd) {x : Mg} (hP : PG (hdM x m)) (hK : pot E (hdM x m) ≤ 2 ^ 30) (hx : MgOk Gd x) (hq : ∀ h, h < 6 → ∀ e ∈ m.2.2.2.1 h, Gd e) (z1 : 2 ≤ m.1 1) (z2 : m.1 1 ≤ 16) (z3 : 1 ≤ m.1 2) (z4 : m.1 2 ≤ 99) : PG (mArr E x m) ∧ pot E (mArr E x m) ≤ pot E (hdM x m) := by
  have hPm : PG m := ⟨hP.1, fun y hy => hP.2 y (List.mem_cons_of_mem _ hy)⟩
  obtain ⟨x1, x2⟩ := hP.2 x List.mem_cons_self
  have hp : pot E (hdM x m) = pot E m + wt E x := by
    have e : pot E (hdM x m) = s6 (hw m) + 131290 * sumQ E m.2.2.2.1 6 + sumW E (x :: m.2.2.2.2) := rfl
    rw [e, sumW_cons]
    unfold pot
    omega
  rw [hp] at hK ⊢
  obtain ⟨f, t, hf, ht, e1, e2, hk⟩ := hx
  have c1 : (x.1 1).toNatClampNeg = f := by rw [e1]; exact nI_clamp (by omega)
  have c2 : (x.1 2).toNatClampNeg = t := by rw [e2]; exact nI_clamp (by omega)
  have hwm : ∀ h, h < 6 → hw m h ≤ pot E m := fun h hh => pot_h hh
  unfold mArr
  rw [c1, c2]
  rcases hk with ⟨k0, ht6, a, ha, hg⟩ | ⟨k1, hf6, hn⟩ | ⟨k2, ht6, hn⟩ | ⟨k3, hf6, hn⟩
  · rw [k0, if_neg (by decide), if_neg (by decide), if_neg (by decide), ha]
    have hwx : wt E x = 131290 * (E.2.2.1 a - 1) + 65556 + gN (x.1 3) := by
      unfold wt
      rw [k0, if_neg (by decide), ha]
    rw [hwx] at hK ⊢
    obtain ⟨p1, p2, p3⟩ := hPm.1 t ht6
    have ht' := hwm t ht6
    unfold hw at ht'
    obtain ⟨s1, s2⟩ := add_nI p1 x1 (by omega)
    obtain ⟨w, w1, w2⟩ := hW a hg
    have hwt : gN (E.2.1 a) = w := by rw [w2]; exact gN_n (by omega)
    obtain ⟨s3, s4⟩ := add_nI p2 (y := E.2.1 a) (by rw [w2]; exact nI_pos' (by omega)) (by omega)
    have q0 := pot_sH (E := E) (m := m) (h := t) (k := 1) (x := m.2.2.1 t 1 + x.1 3) ht6
    have hA : PG (mTake E t a (sH m t 1 (m.2.2.1 t 1 + x.1 3))) := by
      refine PG.sQ (PG.sH (PG.sH (PG.sH (hPm.sH (by decide) (fun _ => s1)) (by decide) (fun q => absurd q (by decide))) (by decide) (fun q => absurd q (by decide))) (by decide) (fun _ => ?_))
      show 0 ≤ ups m.2.2.1 t 1 (m.2.2.1 t 1 + x.1 3) t 2 + E.2.1 a
      rw [ups_k (by decide)]
      exact s3
    have hpo : pot E (mTake E t a (sH m t 1 (m.2.2.1 t 1 + x.1 3))) + 65536 ≤ pot E m + (131290 * (E.2.2.1 a - 1) + 65556 + gN (x.1 3)) := by
      unfold mTake
      have q1 := pot_sQ (E := E) (m := sH (sH (sH (sH m t 1 (m.2.2.1 t 1 + x.1 3)) t 0 1) t 6 ((sH m t 1 (m.2.2.1 t 1 + x.1 3)).2.2.1 t 6 + 1)) t 2 ((sH m t 1 (m.2.2.1 t 1 + x.1 3)).2.2.1 t 2 + E.2.1 a)) (h := t) (q := m.2.2.2.1 t ++ E.2.2.2 a) ht6
      have q2 := pot_sH (E := E) (m := sH (sH (sH m t 1 (m.2.2.1 t 1 + x.1 3)) t 0 1) t 6 ((sH m t 1 (m.2.2.1 t 1 + x.1 3)).2.2.1 t 6 + 1)) (h := t) (k := 2) (x := (sH m t 1 (m.2.2.1 t 1 + x.1 3)).2.2.1 t 2 + E.2.1 a) ht6
      have q3 : pot E (sH (sH (sH m t 1 (m.2.2.1 t 1 + x.1 3)) t 0 1) t 6 ((sH m t 1 (m.2.2.1 t 1 + x.1 3)).2.2.1 t 6 + 1)) = pot E (sH m t 1 (m.2.2.1 t 1 + x.1 3)) := (pot_sHo ht6 (by decide)).trans (pot_sHo ht6 (by decide))
      rw [List.map_append, List.sum_append] at q1
      have hall := (hE a hg).2.2.2.1
      have h1 : hw (sH (sH (sH m t 1 (m.2.2.1 t 1 + x.1 3)) t 0 1) t 6 ((sH m t 1 (m.2.2.1 t 1 + x.1 3)).2.2.1 t 6 + 1)) t = hw (sH m t 1 (m.2.2.1 t 1 + x.1 3)) t := hw_same (by show ups (ups _ t 0 1) t 6 _ t 1 = _; rw [ups_k (by decide), ups_k (by decide)]) (by show ups (ups _ t 0 1) t 6 _ t 2 = _; rw [ups_k (by decide), ups_k (by decide)]) (by show ups (ups _ t 0 1) t 6 _ t 5 = _; rw [ups_k (by decide), ups_k (by decide)])
      have h2 : hw (sH m t 1 (m.2.2.1 t 1 + x.1 3)) t = max (gN (m.2.2.1 t 1) + gN (x.1 3)) 198 + gN (m.2.2.1 t 2) + 65536 * n01 (m.2.2.1 t 5) := by
        show max (gN (ups m.2.2.1 t 1 (m.2.2.1 t 1 + x.1 3) t 1)) 198 + gN (ups m.2.2.1 t 1 (m.2.2.1 t 1 + x.1 3) t 2) + 65536 * n01 (ups m.2.2.1 t 1 (m.2.2.1 t 1 + x.1 3) t 5) = _
        rw [ups_s, s2, ups_k (by decide), ups_k (by decide)]
      have h3 : hw (sH (sH (sH (sH m t 1 (m.2.2.1 t 1 + x.1 3)) t 0 1) t 6 ((sH m t 1 (m.2.2.1 t 1 + x.1 3)).2.2.1 t 6 + 1)) t 2 ((sH m t 1 (m.2.2.1 t 1 + x.1 3)).2.2.1 t 2 + E.2.1 a)) t = max (gN (m.2.2.1 t 1) + gN (x.1 3)) 198 + (gN (m.2.2.1 t 2) + w) + 65536 * n01 (m.2.2.1 t 5) := by
        show max (gN (ups (ups (ups (ups m.2.2.1 t 1 (m.2.2.1 t 1 + x.1 3)) t 0 1) t 6 _) t 2 (ups m.2.2.1 t 1 (m.2.2.1 t 1 + x.1 3) t 2 + E.2.1 a) t 1)) 198 + gN (ups (ups (ups (ups m.2.2.1 t 1 (m.2.2.1 t 1 + x.1 3)) t 0 1) t 6 _) t 2 (ups m.2.2.1 t 1 (m.2.2.1 t 1 + x.1 3) t 2 + E.2.1 a) t 2) + 65536 * n01 (ups (ups (ups (ups m.2.2.1 t 1 (m.2.2.1 t 1 + x.1 3)) t 0 1) t 6 _) t 2 (ups m.2.2.1 t 1 (m.2.2.1 t 1 + x.1 3) t 2 + E.2.1 a) t 5) = _
        rw [ups_s, ups_k (show (1 : Nat) ≠ 2 by decide), ups_k (show (1 : Nat) ≠ 6 by decide), ups_k (show (1 : Nat) ≠ 0 by decide), ups_s, s2, ups_k (show (2 : Nat) ≠ 1 by decide), s4, hwt, ups_k (show (5 : Nat) ≠ 2 by decide), ups_k (show (5 : Nat) ≠ 6 by decide), ups_k (show (5 : Nat) ≠ 0 by decide), ups_k (show (5 : Nat) ≠ 1 by decide)]
      rw [h1, h2, h3] at q2
      rw [h2] at q0
      have q0' : hw m t = max (gN (m.2.2.1 t 1)) 198 + gN (m.2.2.1 t 2) + 65536 * n01 (m.2.2.1 t 5) := rfl
      have q1' : ((sH (sH (sH (sH m t 1 (m.2.2.1 t 1 + x.1 3)) t 0 1) t 6 ((sH m t 1 (m.2.2.1 t 1 + x.1 3)).2.2.1 t 6 + 1)) t 2 ((sH m t 1 (m.2.2.1 t 1 + x.1 3)).2.2.1 t 2 + E.2.1 a)).2.2.2.1 t) = m.2.2.2.1 t := rfl
      rw [q1'] at q1
      show pot E (sQ (sH (sH (sH (sH m t 1 (m.2.2.1 t 1 + x.1 3)) t 0 1) t 6 ((sH m t 1 (m.2.2.1 t 1 + x.1 3)).2.2.1 t 6 + 1)) t 2 ((sH m t 1 (m.2.2.1 t 1 + x.1 3)).2.2.1 t 2 + E.2.1 a)) t (m.2.2.2.1 t ++ E.2.2.2 a)) + 65536 ≤ _
      omega
    obtain ⟨r1, r2, -⟩ := pot_send hE hA ht6 (fun e he => by
      have he : e ∈ up1 m.2.2.2.1 t (m.2.2.2.1 t ++ E.2.2.2 a) t := he
      rw [up1_s] at he
      rcases List.mem_append.mp he with q | q
      · exact hq t ht6 e q
      · exact (hE a hg).2.1 e q)
    show PG (mSend E t (mTake E t a (sH m t 1 (m.2.2.1 t 1 + x.1 3)))) ∧ pot E (mSend E t (mTake E t a (sH m t 1 (m.2.2.1 t 1 + x.1 3)))) ≤ _
    exact ⟨r1, by omega⟩
  · rw [k1, if_neg (by decide), if_pos rfl]
    have hwx : wt E x = 65536 := by
      unfold wt
      rw [k1, if_neg (by decide), hn]
    obtain ⟨cc1, cc2⟩ := coin_of z1 z2
    refine ⟨PG.post (m := mMint m) hPm cc1 (fun _ _ => cc2), ?_⟩
    rw [pot_post, wt_none (by decide), hwx]
    exact Nat.le_refl _
  · rw [k2, if_neg (by decide), if_neg (by decide), if_pos rfl]
    have hwx : wt E x = 65536 := by
      unfold wt
      rw [k2, if_neg (by decide), hn]
    rw [hwx] at hK ⊢
    have x3 := x2 hn (by rw [k2]; decide)
    have x4 : gN (x.1 3) ≤ 65536 := gN_le x1 (k := 65536) x3 (by omega)
    obtain ⟨p1, p2, p3⟩ := hPm.1 t ht6
    have ht' := hwm t ht6
    unfold hw at ht'
    obtain ⟨s1, s2⟩ := add_nI p1 x1 (by omega)
    have q0 := pot_sH (E := E) (m := m) (h := t) (k := 1) (x := m.2.2.1 t 1 + x.1 3) ht6
    have h2 : hw (sH m t 1 (m.2.2.1 t 1 + x.1 3)) t = max (gN (m.2.2.1 t 1) + gN (x.1 3)) 198 + gN (m.2.2.1 t 2) + 65536 * n01 (m.2.2.1 t 5) := by
      show max (gN (ups m.2.2.1 t 1 (m.2.2.1 t 1 + x.1 3) t 1)) 198 + gN (ups m.2.2.1 t 1 (m.2.2.1 t 1 + x.1 3) t 2) + 65536 * n01 (ups m.2.2.1 t 1 (m.2.2.1 t 1 + x.1 3) t 5) = _
      rw [ups_s, s2, ups_k (by decide), ups_k (by decide)]
    have q0' : hw m t = max (gN (m.2.2.1 t 1)) 198 + gN (m.2.2.1 t 2) + 65536 * n01 (m.2.2.1 t 5) := rfl
    have hA : PG (sH (sH m t 1 (m.2.2.1 t 1 + x.1 3)) t 4 0) := (hPm.sH (by decide) (fun _ => s1)).sH (by decide) (fun q => absurd q (by decide))
    have hpA : pot E (sH (sH m t 1 (m.2.2.1 t 1 + x.1 3)) t 4 0) = pot E (sH m t 1 (m.2.2.1 t 1 + x.1 3)) := pot_sHo ht6 (by decide)
    obtain ⟨r1, r2, r3⟩ := pot_send hE hA ht6 (hq t ht6)
    refine ⟨r1, ?_⟩
    rw [h2] at q0
    have hg1 : (sH (sH m t 1 (m.2.2.1 t 1 + x.1 3)) t 4 0).2.2.1 t 1 = m.2.2.1 t 1 + x.1 3 := by
      show ups (ups m.2.2.1 t 1 (m.2.2.1 t 1 + x.1 3)) t 4 0 t 1 = _
      rw [ups_k (by decide), ups_s]
    rcases two_le z3 z4 s1 with c | c
    · have := r3 (Or.inr (by rw [hg1]; exact c))
      omega
    · rw [s2] at c
      omega
  · rw [k3, if_pos rfl]
    exact ⟨hPm, Nat.le_add_right _ _⟩
end POT
