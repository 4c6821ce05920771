/-! WHAT IS HELD DOWN: grains and work never pass what an int holds. Each errand that waits may still bring two coins and its work -/
def gN (x : Int32) : Nat := x.toNatClampNeg
theorem gN_of {x : Int32} (h : 0 ≤ x) : x = nI (gN x) ∧ gN x < 2 ^ 31 := by
  obtain ⟨j, hj, e⟩ := nI_of (Int32.not_lt.mpr h)
  have : gN x = j := by rw [e]; exact nI_clamp hj
  rw [this]
  exact ⟨e, hj⟩
theorem gN_n {g : Nat} (h : g < 2 ^ 31) : gN (nI g) = g := nI_clamp h
def wt (E : EE) (x : Mg) : Nat := if x.1 0 = 3 then 0 else match x.2 with
  | some a => 131290 * (E.2.2.1 a - 1) + 65556 + gN (x.1 3)
  | none => 65536
def hw (m : MS) (h : Nat) : Nat := max (gN (m.2.2.1 h 1)) 198 + gN (m.2.2.1 h 2) + 65536 * n01 (m.2.2.1 h 5)
def sumW (E : EE) (ms : List Mg) : Nat := (ms.map (wt E)).sum
def pot (E : EE) (m : MS) : Nat := s6 (hw m) + 131290 * sumQ E m.2.2.2.1 6 + sumW E m.2.2.2.2
def PG (m : MS) : Prop := (∀ h, h < 6 → 0 ≤ m.2.2.1 h 1 ∧ 0 ≤ m.2.2.1 h 2 ∧ m.2.2.1 h 3 = nI (m.2.2.2.1 h).length) ∧ ∀ x ∈ m.2.2.2.2, 0 ≤ x.1 3 ∧ (x.2 = none → x.1 0 ≠ 3 → x.1 3 ≤ 65536)
def PI (E : EE) (K : Nat) (m : MS) : Prop := PG m ∧ pot E m ≤ K
def EW (E : EE) (Gd : Nat → Prop) : Prop := ∀ a, Gd a → ∃ w, w ≤ 20 ∧ E.2.1 a = nI w
theorem s6_up {f g : Nat → Nat} {h : Nat} (hh : h < 6) (he : ∀ q, q < 6 → q ≠ h → g q = f q) : s6 g + f h = s6 f + g h := by
  unfold s6
  rcases (show h = 0 ∨ h = 1 ∨ h = 2 ∨ h = 3 ∨ h = 4 ∨ h = 5 by omega) with e | e | e | e | e | e <;> subst e
  · rw [he 1 (by omega) (by omega), he 2 (by omega) (by omega), he 3 (by omega) (by omega), he 4 (by omega) (by omega), he 5 (by omega) (by omega)]; omega
  · rw [he 0 (by omega) (by omega), he 2 (by omega) (by omega), he 3 (by omega) (by omega), he 4 (by omega) (by omega), he 5 (by omega) (by omega)]; omega
  · rw [he 0 (by omega) (by omega), he 1 (by omega) (by omega), he 3 (by omega) (by omega), he 4 (by omega) (by omega), he 5 (by omega) (by omega)]; omega
  · rw [he 0 (by omega) (by omega), he 1 (by omega) (by omega), he 2 (by omega) (by omega), he 4 (by omega) (by omega), he 5 (by omega) (by omega)]; omega
  · rw [he 0 (by omega) (by omega), he 1 (by omega) (by omega), he 2 (by omega) (by omega), he 3 (by omega) (by omega), he 5 (by omega) (by omega)]; omega
  · rw [he 0 (by omega) (by omega), he 1 (by omega) (by omega), he 2 (by omega) (by omega), he 3 (by omega) (by omega), he 4 (by omega) (by omega)]; omega
theorem sumW_cons (E : EE) (x : Mg) (ms : List Mg) : sumW E (x :: ms) = wt E x + sumW E ms := by
  unfold sumW
  rw [List.map_cons, List.sum_cons]
theorem sumW_ins (E : EE) (x : Mg) (ms : List Mg) : sumW E (ins x ms) = wt E x + sumW E ms := by
  rw [← sumW_cons]
  unfold sumW
  exact ((ins_perm x ms).map (wt E)).sum_nat
theorem pot_h {E : EE} {m : MS} {h : Nat} (hh : h < 6) : hw m h ≤ pot E m := by
  have := s6_one (f := hw m) hh
  unfold pot
  omega
section POT
variable {E : EE} {Gd : Nat → Prop} {m : MS}
theorem PG.ins {y : Mg} {ms : List Mg} (h : ∀ x ∈ ms, 0 ≤ x.1 3 ∧ (x.2 = none → x.1 0 ≠ 3 → x.1 3 ≤ 65536)) (hy : 0 ≤ y.1 3 ∧ (y.2 = none → y.1 0 ≠ 3 → y.1 3 ≤ 65536)) : ∀ x ∈ ins y ms, 0 ≤ x.1 3 ∧ (x.2 = none → x.1 0 ≠ 3 → x.1 3 ≤ 65536) := fun x hx => by
  rcases List.mem_cons.mp ((ins_perm y ms).mem_iff.mp hx) with e | e
  · rw [e]; exact hy
  · exact h x e
theorem pot_sendF (hE : EOk E Gd) (hP : PG m) {h a : Nat} {q : List Nat} (hh : h < 6) (hq : m.2.2.2.1 h = a :: q) (ha : Gd a) : PG (mSendF E h m) ∧ pot E (mSendF E h m) + 65536 ≤ pot E m := by
  have hEa := (hE a ha).2.2.2.1
  obtain ⟨p1, p2, p3⟩ := hP.1 h hh
  obtain ⟨g1, g2⟩ := gN_of p1
  have d2 : m.2.2.1 h 1 / 2 = nI (gN (m.2.2.1 h 1) / 2) := by
    conv => lhs; rw [g1]
    exact pk_div g2 (d := 2) (by omega) (by omega)
  have d1 : m.2.2.1 h 1 - m.2.2.1 h 1 / 2 = nI (gN (m.2.2.1 h 1) - gN (m.2.2.1 h 1) / 2) := by
    rw [d2]
    conv => lhs; lhs; rw [g1]
    exact pk_sub (by omega)
  have e : mSendF E h m = mPost (sQ (sH (sH m h 1 (m.2.2.1 h 1 - m.2.2.1 h 1 / 2)) h 7 (m.2.2.1 h 7 + 1)) h q) 0 h (E.1 a) (m.2.2.1 h 1 / 2) (some a) := by unfold mSendF; rw [hq]
  rw [e, d1, d2]
  generalize gN (m.2.2.1 h 1) = g at g1 g2
  have f1 : ∀ v k, k ≠ 7 → k ≠ 3 → ups (ups (ups m.2.2.1 h 1 (nI (g - g / 2))) h 7 (m.2.2.1 h 7 + 1)) h 3 (nI q.length) v k = ups m.2.2.1 h 1 (nI (g - g / 2)) v k := fun v k k7 k3 => by rw [ups_k k3, ups_k k7]
  refine ⟨⟨fun v hv => ?_, ?_⟩, ?_⟩
  · obtain ⟨a1, a2, a3⟩ := hP.1 v hv
    refine ⟨?_, ?_, ?_⟩
    · show 0 ≤ ups (ups (ups m.2.2.1 h 1 (nI (g - g / 2))) h 7 (m.2.2.1 h 7 + 1)) h 3 (nI q.length) v 1
      rw [f1 v 1 (by decide) (by decide)]
      by_cases c : v = h
      · rw [c, ups_s]; exact nI_pos' (by omega)
      · rw [ups_a c]; exact a1
    · show 0 ≤ ups (ups (ups m.2.2.1 h 1 (nI (g - g / 2))) h 7 (m.2.2.1 h 7 + 1)) h 3 (nI q.length) v 2
      rw [f1 v 2 (by decide) (by decide), ups_k (by decide)]
      exact a2
    · show ups (ups (ups m.2.2.1 h 1 (nI (g - g / 2))) h 7 (m.2.2.1 h 7 + 1)) h 3 (nI q.length) v 3 = nI (up1 m.2.2.2.1 h q v).length
      by_cases c : v = h
      · rw [c, ups_s, up1_s]
      · rw [ups_a c, up1_n c, ups_a c, ups_a c]; exact a3
  · exact PG.ins hP.2 ⟨nI_pos' (show g / 2 < 2 ^ 31 by omega), fun c => by cases c⟩
  · have s1 := s6_up (f := hw m) (g := hw (mPost (sQ (sH (sH m h 1 (nI (g - g / 2))) h 7 (m.2.2.1 h 7 + 1)) h q) 0 h (E.1 a) (nI (g / 2)) (some a))) hh (fun v _ hvh => by
      show max (gN (ups (ups (ups m.2.2.1 h 1 (nI (g - g / 2))) h 7 (m.2.2.1 h 7 + 1)) h 3 (nI q.length) v 1)) 198 + gN (ups (ups (ups m.2.2.1 h 1 (nI (g - g / 2))) h 7 (m.2.2.1 h 7 + 1)) h 3 (nI q.length) v 2) + 65536 * n01 (ups (ups (ups m.2.2.1 h 1 (nI (g - g / 2))) h 7 (m.2.2.1 h 7 + 1)) h 3 (nI q.length) v 5) = _
      rw [ups_a hvh, ups_a hvh, ups_a hvh, ups_a hvh, ups_a hvh, ups_a hvh, ups_a hvh, ups_a hvh, ups_a hvh]
      rfl)
    have s2 : hw (mPost (sQ (sH (sH m h 1 (nI (g - g / 2))) h 7 (m.2.2.1 h 7 + 1)) h q) 0 h (E.1 a) (nI (g / 2)) (some a)) h = max (g - g / 2) 198 + gN (m.2.2.1 h 2) + 65536 * n01 (m.2.2.1 h 5) := by
      show max (gN (ups (ups (ups m.2.2.1 h 1 (nI (g - g / 2))) h 7 (m.2.2.1 h 7 + 1)) h 3 (nI q.length) h 1)) 198 + gN (ups (ups (ups m.2.2.1 h 1 (nI (g - g / 2))) h 7 (m.2.2.1 h 7 + 1)) h 3 (nI q.length) h 2) + 65536 * n01 (ups (ups (ups m.2.2.1 h 1 (nI (g - g / 2))) h 7 (m.2.2.1 h 7 + 1)) h 3 (nI q.length) h 5) = _
      rw [f1 h 1 (by decide) (by decide), f1 h 2 (by decide) (by decide), f1 h 5 (by decide) (by decide), ups_s, ups_k (by decide), ups_k (by decide), gN_n (by omega)]
    have s3 : hw m h = max g 198 + gN (m.2.2.1 h 2) + 65536 * n01 (m.2.2.1 h 5) := by
      unfold hw
      rw [g1, gN_n g2]
    rw [s2, s3] at s1
    have s4 := sumQ_up E m.2.2.2.1 hh q
    rw [hq, List.map_cons, List.sum_cons] at s4
    have s5 : pot E (mPost (sQ (sH (sH m h 1 (nI (g - g / 2))) h 7 (m.2.2.1 h 7 + 1)) h q) 0 h (E.1 a) (nI (g / 2)) (some a)) = s6 (hw (mPost (sQ (sH (sH m h 1 (nI (g - g / 2))) h 7 (m.2.2.1 h 7 + 1)) h q) 0 h (E.1 a) (nI (g / 2)) (some a))) + 131290 * sumQ E (up1 m.2.2.2.1 h q) 6 + (131290 * (E.2.2.1 a - 1) + 65556 + g / 2 + sumW E m.2.2.2.2) := by
      unfold pot
      refine congrArg (fun v => s6 (hw (mPost (sQ (sH (sH m h 1 (nI (g - g / 2))) h 7 (m.2.2.1 h 7 + 1)) h q) 0 h (E.1 a) (nI (g / 2)) (some a))) + 131290 * sumQ E (up1 m.2.2.2.1 h q) 6 + v) ?_
      refine (sumW_ins E _ _).trans (congrArg (fun v => v + sumW E m.2.2.2.2) ?_)
      show (if (0 : Int32) = 3 then 0 else 131290 * (E.2.2.1 a - 1) + 65556 + gN (nI (g / 2))) = _
      rw [if_neg (by decide), gN_n (by omega)]
    rw [s5]
    unfold pot
    omega
end POT
