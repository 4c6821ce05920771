/-! P25: WHAT IS COUNTED. Sums over messages, three ledgers, a house in order -/
def sumF (w : Mg → Int32) : List Mg → Int32
  | [] => 0
  | x :: l => w x + sumF w l
theorem sumF_perm {w : Mg → Int32} {l l' : List Mg} (h : List.Perm l l') : sumF w l = sumF w l' := by
  induction h with
  | nil => rfl
  | cons x _ ih => show w x + _ = w x + _; rw [ih]
  | swap x y l =>
    show w y + (w x + sumF w l) = w x + (w y + sumF w l)
    rw [← Int32.add_assoc, ← Int32.add_assoc, Int32.add_comm (w y)]
  | trans _ _ i1 i2 => exact i1.trans i2
def insO : Option Mg → List Mg → List Mg
  | none, ms => ms
  | some y, ms => ins y ms
def oF (w : Mg → Int32) : Option Mg → Int32
  | none => 0
  | some y => w y
def oN (w : Mg → Nat) : Option Mg → Nat
  | none => 0
  | some y => w y
theorem sumF_insO (w : Mg → Int32) (yo : Option Mg) (ms : List Mg) : sumF w (insO yo ms) = oF w yo + sumF w ms := by
  cases yo with
  | none => exact (Int32.zero_add _).symm
  | some y => exact sumF_perm (ins_perm y ms)
def sumN (w : Mg → Nat) (ms : List Mg) : Nat := (ms.map w).sum
theorem sumN_cons (w : Mg → Nat) (y : Mg) (ms : List Mg) : sumN w (y :: ms) = w y + sumN w ms := by unfold sumN; rw [List.map_cons, List.sum_cons]
theorem sumN_insO (w : Mg → Nat) (yo : Option Mg) (ms : List Mg) : sumN w (insO yo ms) = oN w yo + sumN w ms := by
  cases yo with
  | none => exact (Nat.zero_add _).symm
  | some y =>
    show sumN w (ins y ms) = w y + sumN w ms
    rw [← sumN_cons]
    unfold sumN
    exact ((ins_perm y ms).map w).sum_nat
def agN (h : Nat) (x : Mg) : Nat := if agOf h x = true then 1 else 0
theorem cnt_insO (h : Nat) (yo : Option Mg) (ms : List Mg) : (insO yo ms).countP (agOf h) = ms.countP (agOf h) + oN (agN h) yo := by
  cases yo with
  | none => rfl
  | some y => exact cnt_ins (agOf h) y ms
theorem mem_insO {x : Mg} {yo : Option Mg} {ms : List Mg} (h : x ∈ insO yo ms) : yo = some x ∨ x ∈ ms := by
  cases yo with
  | none => exact Or.inr h
  | some y =>
    rcases List.mem_cons.mp ((ins_perm y ms).mem_iff.mp h) with e | e
    · exact Or.inl (by rw [e])
    · exact Or.inr e
def kC (k : Int32) (x : Mg) : Int32 := if x.1 0 = k then 1 else 0
def g3 (x : Mg) : Int32 := x.1 3
def gN3 (x : Mg) : Nat := gN (x.1 3)
def L1 (m : MS) : Int32 := m.1 8 + m.1 9 - m.1 7 + sumH m.2.2.1 1 6 + sumF g3 m.2.2.2.2
def L2 (m : MS) : Int32 := sumH m.2.2.1 7 6 + m.1 10 - sumH m.2.2.1 6 6 - sumF (kC 0) m.2.2.2.2
def L3 (m : MS) : Int32 := m.1 10 + sumH m.2.2.1 8 6 - sumF (kC 1) m.2.2.2.2 - m.1 11
def tN (m : MS) : Nat := gN (m.1 8) + gN (m.1 9) + s6 (fun h => gN (m.2.2.1 h 1)) + sumN gN3 m.2.2.2.2
def MV (x : Mg) : Prop := (x.1 0 = 0 ∧ 1 ≤ x.1 3) ∨ (x.1 0 = 1 ∧ x.1 2 = 6 ∧ x.1 3 = 0) ∨ (x.1 0 = 2 ∧ x.1 1 = 6 ∧ 4 ≤ x.1 3) ∨ (x.1 0 = 3 ∧ x.1 2 = 6 ∧ 1 ≤ x.1 3)
def HR (c : Nat) (R : Nat → Int32) (q : List Nat) (w u : Prop) : Prop :=
  (R 0 = 0 ∨ R 0 = 1) ∧ (R 4 = 0 ∨ R 4 = 1) ∧ (R 5 = 0 ∨ R 5 = 1) ∧ (R 0 = 1 → 1 ≤ R 1) ∧ (R 0 = 0 → R 1 = 0 ∧ R 2 = 0 ∧ q = [] ∧ R 4 = 0) ∧ c + n01 (R 5) = n01 (R 4) ∧ (w → q ≠ [] → R 4 = 1) ∧ (u → R 5 = 0) ∧ R 3 = nI q.length
theorem HR.weak {c : Nat} {R : Nat → Int32} {q : List Nat} {w u w' u' : Prop} (h : HR c R q w u) (hw : w' → w) (hu : u' → u) : HR c R q w' u' := by
  obtain ⟨a1, a2, a3, a4, a5, a6, a7, a8, a9⟩ := h
  exact ⟨a1, a2, a3, a4, a5, a6, fun k => a7 (hw k), fun k => a8 (hu k), a9⟩
/-- d1, d2, d3: the ledgers; z: is something lost; B: a bound of all grains, t of them in the hand; e: asks in the hand; W: the houses that have sent what they can; u: those whose ask isn't lost -/
def CI (d1 d2 d3 z : Int32) (B t : Nat) (e : Nat → Nat) (W u : Nat → Prop) (m : MS) : Prop :=
  (L1 m = d1 ∧ L2 m = d2 ∧ L3 m = d3 ∧ m.1 13 = z ∧ 0 ≤ m.1 8 ∧ 0 ≤ m.1 9) ∧ tN m + t ≤ B ∧ (∀ h, h < 6 → HR (m.2.2.2.2.countP (agOf h) + e h) (m.2.2.1 h) (m.2.2.2.1 h) (W h) (u h)) ∧ ∀ x ∈ m.2.2.2.2, MV x
theorem sumH_up {H H' : Nat → Nat → Int32} {h f : Nat} (hh : h < 6) (ho : ∀ v, v < 6 → v ≠ h → H' v f = H v f) : sumH H' f 6 = sumH H f 6 - H h f + H' h f := by
  have e : ∀ K : Nat → Nat → Int32, sumH K f 6 = 0 + K 0 f + K 1 f + K 2 f + K 3 f + K 4 f + K 5 f := fun _ => rfl
  rw [e, e]
  rcases (show h = 0 ∨ h = 1 ∨ h = 2 ∨ h = 3 ∨ h = 4 ∨ h = 5 by omega) with q | q | q | q | q | q <;> subst q
  · rw [ho 1 (by omega) (by omega), ho 2 (by omega) (by omega), ho 3 (by omega) (by omega), ho 4 (by omega) (by omega), ho 5 (by omega) (by omega)]; grind
  · rw [ho 0 (by omega) (by omega), ho 2 (by omega) (by omega), ho 3 (by omega) (by omega), ho 4 (by omega) (by omega), ho 5 (by omega) (by omega)]; grind
  · rw [ho 0 (by omega) (by omega), ho 1 (by omega) (by omega), ho 3 (by omega) (by omega), ho 4 (by omega) (by omega), ho 5 (by omega) (by omega)]; grind
  · rw [ho 0 (by omega) (by omega), ho 1 (by omega) (by omega), ho 2 (by omega) (by omega), ho 4 (by omega) (by omega), ho 5 (by omega) (by omega)]; grind
  · rw [ho 0 (by omega) (by omega), ho 1 (by omega) (by omega), ho 2 (by omega) (by omega), ho 3 (by omega) (by omega), ho 5 (by omega) (by omega)]; grind
  · rw [ho 0 (by omega) (by omega), ho 1 (by omega) (by omega), ho 2 (by omega) (by omega), ho 3 (by omega) (by omega), ho 4 (by omega) (by omega)]; grind
section CIS
variable {E : EE} {Gd : Nat → Prop} {m m' : MS} {d1 d2 d3 z : Int32} {B t : Nat} {e : Nat → Nat} {W u : Nat → Prop}
/-- one house and at most one new message -/
theorem CI.upd {d1' d2' d3' z' : Int32} {B' t' : Nat} {e' : Nat → Nat} {W' u' : Nat → Prop} {h : Nat} {yo : Option Mg} (hI : CI d1 d2 d3 z B t e W u m) (hh : h < 6) (hH : ∀ v, v < 6 → v ≠ h → m'.2.2.1 v = m.2.2.1 v) (hQ : ∀ v, v < 6 → v ≠ h → m'.2.2.2.1 v = m.2.2.2.1 v) (hM : m'.2.2.2.2 = insO yo m.2.2.2.2)
    (k1 : m'.1 8 + m'.1 9 - m'.1 7 + m'.2.2.1 h 1 + oF g3 yo = d1' - d1 + (m.1 8 + m.1 9 - m.1 7 + m.2.2.1 h 1))
    (k2 : m'.2.2.1 h 7 + m'.1 10 - m'.2.2.1 h 6 - oF (kC 0) yo = d2' - d2 + (m.2.2.1 h 7 + m.1 10 - m.2.2.1 h 6))
    (k3 : m'.1 10 + m'.2.2.1 h 8 - oF (kC 1) yo - m'.1 11 = d3' - d3 + (m.1 10 + m.2.2.1 h 8 - m.1 11))
    (kz : m'.1 13 = z' ∧ 0 ≤ m'.1 8 ∧ 0 ≤ m'.1 9)
    (kN : gN (m'.1 8) + gN (m'.1 9) + gN (m'.2.2.1 h 1) + oN gN3 yo + t' + B ≤ gN (m.1 8) + gN (m.1 9) + gN (m.2.2.1 h 1) + t + B')
    (kh : HR (m.2.2.2.2.countP (agOf h) + oN (agN h) yo + e' h) (m'.2.2.1 h) (m'.2.2.2.1 h) (W' h) (u' h))
    (ko : ∀ v, v < 6 → v ≠ h → oN (agN v) yo + e' v = e v ∧ (W' v → W v) ∧ (u' v → u v))
    (ky : ∀ y, yo = some y → MV y) : CI d1' d2' d3' z' B' t' e' W' u' m' := by
  obtain ⟨⟨i1, i2, i3, i4, i5, i6⟩, iB, ih, iM⟩ := hI
  have s1 := sumH_up (f := 1) hh (fun v hv hn => congrFun (hH v hv hn) 1)
  have s6' := sumH_up (f := 6) hh (fun v hv hn => congrFun (hH v hv hn) 6)
  have s7 := sumH_up (f := 7) hh (fun v hv hn => congrFun (hH v hv hn) 7)
  have s8 := sumH_up (f := 8) hh (fun v hv hn => congrFun (hH v hv hn) 8)
  refine ⟨⟨?_, ?_, ?_, kz⟩, ?_, fun v hv => ?_, fun x hx => ?_⟩
  · unfold L1 at i1 ⊢
    rw [s1, hM, sumF_insO]
    grind
  · unfold L2 at i2 ⊢
    rw [s7, s6', hM, sumF_insO]
    grind
  · unfold L3 at i3 ⊢
    rw [s8, hM, sumF_insO]
    grind
  · have q := s6_up (f := fun h => gN (m.2.2.1 h 1)) (g := fun h => gN (m'.2.2.1 h 1)) hh (fun v hv hn => by show gN (m'.2.2.1 v 1) = gN (m.2.2.1 v 1); rw [hH v hv hn])
    have q : s6 (fun h => gN (m'.2.2.1 h 1)) + gN (m.2.2.1 h 1) = s6 (fun h => gN (m.2.2.1 h 1)) + gN (m'.2.2.1 h 1) := q
    unfold tN at iB ⊢
    rw [hM, sumN_insO]
    omega
  · by_cases c : v = h
    · subst c
      rw [hM, cnt_insO]
      exact kh
    · obtain ⟨o1, o2, o3⟩ := ko v hv c
      rw [hM, cnt_insO, hH v hv c, hQ v hv c, Nat.add_assoc, o1]
      exact (ih v hv).weak o2 o3
  · rw [hM] at hx
    rcases mem_insO hx with q | q
    · exact ky x q
    · exact iM x q
theorem CI.reW {W' u' : Nat → Prop} (hI : CI d1 d2 d3 z B t e W u m) (hw : ∀ v, v < 6 → W' v → (W v ∨ (m.2.2.2.1 v ≠ [] → m.2.2.1 v 4 = 1))) (hu : ∀ v, v < 6 → u' v → (u v ∨ m.2.2.1 v 5 = 0)) : CI d1 d2 d3 z B t e W' u' m := by
  obtain ⟨i1, iB, ih, iM⟩ := hI
  refine ⟨i1, iB, fun v hv => ?_, iM⟩
  obtain ⟨a1, a2, a3, a4, a5, a6, a7, a8, a9⟩ := ih v hv
  refine ⟨a1, a2, a3, a4, a5, a6, fun k => ?_, fun k => ?_, a9⟩
  · rcases hw v hv k with q | q
    · exact a7 q
    · exact q
  · rcases hu v hv k with q | q
    · exact a8 q
    · exact q
theorem CI.more {B' : Nat} (hI : CI d1 d2 d3 z B t e W u m) (h : B ≤ B') : CI d1 d2 d3 z B' t e W u m := ⟨hI.1, Nat.le_trans hI.2.1 h, hI.2.2⟩
theorem ag_0 {v : Nat} {x : Mg} (h1 : x.1 0 ≠ 1) (h2 : x.1 0 ≠ 2) : agN v x = 0 := if_neg (fun c => by
  rcases of_decide_eq_true c with c | c
  · exact h1 c.1
  · exact h2 c.1)
theorem ag_ask {v f : Nat} {x : Mg} (h1 : x.1 0 = 1) (hf : x.1 1 = nI f) (hv : v < 6) (hf7 : f < 7) : agN v x = if v = f then 1 else 0 := by
  unfold agN
  by_cases c : v = f
  · rw [if_pos c]
    exact if_pos (decide_eq_true (Or.inl ⟨h1, by rw [c]; exact hf⟩))
  · rw [if_neg c]
    refine if_neg (fun q => ?_)
    rcases of_decide_eq_true q with q | q
    · rw [hf] at q
      exact c ((nI_eq (by omega) (by omega)).mp q.2).symm
    · rw [h1] at q
      exact absurd q.1 (by decide)
theorem ag_grant {v f : Nat} {x : Mg} (h1 : x.1 0 = 2) (hf : x.1 2 = nI f) (hv : v < 6) (hf7 : f < 7) : agN v x = if v = f then 1 else 0 := by
  unfold agN
  by_cases c : v = f
  · rw [if_pos c]
    exact if_pos (decide_eq_true (Or.inr ⟨h1, by rw [c]; exact hf⟩))
  · rw [if_neg c]
    refine if_neg (fun q => ?_)
    rcases of_decide_eq_true q with q | q
    · rw [h1] at q
      exact absurd q.1 (by decide)
    · rw [hf] at q
      exact c ((nI_eq (by omega) (by omega)).mp q.2).symm
theorem half_of {g : Int32} (h2 : 2 ≤ g) : 1 ≤ g - g / 2 ∧ 1 ≤ g / 2 ∧ gN (g - g / 2) + gN (g / 2) = gN g := by
  have h0 : 0 ≤ g := Int32.le_trans (by decide) h2
  obtain ⟨k, hk, e⟩ : ∃ k, k < 2 ^ 31 ∧ g = nI k := ⟨gN g, (gN_of h0).2, (gN_of h0).1⟩
  subst e
  have k2 : 2 ≤ k := (nI_leI (a := 2) (by omega) hk).mp h2
  have e2 : nI k / 2 = nI (k / 2) := pk_div hk (d := 2) (by omega) (by omega)
  have e1 : nI k - nI k / 2 = nI (k - k / 2) := by rw [e2]; exact pk_sub (by omega)
  rw [e1, e2, gN_n (by omega), gN_n (by omega), gN_n hk]
  exact ⟨(nI_leI (a := 1) (by omega) (by omega)).mpr (by omega), (nI_leI (a := 1) (by omega) (by omega)).mpr (by omega), by omega⟩
theorem two_of {p x : Int32} (h1 : 1 ≤ p) (h2 : p ≤ 99) (h : 2 * p ≤ x) : 2 ≤ x := by
  obtain ⟨j, hj, ej⟩ := nI_of (x := p) (fun q => absurd (Int32.lt_of_lt_of_le q (Int32.le_trans (by decide : (0 : Int32) ≤ 1) h1)) Int32.lt_irrefl)
  subst ej
  have j1 := (nI_leI (a := 1) (by omega) hj).mp h1
  have j2 := (nI_leI (b := 99) hj (by omega)).mp h2
  have em : (2 : Int32) * nI j = nI (2 * j) := pk_mul 2 j
  rw [em] at h
  exact Int32.le_trans ((nI_leI (a := 2) (by omega) (by omega)).mpr (by omega)) h
theorem one_add {x y : Int32} (hx : 0 ≤ x) (hy : 1 ≤ y) (hs : gN x + gN y < 2 ^ 31) : 1 ≤ x + y := by
  have hy0 : 0 ≤ y := Int32.le_trans (by decide) hy
  obtain ⟨e1, b1⟩ := gN_of hx
  obtain ⟨e2, b2⟩ := gN_of hy0
  have y1 : 1 ≤ gN y := by
    rw [e2] at hy
    exact (nI_leI (a := 1) (by omega) b2).mp hy
  have es : x + y = nI (gN x + gN y) := by
    conv => lhs; rw [e1, e2]
    exact nI_add _ _
  rw [es]
  exact (nI_leI (a := 1) (by omega) hs).mpr (by omega)
theorem coin_4 {x : Int32} (h1 : 2 ≤ x) (h2 : x ≤ 16) : 4 ≤ (1 : Int32) <<< (x &&& 31) := by
  obtain ⟨j, hj, ej⟩ := nI_of (x := x) (fun q => absurd (Int32.lt_of_lt_of_le q (Int32.le_trans (by decide : (0 : Int32) ≤ 2) h1)) Int32.lt_irrefl)
  subst ej
  have j1 := (nI_leI (a := 2) (by omega) hj).mp h1
  have j2 := (nI_leI (b := 16) hj (by omega)).mp h2
  have key : ∀ j, j < 17 → 2 ≤ j → 4 ≤ (1 : Int32) <<< (nI j &&& 31) := by decide +kernel
  exact key j (by omega) j1
theorem CI.gh (hI : CI d1 d2 d3 z B t e W u m) {h : Nat} (hh : h < 6) : gN (m.1 8) + gN (m.1 9) + gN (m.2.2.1 h 1) + t ≤ B ∧ 0 ≤ m.2.2.1 h 1 := by
  obtain ⟨i1, iB, ih, iM⟩ := hI
  have q := s6_one (f := fun h => gN (m.2.2.1 h 1)) hh
  have q : gN (m.2.2.1 h 1) ≤ s6 (fun h => gN (m.2.2.1 h 1)) := q
  unfold tN at iB
  refine ⟨by omega, ?_⟩
  obtain ⟨a1, -, -, a4, a5, -⟩ := ih h hh
  rcases a1 with c | c
  · rw [(a5 c).1]; decide
  · exact Int32.le_trans (by decide) (a4 c)
theorem mSendF_eq {h a : Nat} {q : List Nat} (hq : m.2.2.2.1 h = a :: q) : mSendF E h m = mPost (sQ (sH (sH m h 1 (m.2.2.1 h 1 - m.2.2.1 h 1 / 2)) h 7 (m.2.2.1 h 7 + 1)) h q) 0 h (E.1 a) (m.2.2.1 h 1 / 2) (some a) := by unfold mSendF; rw [hq]
theorem CI.sendF {h a : Nat} {q : List Nat} (hI : CI d1 d2 d3 z B t e W u m) (hh : h < 6) (hq : m.2.2.2.1 h = a :: q) (hg : 2 ≤ m.2.2.1 h 1) (hb : m.2.2.1 h 0 = 1) (hW : ¬ W h) : CI d1 d2 d3 z B t e W u (mSendF E h m) ∧ (mSendF E h m).2.2.1 h 0 = 1 := by
  obtain ⟨m2, hm⟩ : ∃ m2, m2 = mSendF E h m := ⟨_, rfl⟩
  have he := hm.trans (mSendF_eq hq)
  rw [← hm]
  have f0 : ∀ k, k ≠ 1 → k ≠ 7 → k ≠ 3 → m2.2.2.1 h k = m.2.2.1 h k := fun k k1 k7 k3 => by
    rw [he]
    show ups (ups (ups m.2.2.1 h 1 _) h 7 _) h 3 _ h k = _
    rw [ups_k k3, ups_k k7, ups_k k1]
  have f1 : m2.2.2.1 h 1 = m.2.2.1 h 1 - m.2.2.1 h 1 / 2 := by
    rw [he]
    show ups (ups (ups m.2.2.1 h 1 _) h 7 _) h 3 _ h 1 = _
    rw [ups_k (by decide), ups_k (by decide), ups_s]
  have f7 : m2.2.2.1 h 7 = m.2.2.1 h 7 + 1 := by
    rw [he]
    show ups (ups (ups m.2.2.1 h 1 _) h 7 _) h 3 _ h 7 = _
    rw [ups_k (by decide), ups_s]
  have f3 : m2.2.2.1 h 3 = nI q.length := by
    rw [he]
    exact ups_s
  have fQ : m2.2.2.2.1 h = q := by
    rw [he]
    exact up1_s
  have fz : m2.1 = m.1 := by rw [he]; rfl
  obtain ⟨p1, p2, p3⟩ := half_of hg
  have hi := hI.2.2.1 h hh
  obtain ⟨a1, a2, a3, a4, a5, a6, a7, a8, a9⟩ := hi
  refine ⟨CI.upd (h := h) (yo := some (mg 0 (nI h) (nI (E.1 a)) (m.2.2.1 h 1 / 2) (m.1 0 + m.2.1 (h * 7 + E.1 a)), some a)) hI hh (fun v hv hn => ?_) (fun v hv hn => ?_) ?_ ?_ ?_ ?_ ?_ ?_ ?_ (fun v hv hn => ⟨?_, fun k => k, fun k => k⟩) (fun y hy => ?_), by rw [f0 0 (by decide) (by decide) (by decide)]; exact hb⟩
  · rw [he]
    show ups (ups (ups m.2.2.1 h 1 _) h 7 _) h 3 _ v = _
    rw [ups_row hn, ups_row hn, ups_row hn]
  · rw [he]
    exact up1_n hn
  · rw [he]; rfl
  · rw [f1, fz]
    show _ + m.2.2.1 h 1 / 2 = _
    generalize m.2.2.1 h 1 / 2 = w
    grind
  · rw [f7, f0 6 (by decide) (by decide) (by decide), fz]
    show _ - (1 : Int32) = _
    grind
  · rw [f0 8 (by decide) (by decide) (by decide), fz]
    show _ - (0 : Int32) - _ = _
    grind
  · rw [fz]; exact hI.1.2.2.2
  · rw [f1, fz]
    show _ + gN (m.2.2.1 h 1 / 2) + t + B ≤ _
    omega
  · rw [fQ]
    refine ⟨?_, ?_, ?_, fun _ => ?_, fun k => ?_, ?_, fun k => absurd k hW, fun k => ?_, f3⟩
    · rw [f0 0 (by decide) (by decide) (by decide)]; exact a1
    · rw [f0 4 (by decide) (by decide) (by decide)]; exact a2
    · rw [f0 5 (by decide) (by decide) (by decide)]; exact a3
    · rw [f1]; exact p1
    · rw [f0 0 (by decide) (by decide) (by decide), hb] at k
      exact absurd k (by decide)
    · rw [f0 4 (by decide) (by decide) (by decide), f0 5 (by decide) (by decide) (by decide), show oN (agN h) (some (mg 0 (nI h) (nI (E.1 a)) (m.2.2.1 h 1 / 2) (m.1 0 + m.2.1 (h * 7 + E.1 a)), some a)) = 0 from ag_0 (show (0 : Int32) ≠ 1 by decide) (show (0 : Int32) ≠ 2 by decide)]
      exact a6
    · rw [f0 5 (by decide) (by decide) (by decide)]; exact a8 k
  · rw [show oN (agN v) (some (mg 0 (nI h) (nI (E.1 a)) (m.2.2.1 h 1 / 2) (m.1 0 + m.2.1 (h * 7 + E.1 a)), some a)) = 0 from ag_0 (show (0 : Int32) ≠ 1 by decide) (show (0 : Int32) ≠ 2 by decide)]
    exact Nat.zero_add _
  · cases hy
    exact Or.inl ⟨rfl, p2⟩
end CIS
