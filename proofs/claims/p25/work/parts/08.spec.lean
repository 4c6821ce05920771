/-! WHAT A STATE IS: scalars by the place of the field, ways, houses by the place of the field, queues, messages (kind, from, to, grains, arrives; errand) -/
abbrev Mg : Type := (Nat → Int32) × Option Nat
abbrev MS : Type := (Nat → Int32) × (Nat → Int32) × (Nat → Nat → Int32) × (Nat → List Nat) × List Mg
abbrev mZ (m : MS) : Nat → Int32 := m.1
abbrev mW (m : MS) : Nat → Int32 := m.2.1
abbrev mH (m : MS) : Nat → Nat → Int32 := m.2.2.1
abbrev mQ (m : MS) : Nat → List Nat := m.2.2.2.1
abbrev mM (m : MS) : List Mg := m.2.2.2.2
def up1 {α : Type} (f : Nat → α) (k : Nat) (v : α) : Nat → α := fun j => if j = k then v else f j
theorem up1_s {α : Type} {f : Nat → α} {k : Nat} {v : α} : up1 f k v k = v := by simp [up1]
theorem up1_n {α : Type} {f : Nat → α} {k j : Nat} {v : α} (h : j ≠ k) : up1 f k v j = f j := by simp [up1, h]
def sZ (m : MS) (k : Nat) (x : Int32) : MS := (up1 m.1 k x, m.2)
def sW (m : MS) (k : Nat) (x : Int32) : MS := (m.1, up1 m.2.1 k x, m.2.2)
def sH (m : MS) (h f : Nat) (x : Int32) : MS := (m.1, m.2.1, ups m.2.2.1 h f x, m.2.2.2)
def sQ (m : MS) (h : Nat) (q : List Nat) : MS := (m.1, m.2.1, ups m.2.2.1 h 3 (nI q.length), up1 m.2.2.2.1 h q, m.2.2.2.2)
def sM (m : MS) (ms : List Mg) : MS := (m.1, m.2.1, m.2.2.1, m.2.2.2.1, ms)
/-! where it lies: 157 cells from S on -/
def StL (G : GG) (n S : Nat) : Prop := G.1 ≤ S ∧ S + 157 ≤ n ∧ (G.2.1 S).1 = 4 ∧ G.2.1 (S + 1) = (7, 49) ∧ G.2.1 (S + 2) = (10, 6) ∧ G.2.1 (S + 3) = (11, 141) ∧ (∀ h, h < 6 → (G.2.1 (S + 4 + 2 * h)).1 = 1 ∧ G.2.1 (S + 5 + 2 * h) = (9, 80)) ∧ ∀ a, S + 16 ≤ a → a < S + 157 → (G.2.1 a).1 = 2
section STL
variable {G : GG} {n S : Nat}
theorem StL.s (h : StL G n S) : Ok G n S 4 := ⟨h.1, by have := h.2.1; omega, h.2.2.1⟩
theorem StL.w (h : StL G n S) : OkA G n (S + 1) 7 49 := ⟨by have := h.1; omega, by have := h.2.1; omega, h.2.2.2.1⟩
theorem StL.hs (h : StL G n S) : OkA G n (S + 2) 10 6 := ⟨by have := h.1; omega, by have := h.2.1; omega, h.2.2.2.2.1⟩
theorem StL.ms (h : StL G n S) : OkA G n (S + 3) 11 141 := ⟨by have := h.1; omega, by have := h.2.1; omega, h.2.2.2.2.2.1⟩
theorem StL.ho (h : StL G n S) {q : Nat} (hq : q < 6) : Ok G n (S + 4 + 2 * q) 1 := ⟨by have := h.1; omega, by have := h.2.1; omega, (h.2.2.2.2.2.2.1 q hq).1⟩
theorem StL.li (h : StL G n S) {q : Nat} (hq : q < 6) : OkA G n (S + 5 + 2 * q) 9 80 := ⟨by have := h.1; omega, by have := h.2.1; omega, (h.2.2.2.2.2.2.1 q hq).2⟩
theorem StL.me (h : StL G n S) {a : Nat} (h1 : S + 16 ≤ a) (h2 : a < S + 157) : Ok G n a 2 := ⟨by have := h.1; omega, by have := h.2.1; omega, h.2.2.2.2.2.2.2 a h1 h2⟩
theorem StL.mono (h : StL G n S) {n' : Nat} (hn : n ≤ n') : StL G n' S := ⟨h.1, Nat.le_trans h.2.1 hn, h.2.2⟩
end STL
def RepL (S : Nat) (r : RP) : Prop := r S 3 = some (S + 1) ∧ r S 4 = some (S + 2) ∧ r S 5 = some (S + 3) ∧ ∀ h, h < 6 → r (S + 2) h = some (S + 4 + 2 * h) ∧ r (S + 4 + 2 * h) 10 = some (S + 5 + 2 * h)
def RepX (S : Nat) (r : RP) (mx : Nat → Nat) : Prop := (∀ j, j < 141 → r (S + 3) j = some (mx j) ∧ S + 16 ≤ mx j ∧ mx j < S + 157) ∧ ∀ j k, j < 141 → k < 141 → mx j = mx k → j = k
def RepZ (S : Nat) (z : Nat → Int32) (i : IP) : Prop := ∀ k, k < 3 ∨ (7 ≤ k ∧ k < 14) → i S k = z k
def RepW (S : Nat) (w : Nat → Int32) (i : IP) : Prop := ∀ k, k < 49 → i (S + 1) k = w k
def RepH (S : Nat) (H : Nat → Nat → Int32) (i : IP) : Prop := ∀ h, h < 6 → ∀ f, f < 10 → i (S + 4 + 2 * h) f = H h f
def RepQ (S : Nat) (H : Nat → Nat → Int32) (q : Nat → List Nat) (r : RP) : Prop := ∀ h, h < 6 → H h 3 = nI (q h).length ∧ (q h).length ≤ 80 ∧ ∀ c a, (q h)[c]? = some a → r (S + 5 + 2 * h) c = some a
def RepG (S : Nat) (ms : List Mg) (mx : Nat → Nat) (i : IP) (r : RP) : Prop := ms.length ≤ 141 ∧ i S 6 = nI ms.length ∧ ∀ j x, ms[j]? = some x → (∀ f, f < 5 → i (mx j) f = x.1 f) ∧ r (mx j) 5 = x.2
def Rep (S : Nat) (m : MS) (i : IP) (r : RP) : Prop := RepL S r ∧ RepZ S m.1 i ∧ RepW S m.2.1 i ∧ RepH S m.2.2.1 i ∧ RepQ S m.2.2.1 m.2.2.2.1 r ∧ ∃ mx, RepX S r mx ∧ RepG S m.2.2.2.2 mx i r
/-- nothing but the state's own cells has changed -/
def Out (S : Nat) (i : IP) (r : RP) (i' : IP) (r' : RP) : Prop := ∀ a, a < S ∨ S + 157 ≤ a → i' a = i a ∧ r' a = r a
theorem Out.rf {S : Nat} {i : IP} {r : RP} : Out S i r i r := fun _ _ => ⟨rfl, rfl⟩
theorem Out.tr {S : Nat} {i i1 i2 : IP} {r r1 r2 : RP} (h1 : Out S i r i1 r1) (h2 : Out S i1 r1 i2 r2) : Out S i r i2 r2 := fun a ha => ⟨(h2 a ha).1.trans (h1 a ha).1, (h2 a ha).2.trans (h1 a ha).2⟩
theorem Out.pi {S : Nat} {i : IP} {r : RP} {a k : Nat} {x : Int32} (h1 : S ≤ a) (h2 : a < S + 157) : Out S i r (ups i a k x) r := fun q hq => ⟨ups_row (by omega), rfl⟩
theorem Out.pr {S : Nat} {i : IP} {r : RP} {a k : Nat} {x : Option Nat} (h1 : S ≤ a) (h2 : a < S + 157) : Out S i r i (ups r a k x) := fun q hq => ⟨rfl, ups_row (by omega)⟩
theorem Rep.frame {S : Nat} {m : MS} {i i' : IP} {r r' : RP} (h : Rep S m i r) (ho : ∀ a, S ≤ a → a < S + 157 → i' a = i a ∧ r' a = r a) : Rep S m i' r' := by
  obtain ⟨h1, h2, h3, h4, h5, mx, h6, h7⟩ := h
  refine ⟨⟨?_, ?_, ?_, fun q hq => ⟨?_, ?_⟩⟩, fun k hk => ?_, fun k hk => ?_, fun q hq f hf => ?_, fun q hq => ⟨(h5 q hq).1, (h5 q hq).2.1, fun c a hc => ?_⟩, mx, ⟨fun j hj => ⟨?_, (h6.1 j hj).2⟩, h6.2⟩, h7.1, ?_, fun j x hx => ?_⟩
  · rw [(ho S (by omega) (by omega)).2]; exact h1.1
  · rw [(ho S (by omega) (by omega)).2]; exact h1.2.1
  · rw [(ho S (by omega) (by omega)).2]; exact h1.2.2.1
  · rw [(ho _ (by omega) (by omega)).2]; exact (h1.2.2.2 q hq).1
  · rw [(ho _ (by omega) (by omega)).2]; exact (h1.2.2.2 q hq).2
  · rw [(ho S (by omega) (by omega)).1]; exact h2 k hk
  · rw [(ho _ (by omega) (by omega)).1]; exact h3 k hk
  · rw [(ho _ (by omega) (by omega)).1]; exact h4 q hq f hf
  · rw [(ho _ (by omega) (by omega)).2]; exact (h5 q hq).2.2 c a hc
  · rw [(ho _ (by omega) (by omega)).2]; exact (h6.1 j hj).1
  · rw [(ho S (by omega) (by omega)).1]; exact h7.2.1
  · have hj : j < 141 := by
      have := (List.getElem?_eq_some_iff.mp hx).1
      have := h7.1
      omega
    obtain ⟨-, g1, g2⟩ := h6.1 j hj
    rw [(ho _ (by omega) (by omega)).1, (ho _ (by omega) (by omega)).2]
    exact h7.2.2 j x hx
/-- one cell of the state's ints is written -/
theorem Rep.putZ {S : Nat} {m : MS} {i : IP} {r : RP} (h : Rep S m i r) {k : Nat} (x : Int32) (hk : k < 3 ∨ (7 ≤ k ∧ k < 14)) : Rep S (sZ m k x) (ups i S k x) r := by
  obtain ⟨h1, h2, h3, h4, h5, mx, h6, h7⟩ := h
  refine ⟨h1, fun q hq => ?_, fun q hq => ?_, fun q hq f hf => ?_, h5, mx, h6, h7.1, ?_, fun j y hy => ?_⟩
  · by_cases e : q = k
    · subst e; rw [ups_s]; exact up1_s.symm
    · rw [ups_k e]; exact (h2 q hq).trans (up1_n e).symm
  · rw [ups_a (by omega)]; exact h3 q hq
  · rw [ups_a (by omega)]; exact h4 q hq f hf
  · rw [ups_k (by omega)]; exact h7.2.1
  · have hj : j < 141 := by
      have hy : m.2.2.2.2[j]? = some y := hy
      have := (List.getElem?_eq_some_iff.mp hy).1
      have := h7.1
      omega
    obtain ⟨-, g1, g2⟩ := h6.1 j hj
    exact ⟨fun f hf => by rw [ups_a (by omega)]; exact (h7.2.2 j y hy).1 f hf, (h7.2.2 j y hy).2⟩
theorem Rep.putW {S : Nat} {m : MS} {i : IP} {r : RP} (h : Rep S m i r) {k : Nat} (x : Int32) : Rep S (sW m k x) (ups i (S + 1) k x) r := by
  obtain ⟨h1, h2, h3, h4, h5, mx, h6, h7⟩ := h
  refine ⟨h1, fun q hq => ?_, fun q hq => ?_, fun q hq f hf => ?_, h5, mx, h6, h7.1, ?_, fun j y hy => ?_⟩
  · rw [ups_a (by omega)]; exact h2 q hq
  · by_cases e : q = k
    · subst e; rw [ups_s]; exact up1_s.symm
    · rw [ups_k e]; exact (h3 q hq).trans (up1_n e).symm
  · rw [ups_a (by omega)]; exact h4 q hq f hf
  · rw [ups_a (by omega)]; exact h7.2.1
  · have hj : j < 141 := by
      have hy : m.2.2.2.2[j]? = some y := hy
      have := (List.getElem?_eq_some_iff.mp hy).1
      have := h7.1
      omega
    obtain ⟨-, g1, g2⟩ := h6.1 j hj
    exact ⟨fun f hf => by rw [ups_a (by omega)]; exact (h7.2.2 j y hy).1 f hf, (h7.2.2 j y hy).2⟩
theorem Rep.putH {S : Nat} {m : MS} {i : IP} {r : RP} (h : Rep S m i r) {q k : Nat} (x : Int32) (hq : q < 6) (hk : k ≠ 3) : Rep S (sH m q k x) (ups i (S + 4 + 2 * q) k x) r := by
  obtain ⟨h1, h2, h3, h4, h5, mx, h6, h7⟩ := h
  refine ⟨h1, fun c hc => ?_, fun c hc => ?_, fun c hc f hf => ?_, fun c hc => ⟨?_, (h5 c hc).2⟩, mx, h6, h7.1, ?_, fun j y hy => ?_⟩
  · rw [ups_a (by omega)]; exact h2 c hc
  · rw [ups_a (by omega)]; exact h3 c hc
  · by_cases e : c = q
    · subst e
      by_cases e2 : f = k
      · subst e2; rw [ups_s]; exact ups_s.symm
      · rw [ups_k e2]; exact (h4 c hc f hf).trans (ups_k e2).symm
    · rw [ups_a (by omega)]; exact (h4 c hc f hf).trans (ups_a e).symm
  · exact (ups_k (by omega)).trans (h5 c hc).1
  · rw [ups_a (by omega)]; exact h7.2.1
  · have hj : j < 141 := by
      have hy : m.2.2.2.2[j]? = some y := hy
      have := (List.getElem?_eq_some_iff.mp hy).1
      have := h7.1
      omega
    obtain ⟨-, g1, g2⟩ := h6.1 j hj
    exact ⟨fun f hf => by rw [ups_a (by omega)]; exact (h7.2.2 j y hy).1 f hf, (h7.2.2 j y hy).2⟩
/-- an answer with an unchanged heap -/
def Ret (v0 : Option Value) (n0 : Nat) (i0 : IP) (r0 : RP) : QP := fun v n i r => v = v0 ∧ n = n0 ∧ i = i0 ∧ r = r0
theorem ret_ok {v : Option Value} {n : Nat} {i : IP} {r : RP} : Ret v n i r v n i r := ⟨rfl, rfl, rfl, rfl⟩
def RetI (x : Int32) (n0 : Nat) (i0 : IP) (r0 : RP) : QP := Ret (some (.int x)) n0 i0 r0
def b2i (b : Bool) : Int32 := if b = true then 1 else 0
/-- a change of one state's cells, no answer -/
def Chg (n0 S : Nat) (i0 : IP) (r0 : RP) (m : MS) : QP := fun v n i r => v = none ∧ n = n0 ∧ Rep S m i r ∧ Out S i0 r0 i r
def ChgI (x : Int32) (n0 S : Nat) (i0 : IP) (r0 : RP) (m : MS) : QP := fun v n i r => v = some (.int x) ∧ n = n0 ∧ Rep S m i r ∧ Out S i0 r0 i r
theorem go_lo {l : Launch} {G : GG} {Y : AM} {D k j pc : Nat} {lo lo' : List (Option Value)} {st : List Value} {n : Nat} {i : IP} {r : RP} {Q : QP} (h : lo = lo') (K : Go l G Y D k j pc lo' st n i r Q) : Go l G Y D k j pc lo st n i r Q := by subst h; exact K
theorem go_st {l : Launch} {G : GG} {Y : AM} {D k j pc : Nat} {lo : List (Option Value)} {st st' : List Value} {n : Nat} {i : IP} {r : RP} {Q : QP} (h : st = st') (K : Go l G Y D k j pc lo st' n i r Q) : Go l G Y D k j pc lo st n i r Q := by subst h; exact K
theorem ret_elim {P : Option Value → Nat → IP → RP → Prop} {v0 : Option Value} {n0 : Nat} {i0 : IP} {r0 : RP} (K : P v0 n0 i0 r0) : ∀ v n i r, Ret v0 n0 i0 r0 v n i r → P v n i r := by
  rintro v n i r ⟨h1, h2, h3, h4⟩
  rw [h1, h2, h3, h4]
  exact K
theorem chg_elim {P : Option Value → Nat → IP → RP → Prop} {n0 S : Nat} {i0 : IP} {r0 : RP} {m : MS} (K : ∀ i r, Rep S m i r → Out S i0 r0 i r → P none n0 i r) : ∀ v n i r, Chg n0 S i0 r0 m v n i r → P v n i r := by
  rintro v n i r ⟨h1, h2, h3, h4⟩
  rw [h1, h2]
  exact K i r h3 h4
theorem chgI_elim {P : Option Value → Nat → IP → RP → Prop} {x : Int32} {n0 S : Nat} {i0 : IP} {r0 : RP} {m : MS} (K : ∀ i r, Rep S m i r → Out S i0 r0 i r → P (some (.int x)) n0 i r) : ∀ v n i r, ChgI x n0 S i0 r0 m v n i r → P v n i r := by
  rintro v n i r ⟨h1, h2, h3, h4⟩
  rw [h1, h2]
  exact K i r h3 h4
