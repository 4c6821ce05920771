/-! P25: all quiet; lose, make good, launch; the start -/
theorem add_nn {a b : Int32} {p q : Nat} (h1 : a = nI p) (h2 : b = nI q) : a + b = nI (p + q) := by rw [h1, h2]; exact nI_add p q
theorem sumH_nI {H : Nat → Nat → Int32} {f : Nat} (h : ∀ v, v < 6 → 0 ≤ H v f) : sumH H f 6 = nI (s6 (fun v => gN (H v f))) := by
  have e := fun v (hv : v < 6) => (gN_of (h v hv)).1
  have q := add_nn (add_nn (add_nn (add_nn (add_nn (add_nn (show (0 : Int32) = nI 0 from rfl) (e 0 (by omega))) (e 1 (by omega))) (e 2 (by omega))) (e 3 (by omega))) (e 4 (by omega))) (e 5 (by omega))
  refine Eq.trans (show sumH H f 6 = _ from q) (congrArg nI ?_)
  simp only [s6]
  omega
theorem sumF_nI {ms : List Mg} (h : ∀ x ∈ ms, 0 ≤ x.1 3) : sumF g3 ms = nI (sumN gN3 ms) := by
  induction ms with
  | nil => rfl
  | cons x l ih =>
    rw [sumN_cons]
    exact add_nn (gN_of (h x List.mem_cons_self)).1 (ih (fun y hy => h y (List.mem_cons_of_mem _ hy)))
theorem MV.pos {x : Mg} (h : MV x) : 0 ≤ x.1 3 := by
  rcases h with q | q | q | q
  · exact Int32.le_trans (by decide) q.2
  · rw [q.2.2]; decide
  · exact Int32.le_trans (by decide) q.2.2
  · exact Int32.le_trans (by decide) q.2.2
theorem gN_1 {x : Int32} (h : 1 ≤ x) : 1 ≤ gN x := by
  obtain ⟨e1, e2⟩ := gN_of (Int32.le_trans (by decide) h)
  rw [e1] at h
  exact (nI_leI (a := 1) (by omega) e2).mp h
theorem sumN_mem {w : Mg → Nat} {ms : List Mg} {x : Mg} (h : x ∈ ms) : w x ≤ sumN w ms := by
  induction ms with
  | nil => cases h
  | cons y l ih =>
    rw [sumN_cons]
    rcases List.mem_cons.mp h with q | q
    · rw [q]; omega
    · have := ih q
      omega
section CI4
variable {E : EE} {Gd : Nat → Prop} {m m' : MS} {d1 d2 d3 z : Int32} {B t : Nat} {e : Nat → Nat} {W u : Nat → Prop}
theorem CI.empty (hI : CI 0 d2 d3 z B t (fun _ => 0) W u m) (hM : ∀ x ∈ m.2.2.2.2, MgOk Gd x) (hB : B < 2 ^ 31) (hq : m.1 7 = m.1 8) : (∀ h, h < 6 → m.2.2.1 h 0 = 0) ∧ m.2.2.2.2 = [] := by
  have hp : ∀ h, h < 6 → 0 ≤ m.2.2.1 h 1 := fun h hh => (hI.gh hh).2
  obtain ⟨⟨i1, -, -, -, -, i6⟩, iB, ih, iM⟩ := hI
  have e1 := sumH_nI hp
  have e2 := sumF_nI (fun x hx => (iM x hx).pos)
  have e3 := (gN_of i6).1
  have hs : m.1 9 + sumH m.2.2.1 1 6 + sumF g3 m.2.2.2.2 = 0 := by
    unfold L1 at i1
    rw [hq] at i1
    grind
  have hs : nI (gN (m.1 9) + s6 (fun v => gN (m.2.2.1 v 1)) + sumN gN3 m.2.2.2.2) = nI 0 := (add_nn (add_nn e3 e1) e2).symm.trans hs
  unfold tN at iB
  have hz := (nI_eq (by omega) (by omega)).mp hs
  have hH : ∀ h, h < 6 → m.2.2.1 h 0 = 0 := fun h hh => by
    obtain ⟨a1, -, -, a4, -⟩ := ih h hh
    rcases a1 with q | q
    · exact q
    · have g1 := gN_1 (a4 q)
      have g2 := s6_one (f := fun v => gN (m.2.2.1 v 1)) hh
      have g2 : gN (m.2.2.1 h 1) ≤ s6 (fun v => gN (m.2.2.1 v 1)) := g2
      omega
  refine ⟨hH, ?_⟩
  cases hl : m.2.2.2.2 with
  | nil => rfl
  | cons x l =>
    exfalso
    have hx : x ∈ m.2.2.2.2 := by rw [hl]; exact List.mem_cons_self
    have g0 : gN3 x ≤ sumN gN3 m.2.2.2.2 := sumN_mem hx
    have g1 : gN (x.1 3) = gN3 x := rfl
    rcases iM x hx with q | q | q | q
    · have := gN_1 q.2
      omega
    · obtain ⟨f, tt, hf, ht7, e1, e2, hk⟩ := hM x hx
      have hf6 : f < 6 := by
        rcases hk with ⟨k0, -⟩ | ⟨k1, hf6, -⟩ | ⟨k2, -⟩ | ⟨k3, -⟩
        · rw [k0] at q; exact absurd q.1 (by decide)
        · exact hf6
        · rw [k2] at q; exact absurd q.1 (by decide)
        · rw [k3] at q; exact absurd q.1 (by decide)
      obtain ⟨-, -, -, -, a5, a6, -⟩ := ih f hf6
      have h4 := (a5 (hH f hf6)).2.2.2
      rw [h4] at a6
      have e0 : n01 0 = 0 := rfl
      have c0 : 0 < m.2.2.2.2.countP (agOf f) := List.countP_pos_iff.mpr ⟨x, hx, decide_eq_true (Or.inl ⟨q.1, e1⟩)⟩
      omega
    · have := gN_1 (Int32.le_trans (by decide) q.2.2)
      omega
    · have := gN_1 q.2.2
      omega
theorem idle_of (h : ∀ h, h < 6 → m.2.2.1 h 0 = 0) (hM : mIdleM m.2.2.2.2 = true) : mIdle m = true := by
  unfold mIdle
  rw [hM, Bool.and_true]
  refine decide_eq_true ?_
  have key : ∀ c, c ≤ 6 → cntB m.2.2.1 c = 0 := by
    intro c
    induction c with
    | zero => intro _; rfl
    | succ c ih =>
      intro hc
      show (if m.2.2.1 c 0 = 0 then cntB m.2.2.1 c else cntB m.2.2.1 c + 1) = 0
      rw [if_pos (h c (by omega))]
      exact ih (by omega)
  exact key 6 (Nat.le_refl _)
theorem CI.quiet (hI : CI 0 d2 d3 z B t (fun _ => 0) W u m) (hM : ∀ x ∈ m.2.2.2.2, MgOk Gd x) (hB : B < 2 ^ 31) (hq : mQuiet m = true) : mIdle m = true := by
  obtain ⟨h1, h2⟩ := hI.empty hM hB (of_decide_eq_true hq)
  exact idle_of h1 (by rw [h2]; rfl)
theorem perm_erase {l : List Mg} : ∀ {k : Nat} {x : Mg}, l[k]? = some x → List.Perm l (x :: l.eraseIdx k) := by
  induction l with
  | nil => intro k x h; simp at h
  | cons y l ih =>
    intro k x h
    cases k with
    | zero =>
      simp at h
      rw [h]
      exact List.Perm.refl _
    | succ k =>
      have h : l[k]? = some x := by simpa using h
      exact ((ih h).cons y).trans (List.Perm.swap x y _)
theorem CI.out {x : Mg} {k : Nat} (hI : CI d1 d2 d3 z B 0 (fun _ => 0) W u m) (hx : m.2.2.2.2[k]? = some x) : CI (d1 - g3 x) (d2 + kC 0 x) (d3 + kC 1 x) z B (gN3 x) (fun h => agN h x) W u (mOut k m) ∧ MV x := by
  have hp := perm_erase hx
  have e1 : ∀ w, sumF w m.2.2.2.2 = w x + sumF w (m.2.2.2.2.eraseIdx k) := fun w => sumF_perm hp
  have e2 : sumN gN3 m.2.2.2.2 = gN3 x + sumN gN3 (m.2.2.2.2.eraseIdx k) := by
    rw [← sumN_cons]
    unfold sumN
    exact (hp.map gN3).sum_nat
  obtain ⟨⟨i1, i2, i3, i4⟩, iB, ih, iM⟩ := hI
  refine ⟨⟨⟨?_, ?_, ?_, i4⟩, ?_, fun h hh => ?_, fun y hy => iM y (List.mem_of_mem_eraseIdx hy)⟩, iM x (List.mem_of_getElem? hx)⟩
  · unfold L1 at i1
    rw [e1] at i1
    show m.1 8 + m.1 9 - m.1 7 + sumH m.2.2.1 1 6 + sumF g3 (m.2.2.2.2.eraseIdx k) = _
    grind
  · unfold L2 at i2
    rw [e1] at i2
    show sumH m.2.2.1 7 6 + m.1 10 - sumH m.2.2.1 6 6 - sumF (kC 0) (m.2.2.2.2.eraseIdx k) = _
    grind
  · unfold L3 at i3
    rw [e1] at i3
    show m.1 10 + sumH m.2.2.1 8 6 - sumF (kC 1) (m.2.2.2.2.eraseIdx k) - m.1 11 = _
    grind
  · unfold tN at iB
    show gN (m.1 8) + gN (m.1 9) + s6 (fun h => gN (m.2.2.1 h 1)) + sumN gN3 (m.2.2.2.2.eraseIdx k) + gN3 x ≤ B
    omega
  · have q := ih h hh
    rw [hp.countP_eq, List.countP_cons] at q
    exact q
theorem CI.drop {x : Mg} {k : Nat} (hI0 : CI d1 d2 d3 z B 0 (fun _ => 0) (fun _ => True) u m) (hx : m.2.2.2.2[k]? = some x) (hM : MgOk Gd x) (hB : B < 2 ^ 31) : CI d1 (d2 + kC 0 x) (d3 + kC 1 x) 1 B 0 (fun _ => 0) (fun _ => True) (fun _ => False) (mDrop k x m) := by
  obtain ⟨hI, hV⟩ := hI0.out hx
  obtain ⟨f, tt, hf, ht7, e1, e2, hk⟩ := hM
  have c1 : (x.1 1).toNatClampNeg = f := by rw [e1]; exact nI_clamp (by omega)
  have c2 : (x.1 2).toNatClampNeg = tt := by rw [e2]; exact nI_clamp (by omega)
  have hx3 := hV.pos
  have hg3 : gN3 x = gN (x.1 3) := rfl
  have row : ∀ v, v < 6 → ∀ m1 : MS, m1.1 = m.1 → m1.2.2.2 = m.2.2.2 → (∀ g, g < 6 → g ≠ v → m1.2.2.1 g = m.2.2.1 g) → (∀ j, j ≠ 5 → m1.2.2.1 v j = m.2.2.1 v j) → HR ((m.2.2.2.2.eraseIdx k).countP (agOf v) + 0 + 0) (m1.2.2.1 v) (m.2.2.2.1 v) True False → (∀ g, g < 6 → g ≠ v → agN g x = 0) → CI d1 (d2 + kC 0 x) (d3 + kC 1 x) 1 B 0 (fun _ => 0) (fun _ => True) (fun _ => False) (mOut k (sZ (sZ (sZ m1 9 (m1.1 9 + x.1 3)) 12 (m1.1 12 + 1)) 13 1)) := by
    intro v hv m1 hz hr ho hj hR hag
    obtain ⟨b1, b2⟩ := hI.gh hv
    have b1 : gN (m.1 8) + gN (m.1 9) + gN (m.2.2.1 v 1) + gN3 x ≤ B := b1
    obtain ⟨g1, g2⟩ := add_nI (x := m.1 9) (y := x.1 3) hI.1.2.2.2.2.2 hx3 (by omega)
    obtain ⟨m2, hm⟩ : ∃ m2, m2 = mOut k (sZ (sZ (sZ m1 9 (m1.1 9 + x.1 3)) 12 (m1.1 12 + 1)) 13 1) := ⟨_, rfl⟩
    rw [← hm]
    have fz : ∀ j, j ≠ 9 → j ≠ 12 → j ≠ 13 → m2.1 j = m.1 j := fun j j9 j12 j13 => by
      rw [hm]
      show up1 (up1 (up1 m1.1 9 _) 12 _) 13 1 j = _
      rw [up1_n j13, up1_n j12, up1_n j9, hz]
    have f9 : m2.1 9 = m.1 9 + x.1 3 := by
      rw [hm]
      show up1 (up1 (up1 m1.1 9 (m1.1 9 + x.1 3)) 12 (m1.1 12 + 1)) 13 1 9 = _
      rw [up1_n (by decide), up1_n (by decide), up1_s, hz]
    have f13 : m2.1 13 = 1 := by
      rw [hm]
      show up1 (up1 (up1 m1.1 9 (m1.1 9 + x.1 3)) 12 (m1.1 12 + 1)) 13 1 13 = _
      exact up1_s
    have fH : m2.2.2.1 = m1.2.2.1 := by rw [hm]; rfl
    have fQ : m2.2.2.2.1 = m.2.2.2.1 := by
      rw [hm]
      show m1.2.2.2.1 = _
      rw [hr]
    refine CI.upd (h := v) (yo := none) hI hv (fun g hg hn => by rw [fH]; exact ho g hg hn) (fun g hg hn => by rw [fQ]; rfl) ?_ ?_ ?_ ?_ ⟨f13, ?_, ?_⟩ ?_ ?_ (fun g hg hn => ⟨?_, fun _ => trivial, fun q => q.elim⟩) (fun y hy => by cases hy)
    · rw [hm]
      show m1.2.2.2.2.eraseIdx k = m.2.2.2.2.eraseIdx k
      rw [hr]
    · rw [fH, hj 1 (by decide), fz 8 (by decide) (by decide) (by decide), f9, fz 7 (by decide) (by decide) (by decide)]
      show m.1 8 + (m.1 9 + x.1 3) - m.1 7 + m.2.2.1 v 1 + (0 : Int32) = d1 - (d1 - x.1 3) + (m.1 8 + m.1 9 - m.1 7 + m.2.2.1 v 1)
      grind
    · rw [fH, hj 7 (by decide), hj 6 (by decide), fz 10 (by decide) (by decide) (by decide)]
      show m.2.2.1 v 7 + m.1 10 - m.2.2.1 v 6 - (0 : Int32) = d2 + kC 0 x - (d2 + kC 0 x) + (m.2.2.1 v 7 + m.1 10 - m.2.2.1 v 6)
      grind
    · rw [fH, hj 8 (by decide), fz 10 (by decide) (by decide) (by decide), fz 11 (by decide) (by decide) (by decide)]
      show m.1 10 + m.2.2.1 v 8 - (0 : Int32) - m.1 11 = d3 + kC 1 x - (d3 + kC 1 x) + (m.1 10 + m.2.2.1 v 8 - m.1 11)
      grind
    · rw [fz 8 (by decide) (by decide) (by decide)]; exact hI.1.2.2.2.2.1
    · rw [f9]; exact g1
    · rw [fH, hj 1 (by decide), fz 8 (by decide) (by decide) (by decide), f9]
      show gN (m.1 8) + gN (m.1 9 + x.1 3) + gN (m.2.2.1 v 1) + 0 + 0 + B ≤ gN (m.1 8) + gN (m.1 9) + gN (m.2.2.1 v 1) + gN3 x + B
      omega
    · rw [fH, fQ]
      exact hR
    · show 0 + 0 = agN g x
      rw [hag g hg hn]
  rcases hk with ⟨k0, ht6, a, ha, hg⟩ | ⟨k1, hf6, hn⟩ | ⟨k2, ht6, hn⟩ | ⟨k3, hf6, hn⟩
  · have e : mDrop k x m = mOut k (sZ (sZ (sZ m 9 (m.1 9 + x.1 3)) 12 (m.1 12 + 1)) 13 1) := by
      unfold mDrop
      dsimp only
      rw [k0, if_neg (by decide), if_neg (by decide)]
    rw [e]
    have agx : ∀ v, agN v x = 0 := fun v => ag_0 (by rw [k0]; decide) (by rw [k0]; decide)
    refine row 0 (by omega) m rfl rfl (fun _ _ _ => rfl) (fun _ _ => rfl) ?_ (fun g _ _ => agx g)
    have q := hI.2.2.1 0 (by omega)
    have q : HR ((m.2.2.2.2.eraseIdx k).countP (agOf 0) + agN 0 x) (m.2.2.1 0) (m.2.2.2.1 0) True (u 0) := q
    rw [agx] at q
    exact q.weak (fun k => k) (fun k => k.elim)
  · have e : mDrop k x m = mOut k (sZ (sZ (sZ (sH m f 5 1) 9 ((sH m f 5 1).1 9 + x.1 3)) 12 ((sH m f 5 1).1 12 + 1)) 13 1) := by
      unfold mDrop
      dsimp only
      rw [k1, if_pos rfl, if_neg (by decide), c1]
    rw [e]
    have agx : ∀ v, v < 6 → agN v x = if v = f then 1 else 0 := fun v hv => ag_ask k1 e1 hv hf
    refine row f hf6 (sH m f 5 1) rfl rfl (fun g _ hn => ups_row hn) (fun j hj => ups_k hj) ?_ (fun g hg hn => by rw [agx g hg, if_neg hn])
    obtain ⟨a1, a2, a3, a4, a5, a6, a7, a8, a9⟩ := hI.2.2.1 f hf6
    have a6 : (m.2.2.2.2.eraseIdx k).countP (agOf f) + agN f x + n01 (m.2.2.1 f 5) = n01 (m.2.2.1 f 4) := a6
    rw [agx f hf6, if_pos rfl] at a6
    have n4 := n01_le (m.2.2.1 f 4)
    have hj : ∀ j, j ≠ 5 → (sH m f 5 1).2.2.1 f j = m.2.2.1 f j := fun j hj => ups_k hj
    have h5 : (sH m f 5 1).2.2.1 f 5 = 1 := ups_s
    refine ⟨?_, ?_, Or.inr h5, ?_, ?_, ?_, ?_, fun k => k.elim, ?_⟩
    · rw [hj 0 (by decide)]; exact a1
    · rw [hj 4 (by decide)]; exact a2
    · rw [hj 0 (by decide), hj 1 (by decide)]; exact a4
    · rw [hj 0 (by decide), hj 1 (by decide), hj 2 (by decide), hj 4 (by decide)]; exact a5
    · rw [hj 4 (by decide), h5]
      show _ + 0 + 0 + 1 = _
      omega
    · rw [hj 4 (by decide)]; exact a7
    · rw [hj 3 (by decide)]; exact a9
  · have e : mDrop k x m = mOut k (sZ (sZ (sZ (sH m tt 5 1) 9 ((sH m tt 5 1).1 9 + x.1 3)) 12 ((sH m tt 5 1).1 12 + 1)) 13 1) := by
      unfold mDrop
      dsimp only
      rw [k2, if_pos rfl, if_neg (by decide), c2]
    rw [e]
    have agx : ∀ v, v < 6 → agN v x = if v = tt then 1 else 0 := fun v hv => ag_grant k2 e2 hv ht7
    refine row tt ht6 (sH m tt 5 1) rfl rfl (fun g _ hn => ups_row hn) (fun j hj => ups_k hj) ?_ (fun g hg hn => by rw [agx g hg, if_neg hn])
    obtain ⟨a1, a2, a3, a4, a5, a6, a7, a8, a9⟩ := hI.2.2.1 tt ht6
    have a6 : (m.2.2.2.2.eraseIdx k).countP (agOf tt) + agN tt x + n01 (m.2.2.1 tt 5) = n01 (m.2.2.1 tt 4) := a6
    rw [agx tt ht6, if_pos rfl] at a6
    have n4 := n01_le (m.2.2.1 tt 4)
    have hj : ∀ j, j ≠ 5 → (sH m tt 5 1).2.2.1 tt j = m.2.2.1 tt j := fun j hj => ups_k hj
    have h5 : (sH m tt 5 1).2.2.1 tt 5 = 1 := ups_s
    refine ⟨?_, ?_, Or.inr h5, ?_, ?_, ?_, ?_, fun k => k.elim, ?_⟩
    · rw [hj 0 (by decide)]; exact a1
    · rw [hj 4 (by decide)]; exact a2
    · rw [hj 0 (by decide), hj 1 (by decide)]; exact a4
    · rw [hj 0 (by decide), hj 1 (by decide), hj 2 (by decide), hj 4 (by decide)]; exact a5
    · rw [hj 4 (by decide), h5]
      show _ + 0 + 0 + 1 = _
      omega
    · rw [hj 4 (by decide)]; exact a7
    · rw [hj 3 (by decide)]; exact a9
  · have e : mDrop k x m = mOut k (sZ (sZ (sZ m 9 (m.1 9 + x.1 3)) 12 (m.1 12 + 1)) 13 1) := by
      unfold mDrop
      dsimp only
      rw [k3, if_neg (by decide), if_neg (by decide)]
    rw [e]
    have agx : ∀ v, agN v x = 0 := fun v => ag_0 (by rw [k3]; decide) (by rw [k3]; decide)
    refine row 0 (by omega) m rfl rfl (fun _ _ _ => rfl) (fun _ _ => rfl) ?_ (fun g _ _ => agx g)
    have q := hI.2.2.1 0 (by omega)
    have q : HR ((m.2.2.2.2.eraseIdx k).countP (agOf 0) + agN 0 x) (m.2.2.1 0) (m.2.2.2.1 0) True (u 0) := q
    rw [agx] at q
    exact q.weak (fun k => k) (fun k => k.elim)
theorem CI.good0 (hI : CI d1 d2 d3 z B 0 (fun _ => 0) (fun _ => True) u m) (hB : B < 2 ^ 31) : CI d1 d2 d3 0 B 0 (fun _ => 0) (fun _ => True) (fun _ => False) (mGood0 m) := by
  obtain ⟨b1, -⟩ := hI.gh (show 0 < 6 by omega)
  obtain ⟨g1, g2⟩ := add_nI (x := m.1 8) (y := m.1 9) hI.1.2.2.2.2.1 hI.1.2.2.2.2.2 (by omega)
  refine CI.upd (h := 0) (yo := none) hI (by omega) (fun v hv hn => rfl) (fun v hv hn => rfl) rfl ?_ ?_ ?_ ⟨rfl, g1, Int32.le_refl 0⟩ ?_ ?_ (fun v hv hn => ⟨rfl, fun _ => trivial, fun k => k.elim⟩) (fun y hy => by cases hy)
  · show m.1 8 + m.1 9 + (0 : Int32) - m.1 7 + m.2.2.1 0 1 + (0 : Int32) = d1 - d1 + (m.1 8 + m.1 9 - m.1 7 + m.2.2.1 0 1)
    grind
  · show m.2.2.1 0 7 + m.1 10 - m.2.2.1 0 6 - (0 : Int32) = d2 - d2 + (m.2.2.1 0 7 + m.1 10 - m.2.2.1 0 6)
    grind
  · show m.1 10 + m.2.2.1 0 8 - (0 : Int32) - m.1 11 = d3 - d3 + (m.1 10 + m.2.2.1 0 8 - m.1 11)
    grind
  · show gN (m.1 8 + m.1 9) + gN 0 + gN (m.2.2.1 0 1) + 0 + 0 + B ≤ gN (m.1 8) + gN (m.1 9) + gN (m.2.2.1 0 1) + 0 + B
    rw [gN_z]
    omega
  · exact (hI.2.2.1 0 (by omega)).weak (fun k => k) (fun k => k.elim)
theorem CI.goodH {h : Nat} (hI : CI d1 d2 d3 z B 0 (fun _ => 0) (fun _ => True) u m) (hh : h < 6) (p1 : 1 ≤ m.1 2) (p2 : m.1 2 ≤ 99) (hl : (m.2.2.2.1 h).length < 2 ^ 31) : CI d1 d2 d3 z B 0 (fun _ => 0) (fun _ => True) (fun v => v = h ∨ u v) (mGoodH E h m) := by
  obtain ⟨a1, a2, a3, a4, a5, a6, a7, a8, a9⟩ := hI.2.2.1 h hh
  unfold mGoodH
  by_cases hc : m.2.2.1 h 5 = 0
  · rw [if_pos hc]
    refine hI.reW (fun _ _ k => Or.inl k) (fun v hv k => ?_)
    rcases k with k | k
    · rw [k]; exact Or.inr hc
    · exact Or.inl k
  · rw [if_neg hc]
    have a6 : m.2.2.2.2.countP (agOf h) + 0 + n01 (m.2.2.1 h 5) = n01 (m.2.2.1 h 4) := a6
    have n5 : n01 (m.2.2.1 h 5) = 1 := if_neg hc
    have n4 := n01_le (m.2.2.1 h 4)
    have hb : m.2.2.1 h 0 = 1 := by
      rcases a1 with q | q
      · have q4 := (a5 q).2.2.2
        rw [q4] at a6
        have e0 : n01 0 = 0 := rfl
        omega
      · exact q
    obtain ⟨m1, hm⟩ : ∃ m1, m1 = sH (sH m h 5 0) h 4 0 := ⟨_, rfl⟩
    rw [← hm]
    have f0 : ∀ k, k ≠ 5 → k ≠ 4 → m1.2.2.1 h k = m.2.2.1 h k := fun k k1 k4 => by
      rw [hm]
      show ups (ups m.2.2.1 h 5 0) h 4 0 h k = _
      rw [ups_k k4, ups_k k1]
    have f4 : m1.2.2.1 h 4 = 0 := by rw [hm]; exact ups_s
    have f5 : m1.2.2.1 h 5 = 0 := by
      rw [hm]
      show ups (ups m.2.2.1 h 5 0) h 4 0 h 5 = _
      rw [ups_k (by decide), ups_s]
    have fQ : m1.2.2.2.1 = m.2.2.2.1 := by rw [hm]; rfl
    have fz : m1.1 = m.1 := by rw [hm]; rfl
    have hC : CI d1 d2 d3 z B 0 (fun _ => 0) (fun v => v ≠ h) (fun v => v = h ∨ u v) m1 := by
      refine CI.upd (h := h) (yo := none) hI hh (fun v hv hn => ?_) (fun v hv hn => by rw [fQ]) ?_ ?_ ?_ ?_ (by rw [fz]; exact hI.1.2.2.2) ?_ ?_ (fun v hv hn => ⟨rfl, fun _ => trivial, fun k => k.resolve_left hn⟩) (fun y hy => by cases hy)
      · rw [hm]
        show ups (ups m.2.2.1 h 5 _) h 4 0 v = _
        rw [ups_row hn, ups_row hn]
      · rw [hm]; rfl
      · rw [f0 1 (by decide) (by decide), fz]
        show _ + (0 : Int32) = _
        grind
      · rw [f0 7 (by decide) (by decide), f0 6 (by decide) (by decide), fz]
        show _ - (0 : Int32) = _
        grind
      · rw [f0 8 (by decide) (by decide), fz]
        show _ - (0 : Int32) - _ = _
        grind
      · rw [f0 1 (by decide) (by decide), fz]
        exact Nat.le_refl _
      · rw [fQ]
        refine ⟨?_, Or.inl f4, Or.inl f5, fun _ => ?_, fun k => ?_, ?_, fun k => absurd rfl k, fun _ => f5, ?_⟩
        · rw [f0 0 (by decide) (by decide)]; exact a1
        · rw [f0 1 (by decide) (by decide)]; exact a4 hb
        · rw [f0 0 (by decide) (by decide), hb] at k
          exact absurd k (by decide)
        · rw [f4, f5]
          show m.2.2.2.2.countP (agOf h) + 0 + 0 + 0 = 0
          omega
        · rw [f0 3 (by decide) (by decide)]; exact a9
    exact hC.send hh (fun q => q rfl) (fun v hv _ => hv) (by rw [fz]; exact p1) (by rw [fz]; exact p2) (by rw [f0 0 (by decide) (by decide)]; exact hb) (by rw [fQ]; exact hl)
theorem CI.good {T : Nat} {b : Nat → Nat} (hI : CI d1 d2 d3 z B 0 (fun _ => 0) (fun _ => True) u m) (hV : Inv E Gd T T b m) (hE : EOk E Gd) (hB : B < 2 ^ 31) : CI d1 d2 d3 0 B 0 (fun _ => 0) (fun _ => True) (fun _ => True) (mGood E m) := by
  have hV0 := hV.good0
  have key : ∀ q, q ≤ 6 → CI d1 d2 d3 0 B 0 (fun _ => 0) (fun _ => True) (fun v => v < q) (mGoodN E q (mGood0 m)) := by
    intro q
    induction q with
    | zero => intro _; exact (hI.good0 hB).reW (fun _ _ k => Or.inl k) (fun v _ k => absurd k (Nat.not_lt_zero v))
    | succ q ih =>
      intro hq
      have hVq := hV0.goodN hE (Nat.le_refl _) q (by omega)
      have hl := hVq.qlen hE (show q < 6 by omega)
      refine ((ih (by omega)).goodH (h := q) (E := E) (by omega) hVq.1.2.2.2.2.1 hVq.1.2.2.2.2.2 (by omega)).reW (fun _ _ k => Or.inl k) (fun v _ k => Or.inl ?_)
      by_cases c : v = q
      · exact Or.inl c
      · exact Or.inr (by omega)
  rw [mGood_N]
  exact (key 6 (Nat.le_refl _)).reW (fun _ _ k => Or.inl k) (fun v hv _ => Or.inl hv)
theorem CI.mint {a : Nat} (hI : CI d1 d2 d3 z B 0 (fun _ => 0) (fun _ => True) u m) (p1 : 2 ≤ m.1 1) (p2 : m.1 1 ≤ 16) : CI d1 d2 d3 z (B + 65536) 0 (fun _ => 0) (fun _ => True) u (mPost (mMint (sZ m 10 (m.1 10 + 1))) 0 6 (E.1 a) (coin m) (some a)) := by
  obtain ⟨c3, c4⟩ := coin_of p1 p2
  have c5 : gN (coin m) ≤ 65536 := gN_le (k := 65536) c3 c4 (by omega)
  have c6 : 4 ≤ coin m := coin_4 p1 p2
  obtain ⟨y, hy⟩ : ∃ y : Mg, y = (mg 0 (nI 6) (nI (E.1 a)) (coin m) (m.1 0 + m.2.1 (6 * 7 + E.1 a)), some a) := ⟨_, rfl⟩
  have ya : ∀ v, agN v y = 0 := fun v => by rw [hy]; exact ag_0 (show (0 : Int32) ≠ 1 by decide) (show (0 : Int32) ≠ 2 by decide)
  have y0 : kC 0 y = 1 := by rw [hy]; rfl
  have y1 : kC 1 y = 0 := by rw [hy]; rfl
  have y3 : g3 y = coin m := by rw [hy]; rfl
  have y4 : gN3 y = gN (coin m) := by rw [hy]; rfl
  obtain ⟨m1, hm⟩ : ∃ m1, m1 = mPost (mMint (sZ m 10 (m.1 10 + 1))) 0 6 (E.1 a) (coin m) (some a) := ⟨_, rfl⟩
  rw [← hm]
  have fH : m1.2.2.1 = m.2.2.1 := by rw [hm]; rfl
  have fQ : m1.2.2.2.1 = m.2.2.2.1 := by rw [hm]; rfl
  have fz : ∀ k, k ≠ 7 → k ≠ 10 → k ≠ 11 → m1.1 k = m.1 k := fun k k7 k10 k11 => by
    rw [hm]
    show up1 (up1 (up1 m.1 10 _) 7 _) 11 _ k = _
    rw [up1_n k11, up1_n k7, up1_n k10]
  have f7 : m1.1 7 = m.1 7 + coin m := by
    rw [hm]
    show up1 (up1 (up1 m.1 10 (m.1 10 + 1)) 7 (up1 m.1 10 (m.1 10 + 1) 7 + coin m)) 11 (up1 m.1 10 (m.1 10 + 1) 11 + 1) 7 = _
    rw [up1_n (by decide), up1_s, up1_n (by decide)]
  have f10 : m1.1 10 = m.1 10 + 1 := by
    rw [hm]
    show up1 (up1 (up1 m.1 10 (m.1 10 + 1)) 7 (up1 m.1 10 (m.1 10 + 1) 7 + coin m)) 11 (up1 m.1 10 (m.1 10 + 1) 11 + 1) 10 = _
    rw [up1_n (by decide), up1_n (by decide), up1_s]
  have f11 : m1.1 11 = m.1 11 + 1 := by
    rw [hm]
    show up1 (up1 (up1 m.1 10 (m.1 10 + 1)) 7 (up1 m.1 10 (m.1 10 + 1) 7 + coin m)) 11 (up1 m.1 10 (m.1 10 + 1) 11 + 1) 11 = _
    rw [up1_s, up1_n (by decide)]
  refine CI.upd (h := 0) (yo := some y) hI (by omega) (fun v hv hn => by rw [fH]) (fun v hv hn => by rw [fQ]) ?_ ?_ ?_ ?_ ?_ ?_ ?_ (fun v hv hn => ⟨?_, fun _ => trivial, fun k => k⟩) (fun y' hy' => ?_)
  · rw [hm, hy]; rfl
  · rw [fH, f7, fz 8 (by decide) (by decide) (by decide), fz 9 (by decide) (by decide) (by decide)]
    show _ + g3 y = _
    rw [y3]
    grind
  · rw [fH, f10]
    show _ - kC 0 y = _
    rw [y0]
    grind
  · rw [fH, f10, f11]
    show _ - kC 1 y - _ = _
    rw [y1]
    grind
  · rw [fz 13 (by decide) (by decide) (by decide), fz 8 (by decide) (by decide) (by decide), fz 9 (by decide) (by decide) (by decide)]
    exact hI.1.2.2.2
  · rw [fH, fz 8 (by decide) (by decide) (by decide), fz 9 (by decide) (by decide) (by decide)]
    show _ + gN3 y + 0 + B ≤ _
    rw [y4]
    omega
  · rw [fH, fQ]
    show HR (m.2.2.2.2.countP (agOf 0) + agN 0 y) _ _ _ _
    rw [ya]
    exact hI.2.2.1 0 (by omega)
  · exact ya v
  · cases hy'
    rw [hy]
    exact Or.inl ⟨rfl, Int32.le_trans (by decide) c6⟩
theorem CI.launch (q : List Nat) : ∀ {m : MS} {B : Nat}, CI d1 d2 d3 z B 0 (fun _ => 0) (fun _ => True) u m → 2 ≤ m.1 1 → m.1 1 ≤ 16 → CI d1 d2 d3 z (B + 65536 * q.length) 0 (fun _ => 0) (fun _ => True) u (mLaunch E q m) := by
  induction q with
  | nil => intro m B hI _ _; exact hI
  | cons a q ih =>
    intro m B hI p1 p2
    have h := ih (m := mPost (mMint (sZ m 10 (m.1 10 + 1))) 0 6 (E.1 a) (coin m) (some a)) (hI.mint p1 p2) p1 p2
    exact h.more (by rw [List.length_cons]; omega)
theorem launch_z (q : List Nat) : ∀ (m : MS), (mLaunch E q m).1 10 = m.1 10 + nI q.length ∧ (mLaunch E q m).1 11 = m.1 11 + nI q.length ∧ (mLaunch E q m).1 7 = m.1 7 + nI q.length * coin m ∧ (mLaunch E q m).1 1 = m.1 1 := by
  induction q with
  | nil =>
    intro m
    refine ⟨(Int32.add_zero _).symm, (Int32.add_zero _).symm, ?_, rfl⟩
    show m.1 7 = m.1 7 + (0 : Int32) * coin m
    grind
  | cons a q ih =>
    intro m
    obtain ⟨i1, i2, i3, i4⟩ := ih (mPost (mMint (sZ m 10 (m.1 10 + 1))) 0 6 (E.1 a) (coin m) (some a))
    have e : mLaunch E (a :: q) m = mLaunch E q (mPost (mMint (sZ m 10 (m.1 10 + 1))) 0 6 (E.1 a) (coin m) (some a)) := rfl
    have n1 : nI (a :: q).length = nI q.length + 1 := nI_succ _
    have f7 : (mPost (mMint (sZ m 10 (m.1 10 + 1))) 0 6 (E.1 a) (coin m) (some a)).1 7 = m.1 7 + coin m := by
      show up1 (up1 (up1 m.1 10 (m.1 10 + 1)) 7 (up1 m.1 10 (m.1 10 + 1) 7 + coin m)) 11 (up1 m.1 10 (m.1 10 + 1) 11 + 1) 7 = _
      rw [up1_n (by decide), up1_s, up1_n (by decide)]
    have f10 : (mPost (mMint (sZ m 10 (m.1 10 + 1))) 0 6 (E.1 a) (coin m) (some a)).1 10 = m.1 10 + 1 := by
      show up1 (up1 (up1 m.1 10 (m.1 10 + 1)) 7 (up1 m.1 10 (m.1 10 + 1) 7 + coin m)) 11 (up1 m.1 10 (m.1 10 + 1) 11 + 1) 10 = _
      rw [up1_n (by decide), up1_n (by decide), up1_s]
    have f11 : (mPost (mMint (sZ m 10 (m.1 10 + 1))) 0 6 (E.1 a) (coin m) (some a)).1 11 = m.1 11 + 1 := by
      show up1 (up1 (up1 m.1 10 (m.1 10 + 1)) 7 (up1 m.1 10 (m.1 10 + 1) 7 + coin m)) 11 (up1 m.1 10 (m.1 10 + 1) 11 + 1) 11 = _
      rw [up1_s, up1_n (by decide)]
    have fc : coin (mPost (mMint (sZ m 10 (m.1 10 + 1))) 0 6 (E.1 a) (coin m) (some a)) = coin m := rfl
    rw [e, n1]
    rw [f10] at i1
    rw [f11] at i2
    rw [f7, fc] at i3
    refine ⟨?_, ?_, ?_, i4⟩
    · rw [i1]; grind
    · rw [i2]; grind
    · rw [i3]; grind
end CI4
theorem CI.m0 : CI 0 0 0 0 0 0 (fun _ => 0) (fun _ => True) (fun _ => True) m0 := by
  refine ⟨⟨by decide +kernel, by decide +kernel, by decide +kernel, rfl, by decide, by decide⟩, by decide +kernel, fun h hh => ?_, fun x hx => by cases hx⟩
  exact ⟨Or.inl rfl, Or.inl rfl, Or.inl rfl, fun k => absurd (show (0 : Int32) = 1 from k) (by decide), fun _ => ⟨rfl, rfl, rfl, rfl⟩, rfl, fun _ k => absurd rfl k, fun _ => rfl, rfl⟩
