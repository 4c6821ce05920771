/-! what is held down, along all calls -/
theorem rgo_I {tx : Nat → Int32} {s' : RS} (c : Nat) : ∀ (p : Nat) (s : RS), RInv s p → rgo tx s p c = .inr s' → RInv s' (p + c) := by
  induction c with
  | zero =>
    intro p s h hr
    cases hr
    exact h
  | succ c ih =>
    intro p s hI h
    have h : (match rstep s (tx p) with | none => Sum.inl p | some s1 => rgo tx s1 (p + 1) c) = .inr s' := h
    cases hs : rstep s (tx p) with
    | none => rw [hs] at h; cases h
    | some s1 =>
      rw [hs] at h
      have := ih (p + 1) s1 (rstep_inv hI hs) h
      rw [show p + (c + 1) = p + 1 + c by omega]
      exact this
theorem read_fi {A : AP} (hl : A.2.2.2.2.2 ≤ 60) (h : aErr A = none) : FI (fbL (aL A)) (aL A).length (mL (aL A)) ∧ (aL A).length ≤ 15 ∧ (∀ y ∈ aL A, y.1 < 6 ∧ y.2.1 ≤ 20 ∧ y.2.2 < (aL A).length) ∧ aL A ≠ [] ∧ VD (deps (aL A)) := by
  obtain ⟨s, q1, q2, q3, q4⟩ := read_ok h
  have hI := rgo_I A.2.2.2.2.2 0 ([], 0, 0) ri_0 q1
  rw [Nat.zero_add] at hI
  obtain ⟨L, d, due⟩ := s
  have q2 : L = aL A := q2
  subst q2
  obtain ⟨h1, h2, h3⟩ := hI
  have hok : due = 3 ∨ due = 4 := by
    have h : errOf A.2.2.2.2.2 (aRead A) = none := h
    rw [q1] at h
    have h : (if rdOk (aL A, d, due) = true then none else some A.2.2.2.2.2) = none := h
    by_cases c : rdOk (aL A, d, due) = true
    · exact (of_decide_eq_true c).2
    · rw [if_neg c] at h; cases h
  refine ⟨h1, ?_, h2, fun hn => ?_, q3⟩
  · dsimp only at h3
    rcases h3 with q | q | q | q | q
    · have := q.2.2; omega
    · have := q.2.2; omega
    · have := q.2.2; omega
    · have := q.2.2; omega
    · have := q.2.2; omega
  · dsimp only at h3
    rw [hn] at h3
    have e0 : mL [] = 0 := rfl
    rw [e0] at h3
    omega
section FIN1
variable {E : EE} {Gd : Nat → Prop} {m : MS} {n0 : Nat} {L : List RN}
theorem ext_sz {k : Nat} : (eExt n0 L E).2.2.1 (n0 + k) = (fbL L).2.2.1 k := by
  show (if n0 ≤ n0 + k then (fbL L).2.2.1 (n0 + k - n0) else E.2.2.1 (n0 + k)) = _
  rw [if_pos (by omega), Nat.add_sub_cancel_left]
theorem EOk.ext (hE : EOk E Gd) (hG : ∀ a, Gd a → a < n0) (hF : FI (fbL L) L.length (mL L)) (hL : L.length ≤ 15) (hB : ∀ y ∈ L, y.1 < 6 ∧ y.2.1 ≤ 20 ∧ y.2.2 < L.length) : EOk (eExt n0 L E) (gExt n0 L Gd) := by
  intro a ha
  rcases ha with ha | ⟨ha1, ha2⟩
  · obtain ⟨b1, b2, b3, b4, b5⟩ := hE a ha
    obtain ⟨e1, e2, e3, e4⟩ := ext_old (L := L) (E := E) (hG a ha)
    have e5 : (E.2.2.2 a).map (eExt n0 L E).2.2.1 = (E.2.2.2 a).map E.2.2.1 := List.map_congr_left (fun b hb => (ext_old (L := L) (E := E) (hG b (b2 b hb))).2.2.1)
    rw [e1, e3, e4, e5]
    exact ⟨b1, fun b hb => Or.inl (b2 b hb), b3, b4, b5⟩
  · obtain ⟨q, rfl⟩ : ∃ q, a = n0 + q := ⟨a - n0, by omega⟩
    have hq : q < L.length := by omega
    have hy : L[q]? = some L[q] := List.getElem?_eq_getElem hq
    obtain ⟨e1, e2, e4⟩ := ext_new (n0 := n0) (L := L) (E := E) (k := q)
    obtain ⟨g1, g2, g3, g4, g5, g6, g7, -⟩ := hF
    have hs6 := g6 q hq
    have hs7 := g7 q hq
    have hkl : ((fbL L).2.1 q).length ≤ (((fbL L).2.1 q).map (fbL L).2.2.1).sum := len_le_sum (fun k hk => (g7 k (g3 q k hk).2).1)
    have e5 : (((fbL L).2.1 q).map (fun k => n0 + k)).map (eExt n0 L E).2.2.1 = ((fbL L).2.1 q).map (fbL L).2.2.1 := by
      rw [List.map_map]
      exact List.map_congr_left (fun k _ => ext_sz)
    rw [e1, ext_sz, e4, e5, nodeAt_some hy]
    refine ⟨(hB _ (List.getElem_mem hq)).1, fun b hb => ?_, by rw [List.length_map]; omega, hs6, by omega⟩
    obtain ⟨k, hk, hkb⟩ := List.mem_map.mp hb
    have := g3 q k hk
    exact Or.inr ⟨by omega, by omega⟩
theorem EW.ext (hW : EW E Gd) (hG : ∀ a, Gd a → a < n0) (hB : ∀ y ∈ L, y.1 < 6 ∧ y.2.1 ≤ 20 ∧ y.2.2 < L.length) : EW (eExt n0 L E) (gExt n0 L Gd) := by
  intro a ha
  rcases ha with ha | ⟨ha1, ha2⟩
  · rw [(ext_old (L := L) (E := E) (hG a ha)).2.1]
    exact hW a ha
  · obtain ⟨q, rfl⟩ : ∃ q, a = n0 + q := ⟨a - n0, by omega⟩
    have hq : q < L.length := by omega
    rw [ext_new.2.1, nodeAt_some (List.getElem?_eq_getElem hq)]
    exact ⟨_, (hB _ (List.getElem_mem hq)).2.1, rfl⟩
theorem roots_sum (hF : FI (fbL L) L.length (mL L)) : ((rootsOf n0 L).map (eExt n0 L E).2.2.1).sum = L.length := by
  have h := hF.2.2.2.2.2.2.2.2.2.2.1
  unfold rootsOf
  rw [List.map_map]
  have e : ((fbL L).1.map ((eExt n0 L E).2.2.1 ∘ fun k => n0 + k)) = (fbL L).1.map (fbL L).2.2.1 := List.map_congr_left (fun k _ => ext_sz)
  rw [e]
  exact h
theorem roots_gd (hF : FI (fbL L) L.length (mL L)) : ∀ a ∈ rootsOf n0 L, gExt n0 L Gd a := by
  intro a ha
  obtain ⟨k, hk, e⟩ := List.mem_map.mp ha
  have := hF.2.2.2.2.2.2.2.1 k hk
  exact Or.inr ⟨by omega, by omega⟩
/-! launching, losing, making good -/
theorem pot_launch (hE : EOk E Gd) (q : List Nat) : ∀ (m : MS), PG m → 2 ≤ m.1 1 → m.1 1 ≤ 16 → (∀ a ∈ q, Gd a) → PG (mLaunch E q m) ∧ pot E (mLaunch E q m) ≤ pot E m + 131290 * (q.map E.2.2.1).sum := by
  induction q with
  | nil => intro m hP _ _ _; exact ⟨hP, by show pot E m ≤ pot E m + 131290 * 0; omega⟩
  | cons a q ih =>
    intro m hP h1 h2 hg
    obtain ⟨c1, c2⟩ := coin_of h1 h2
    have hEa := (hE a (hg a List.mem_cons_self)).2.2.2.1
    have hP1 : PG (mMint (sZ m 10 (m.1 10 + 1))) := hP
    have hP2 : PG (mPost (mMint (sZ m 10 (m.1 10 + 1))) 0 6 (E.1 a) (coin m) (some a)) := hP1.post c1 (fun q => by cases q)
    have hp2 : pot E (mPost (mMint (sZ m 10 (m.1 10 + 1))) 0 6 (E.1 a) (coin m) (some a)) ≤ pot E m + 131290 * E.2.2.1 a := by
      rw [pot_post]
      have e1 : pot E (mMint (sZ m 10 (m.1 10 + 1))) = pot E m := rfl
      have e2 : wt E (mg 0 (nI 6) (nI (E.1 a)) (coin m) ((mMint (sZ m 10 (m.1 10 + 1))).1 0 + (mMint (sZ m 10 (m.1 10 + 1))).2.1 (6 * 7 + E.1 a)), some a) = 131290 * (E.2.2.1 a - 1) + 65556 + gN (coin m) := if_neg (by show ¬ (0 : Int32) = 3; decide)
      rw [e1, e2]
      have := gN_le c1 (k := 65536) c2 (by omega)
      have hc : gN (coin m) ≤ 65536 := this
      omega
    have key := ih (mPost (mMint (sZ m 10 (m.1 10 + 1))) 0 6 (E.1 a) (coin m) (some a)) hP2 (by
      show 2 ≤ up1 (up1 (up1 m.1 10 (m.1 10 + 1)) 7 ((sZ m 10 (m.1 10 + 1)).1 7 + coin (sZ m 10 (m.1 10 + 1)))) 11 ((sZ m 10 (m.1 10 + 1)).1 11 + 1) 1
      rw [up1_n (by decide), up1_n (by decide), up1_n (by decide)]
      exact h1) (by
      show up1 (up1 (up1 m.1 10 (m.1 10 + 1)) 7 ((sZ m 10 (m.1 10 + 1)).1 7 + coin (sZ m 10 (m.1 10 + 1)))) 11 ((sZ m 10 (m.1 10 + 1)).1 11 + 1) 1 ≤ 16
      rw [up1_n (by decide), up1_n (by decide), up1_n (by decide)]
      exact h2) (fun c hc => hg c (List.mem_cons_of_mem _ hc))
    rw [List.map_cons, List.sum_cons]
    have e3 : mLaunch E (a :: q) m = mLaunch E q (mPost (mMint (sZ m 10 (m.1 10 + 1))) 0 6 (E.1 a) (coin m) (some a)) := rfl
    rw [e3]
    exact ⟨key.1, by have := key.2; omega⟩
theorem sumW_erase (E : EE) {l : List Mg} : ∀ {k : Nat} {x : Mg}, l[k]? = some x → sumW E (l.eraseIdx k) + wt E x = sumW E l := by
  induction l with
  | nil => intro k x h; cases h
  | cons y l ih =>
    intro k x h
    cases k with
    | zero =>
      have e : y = x := Option.some.inj h
      subst e
      show sumW E l + _ = _
      rw [sumW_cons]
      omega
    | succ k =>
      have := ih (k := k) (x := x) h
      show sumW E (y :: l.eraseIdx k) + _ = _
      rw [sumW_cons, sumW_cons]
      omega
theorem pot_out (hP : PG m) {k : Nat} {x : Mg} (hx : m.2.2.2.2[k]? = some x) : PG (mOut k m) ∧ pot E (mOut k m) + wt E x = pot E m := by
  have h := sumW_erase E hx
  refine ⟨⟨hP.1, fun y hy => hP.2 y (List.eraseIdx_subset hy)⟩, ?_⟩
  show s6 (hw m) + 131290 * sumQ E m.2.2.2.1 6 + sumW E (m.2.2.2.2.eraseIdx k) + wt E x = _
  unfold pot
  omega
theorem pot_drop (hP : PG m) {k : Nat} {x : Mg} (hx : m.2.2.2.2[k]? = some x) (hM : MgOk Gd x) : PG (mDrop k x m) ∧ pot E (mDrop k x m) ≤ pot E m := by
  obtain ⟨f, t, hf, ht, e1, e2, hk⟩ := hM
  have c1 : (x.1 1).toNatClampNeg = f := by rw [e1]; exact nI_clamp (by omega)
  have c2 : (x.1 2).toNatClampNeg = t := by rw [e2]; exact nI_clamp (by omega)
  have tail : ∀ m', PG m' → m'.2.2.2.2 = m.2.2.2.2 → PG (mOut k (sZ (sZ (sZ m' 9 (m'.1 9 + x.1 3)) 12 (m'.1 12 + 1)) 13 1)) ∧ pot E (mOut k (sZ (sZ (sZ m' 9 (m'.1 9 + x.1 3)) 12 (m'.1 12 + 1)) 13 1)) + wt E x = pot E m' := fun m' hP' hm' => by
    have h1 : PG (sZ (sZ (sZ m' 9 (m'.1 9 + x.1 3)) 12 (m'.1 12 + 1)) 13 1) := hP'
    have h2 := pot_out (E := E) h1 (k := k) (x := x) (by show m'.2.2.2.2[k]? = some x; rw [hm']; exact hx)
    exact h2
  have five : ∀ h, h < 6 → PG (sH m h 5 1) ∧ pot E (sH m h 5 1) ≤ pot E m + 65536 := fun h hh => by
    refine ⟨hP.sH (by decide) (fun q => absurd q (by decide)), ?_⟩
    have q0 := pot_sH (E := E) (m := m) (h := h) (k := 5) (x := 1) hh
    have h1 : hw (sH m h 5 1) h = max (gN (m.2.2.1 h 1)) 198 + gN (m.2.2.1 h 2) + 65536 * n01 1 := by
      show max (gN (ups m.2.2.1 h 5 1 h 1)) 198 + gN (ups m.2.2.1 h 5 1 h 2) + 65536 * n01 (ups m.2.2.1 h 5 1 h 5) = _
      rw [ups_s, ups_k (by decide), ups_k (by decide)]
    have h2 : hw m h = max (gN (m.2.2.1 h 1)) 198 + gN (m.2.2.1 h 2) + 65536 * n01 (m.2.2.1 h 5) := rfl
    have h3 : n01 1 = 1 := rfl
    rw [h1, h2, h3] at q0
    omega
  unfold mDrop
  rw [c1, c2]
  dsimp only
  rcases hk with ⟨k0, -⟩ | ⟨k1, hf6, hn⟩ | ⟨k2, ht6, hn⟩ | ⟨k3, hf6, hn⟩
  · rw [k0, if_neg (by decide), if_neg (by decide)]
    obtain ⟨a, b⟩ := tail m hP rfl
    exact ⟨a, by omega⟩
  · rw [k1, if_pos rfl, if_neg (by decide)]
    obtain ⟨p1, p2⟩ := five f hf6
    obtain ⟨a, b⟩ := tail (sH m f 5 1) p1 rfl
    have hwx : wt E x = 65536 := by
      unfold wt
      rw [k1, if_neg (by decide), hn]
    exact ⟨a, by omega⟩
  · rw [k2, if_neg (show ¬ (2 : Int32) = 1 by decide), if_pos rfl]
    obtain ⟨p1, p2⟩ := five t ht6
    obtain ⟨a, b⟩ := tail (sH m t 5 1) p1 rfl
    have hwx : wt E x = 65536 := by
      unfold wt
      rw [k2, if_neg (by decide), hn]
    exact ⟨a, by omega⟩
  · rw [k3, if_neg (by decide), if_neg (by decide)]
    obtain ⟨a, b⟩ := tail m hP rfl
    exact ⟨a, by omega⟩
theorem pot_goodH (hE : EOk E Gd) (hP : PG m) {h : Nat} (hh : h < 6) (hq : ∀ e ∈ m.2.2.2.1 h, Gd e) : PG (mGoodH E h m) ∧ pot E (mGoodH E h m) ≤ pot E m := by
  unfold mGoodH
  by_cases c : m.2.2.1 h 5 = 0
  · rw [if_pos c]; exact ⟨hP, Nat.le_refl _⟩
  · rw [if_neg c]
    have hP1 : PG (sH (sH m h 5 0) h 4 0) := (hP.sH (by decide) (fun q => absurd q (by decide))).sH (by decide) (fun q => absurd q (by decide))
    have q0 := pot_sH (E := E) (m := m) (h := h) (k := 5) (x := 0) hh
    have h1 : hw (sH m h 5 0) h = max (gN (m.2.2.1 h 1)) 198 + gN (m.2.2.1 h 2) + 65536 * n01 0 := by
      show max (gN (ups m.2.2.1 h 5 0 h 1)) 198 + gN (ups m.2.2.1 h 5 0 h 2) + 65536 * n01 (ups m.2.2.1 h 5 0 h 5) = _
      rw [ups_s, ups_k (by decide), ups_k (by decide)]
    have h2 : hw m h = max (gN (m.2.2.1 h 1)) 198 + gN (m.2.2.1 h 2) + 65536 * n01 (m.2.2.1 h 5) := rfl
    have h3 : n01 0 = 0 := rfl
    have h4 : n01 (m.2.2.1 h 5) = 1 := if_neg c
    rw [h1, h2, h3, h4] at q0
    have q1 : pot E (sH (sH m h 5 0) h 4 0) = pot E (sH m h 5 0) := pot_sHo hh (by decide)
    obtain ⟨r1, r2, -⟩ := pot_send hE hP1 hh hq
    exact ⟨r1, by omega⟩
theorem pot_good {T : Nat} {b : Nat → Nat} (hI : Inv E Gd T T b m) (hE : EOk E Gd) (hP : PG m) : PG (mGood E m) ∧ pot E (mGood E m) ≤ pot E m := by
  rw [mGood_N]
  have h0 := hI.good0
  have key : ∀ q, q ≤ 6 → PG (mGoodN E q (mGood0 m)) ∧ pot E (mGoodN E q (mGood0 m)) ≤ pot E m := by
    intro q
    induction q with
    | zero => intro _; exact ⟨hP, Nat.le_refl _⟩
    | succ q ih =>
      intro hq
      obtain ⟨i1, i2⟩ := ih (by omega)
      have h1 := h0.goodN hE (Nat.le_refl _) q (by omega)
      obtain ⟨j1, j2⟩ := pot_goodH hE i1 (h := q) (by omega) (h1.2.2.1 q (by omega))
      exact ⟨j1, Nat.le_trans j2 i2⟩
  exact key 6 (Nat.le_refl _)
theorem PI_fresh (x : Int32) : PI E 1188 (mNew m x) := by
  refine ⟨⟨fun h hh => ⟨Int32.le_refl _, Int32.le_refl _, rfl⟩, fun y hy => by cases hy⟩, ?_⟩
  have e : sumQ E (mNew m x).2.2.2.1 6 = 0 := by
    rw [sumQ_s6]
    rfl
  unfold pot
  rw [e]
  exact Nat.le_refl _
theorem PI_m0 : PI E 1188 m0 := by
  refine ⟨⟨fun h hh => ⟨Int32.le_refl _, Int32.le_refl _, rfl⟩, fun y hy => by cases hy⟩, ?_⟩
  have e : sumQ E m0.2.2.2.1 6 = 0 := by
    rw [sumQ_s6]
    rfl
  unfold pot
  rw [e]
  exact Nat.le_refl _
theorem Inv.potExt {E' : EE} {T B : Nat} {b : Nat → Nat} (hI : Inv E Gd T B b m) (he : ∀ a, Gd a → E'.2.2.1 a = E.2.2.1 a) : pot E' m = pot E m := by
  have hq : ∀ h, h < 6 → (m.2.2.2.1 h).map E'.2.2.1 = (m.2.2.2.1 h).map E.2.2.1 := fun h hh => List.map_congr_left (fun a ha => he a (hI.2.2.1 h hh a ha))
  have hm : sumW E' m.2.2.2.2 = sumW E m.2.2.2.2 := by
    unfold sumW
    congr 1
    refine List.map_congr_left (fun x hx => ?_)
    obtain ⟨f, t, -, -, -, -, hk⟩ := (hI.2.2.2.1 x hx).1
    unfold wt
    rcases hk with ⟨-, -, a, k2, k3⟩ | ⟨-, -, k2⟩ | ⟨-, -, k2⟩ | ⟨-, -, k2⟩
    · rw [k2]
      dsimp only
      rw [he a k3]
    · rw [k2]
    · rw [k2]
    · rw [k2]
  unfold pot
  rw [hm, sumQ_s6, sumQ_s6]
  unfold s6
  dsimp only
  rw [hq 0 (by omega), hq 1 (by omega), hq 2 (by omega), hq 3 (by omega), hq 4 (by omega), hq 5 (by omega)]
end FIN1
