/-! errands within errands: how many -/
def b2n (b : Bool) : Nat := if b = true then 1 else 0
theorem sum_0 {l : List Nat} {g : Nat → Nat} (h : ∀ k, k ∈ l → g k = 0) : (l.map g).sum = 0 := by
  induction l with
  | nil => rfl
  | cons a t ih =>
    rw [List.map_cons, List.sum_cons, h a List.mem_cons_self, ih (fun k hk => h k (List.mem_cons_of_mem _ hk))]
theorem sum_eq1 {l : List Nat} {g : Nat → Nat} {x : Nat} (hl : l.Nodup) (hx : x ∈ l) (h1 : g x = 1) (h : ∀ k, k ∈ l → k ≠ x → g k = 0) : (l.map g).sum = 1 := by
  induction l with
  | nil => cases hx
  | cons a t ih =>
    obtain ⟨ha, ht⟩ := List.nodup_cons.mp hl
    rw [List.map_cons, List.sum_cons]
    by_cases e : a = x
    · subst e
      rw [h1, sum_0 (fun k hk => h k (List.mem_cons_of_mem _ hk) (fun q => ha (by rw [← q]; exact hk)))]
    · rw [h a List.mem_cons_self e]
      rcases List.mem_cons.mp hx with q | q
      · exact absurd q.symm e
      · rw [ih ht q (fun k hk hne => h k (List.mem_cons_of_mem _ hk) hne)]
/-- errands' places: o the number that came last; qs what waits at a house, ps the parts of one, bs those on the road -/
def Str (s : Nat → Int32) (o : Nat) (qs ps : Nat → List Nat) (bs : List Nat) : Prop :=
  s 10 = nI o ∧ upOk s ∧ (∀ e, e < 80 → ∃ w, w ≤ 8 ∧ eF s e 4 = nI w ∧ (w ≠ 0 → ∃ p, p ≤ o ∧ eF s e 3 = nI p) ∧ (1 ≤ w → w ≤ 7 → eF s e 2 = 0) ∧ (w = 8 → ∃ u, u < e ∧ eF s e 2 = nI (u + 1) ∧ 0 < eF s u 4)) ∧
  (∀ h, h < 6 → AtL s (h + 1) 0 (qs h)) ∧ (∀ e, e < 80 → AtL s 8 (e + 1) (ps e)) ∧ bs.Nodup ∧ ∀ e, e ∈ bs ↔ e < 80 ∧ eF s e 4 = nI 7
section TREE
variable {s : Nat → Int32} {o : Nat} {qs ps : Nat → List Nat} {bs : List Nat}
theorem nI_n0 {w : Nat} (hw : w ≤ 8) : 0 < nI w ↔ w ≠ 0 := by
  rw [show (0 : Int32) = nI 0 from rfl, nI_ltI (by omega) (by omega)]
  omega
/-- one that lives is at a house, on the road, or a part of one that lives -/
theorem Str.up (hS : Str s o qs ps bs) {e : Nat} (he : e < 80) (ha : 0 < eF s e 4) : (eF s e 2 = nI 0 ∧ ∃ w, 1 ≤ w ∧ w ≤ 7 ∧ eF s e 4 = nI w) ∨ (eF s e 4 = nI 8 ∧ ∃ u, u < e ∧ eF s e 2 = nI (u + 1) ∧ 0 < eF s u 4) := by
  obtain ⟨w, w1, w2, w3, w4, w5⟩ := hS.2.2.1 e he
  rw [w2, nI_n0 w1] at ha
  by_cases h8 : w = 8
  · refine Or.inr ⟨by rw [w2, h8], w5 h8⟩
  · have h1 : 1 ≤ w := Nat.pos_of_ne_zero ha
    have h7 : w ≤ 7 := by clear w3 w4 w5; omega
    exact Or.inl ⟨w4 h1 h7, w, h1, h7, w2⟩
theorem wth_lt (hU : upOk s) {p : Nat} (u : Nat) : u ≤ 80 → wth s p u = true → p < u := by
  induction u using Nat.strongRecOn with
  | ind u ih =>
    intro hu h
    cases u with
    | zero => cases h
    | succ e =>
      obtain ⟨w, hw, ew⟩ := hU e (by omega)
      rw [wth_s hU (by omega) ew hw] at h
      by_cases hc : e = p
      · omega
      · rw [if_neg hc] at h
        have := ih w (by omega) (by omega) h
        omega
theorem Str.kid (hS : Str s o qs ps bs) {e p : Nat} (he : e < 80) : p ∈ ps e ↔ p < 80 ∧ eF s p 4 = nI 8 ∧ eF s p 2 = nI (e + 1) := (hS.2.2.2.2.1 e he).1 p
theorem Str.kid_lt (hS : Str s o qs ps bs) {e p : Nat} (he : e < 80) (hp : p ∈ ps e) : e < p := by
  obtain ⟨h1, h2, h3⟩ := (hS.kid he).mp hp
  obtain ⟨w, hw, ew⟩ := hS.2.1 p h1
  rw [h3] at ew
  have := (nI_eq (by omega) (by omega)).mp ew
  omega
theorem Str.point (hS : Str s o qs ps bs) {e : Nat} (he : e < 80) (x : Nat) : x < 80 → 0 < eF s x 4 → b2n (wth s e (x + 1)) = b2n (decide (x = e)) + ((ps e).map (fun p => b2n (wth s p (x + 1)))).sum := by
  have hU := hS.2.1
  have below : ∀ p, p ∈ ps e → wth s p (e + 1) = false := fun p hp => by
    have := hS.kid_lt he hp
    rw [Bool.eq_false_iff]
    exact fun q => by have := wth_lt hU (e + 1) (by omega) q; omega
  induction x using Nat.strongRecOn with
  | ind x ih =>
    intro hx ha
    by_cases hxe : x = e
    · subst hxe
      obtain ⟨w, hw, ew⟩ := hU x hx
      rw [wth_s hU hx ew hw, if_pos rfl, sum_0 (fun p hp => by rw [below p hp]; rfl), decide_eq_true rfl]
      rfl
    · rcases hS.up hx ha with ⟨h2, -⟩ | ⟨h8, u, hu, h2, hau⟩
      · rw [wth_s hU hx h2 (Nat.zero_le _), if_neg hxe, decide_eq_false hxe, sum_0 (fun p hp => by
          rw [wth_s hU hx h2 (Nat.zero_le _), if_neg (fun q => by
            have := ((hS.kid he).mp hp).2.2
            rw [← q, h2] at this
            have := (nI_eq (by omega) (by omega)).mp this
            omega)]
          rfl)]
        rfl
      · rw [wth_s hU hx h2 (by omega), if_neg hxe, decide_eq_false hxe, ih u hu (by omega) hau]
        by_cases hue : u = e
        · subst hue
          have hk : x ∈ ps u := (hS.kid he).mpr ⟨hx, h8, h2⟩
          rw [decide_eq_true rfl, sum_0 (fun p hp => by rw [below p hp]; rfl), sum_eq1 (x := x) (hS.2.2.2.2.1 u he).nodup hk (by rw [wth_s hU hx h2 (by omega), if_pos rfl]; rfl) (fun k hk hne => by
            rw [wth_s hU hx h2 (by omega), if_neg (Ne.symm hne), below k hk]; rfl)]
          rfl
        · rw [decide_eq_false hue]
          refine congrArg (fun q => b2n false + q) ?_
          congr 1
          refine List.map_congr_left (fun p hp => ?_)
          rw [wth_s hU hx h2 (by omega), if_neg (fun q => hue (by
            have := ((hS.kid he).mp hp).2.2
            rw [← q, h2] at this
            have := (nI_eq (by omega) (by omega)).mp this
            omega))]
theorem cnt_point {p : Nat → Bool} {g : Nat → Nat → Bool} {q : Nat → Bool} {L : List Nat} (c : Nat) : (∀ x, x < c → b2n (p x) = b2n (q x) + (L.map (fun k => b2n (g k x))).sum) → cntF p c = cntF q c + (L.map (fun k => cntF (g k) c)).sum := by
  induction c with
  | zero =>
    intro _
    show 0 = 0 + (L.map (fun _ => 0)).sum
    rw [sum_0 (fun _ _ => rfl)]
  | succ c ih =>
    intro h
    have h1 := ih (fun x hx => h x (by omega))
    have h2 := h c (by omega)
    have e : ∀ L : List Nat, (L.map (fun k => cntF (g k) (c + 1))).sum = (L.map (fun k => cntF (g k) c)).sum + (L.map (fun k => b2n (g k c))).sum := by
      intro L
      induction L with
      | nil => rfl
      | cons a t iht =>
        rw [List.map_cons, List.sum_cons, List.map_cons, List.sum_cons, List.map_cons, List.sum_cons, iht]
        show cntF (g a) c + b2n (g a c) + _ = _
        omega
    rw [e]
    show cntF p c + b2n (p c) = cntF q c + b2n (q c) + _
    omega
theorem cnt_one {e c : Nat} (h : e < c) : cntF (fun x => decide (x = e)) c = 1 := by
  refine cnt_list (L := [e]) (List.nodup_cons.mpr ⟨(by simp), List.nodup_nil⟩) (fun x => ?_)
  rw [List.mem_singleton, decide_eq_true_iff]
  exact ⟨fun q => ⟨by omega, q⟩, fun q => q.2⟩
theorem Str.sub (hS : Str s o qs ps bs) {e : Nat} (he : e < 80) (ha : 0 < eF s e 4) : cntF (subP s e) 80 = 1 + ((ps e).map (fun p => cntF (subP s p) 80)).sum := by
  rw [← cnt_one he]
  refine cnt_point 80 (fun x hx => ?_)
  unfold subP
  by_cases hax : aliP s x = true
  · have h := hS.point he x hx (of_decide_eq_true hax)
    rw [hax]
    simp only [Bool.true_and]
    exact h
  · rw [Bool.eq_false_iff.mpr hax]
    have hxe : x ≠ e := fun q => hax (by rw [q]; exact decide_eq_true ha)
    rw [decide_eq_false hxe, sum_0 (fun _ _ => by rw [Bool.false_and]; rfl)]
    rfl
/-- the errands and all within them, counted by the numbers that they tell -/
theorem Str.size (hS : Str s o qs ps bs) {z : Nat → Nat} (hz : ∀ e, e < 80 → 0 < eF s e 4 → z e = 1 + ((ps e).map z).sum) (d : Nat) : ∀ e, e < 80 → 80 - e ≤ d → 0 < eF s e 4 → cntF (subP s e) 80 = z e := by
  induction d with
  | zero => intro e he hd _; omega
  | succ d ih =>
    intro e he hd ha
    rw [hS.sub he ha, hz e he ha]
    refine congrArg (fun q => 1 + q) ?_
    congr 1
    refine List.map_congr_left (fun p hp => ?_)
    have h1 := hS.kid_lt he hp
    obtain ⟨p1, p2, p3⟩ := (hS.kid he).mp hp
    exact ih p p1 (by omega) (by rw [p2]; decide)
def rts (qs : Nat → List Nat) (bs : List Nat) : List Nat := qs 0 ++ qs 1 ++ qs 2 ++ qs 3 ++ qs 4 ++ qs 5 ++ bs
theorem Str.root (hS : Str s o qs ps bs) {e : Nat} : e ∈ rts qs bs ↔ e < 80 ∧ 0 < eF s e 4 ∧ eF s e 2 = nI 0 := by
  have hq : ∀ h, h < 6 → (e ∈ qs h ↔ e < 80 ∧ eF s e 4 = nI (h + 1) ∧ eF s e 2 = nI 0) := fun h hh => (hS.2.2.2.1 h hh).1 e
  have hb := hS.2.2.2.2.2.2 e
  unfold rts
  simp only [List.mem_append]
  rw [hq 0 (by omega), hq 1 (by omega), hq 2 (by omega), hq 3 (by omega), hq 4 (by omega), hq 5 (by omega), hb]
  constructor
  · intro h
    rcases h with (((((h | h) | h) | h) | h) | h) | h
    · exact ⟨h.1, by rw [h.2.1]; decide, h.2.2⟩
    · exact ⟨h.1, by rw [h.2.1]; decide, h.2.2⟩
    · exact ⟨h.1, by rw [h.2.1]; decide, h.2.2⟩
    · exact ⟨h.1, by rw [h.2.1]; decide, h.2.2⟩
    · exact ⟨h.1, by rw [h.2.1]; decide, h.2.2⟩
    · exact ⟨h.1, by rw [h.2.1]; decide, h.2.2⟩
    · refine ⟨h.1, by rw [h.2]; decide, ?_⟩
      rcases hS.up h.1 (by rw [h.2]; decide) with q | q
      · exact q.1
      · rw [h.2] at q
        exact absurd q.1 (by decide)
  · rintro ⟨h1, h2, h3⟩
    rcases hS.up h1 h2 with ⟨-, w, w1, w2, w3⟩ | ⟨-, u, hu, h4, -⟩
    · rcases (show w = 1 ∨ w = 2 ∨ w = 3 ∨ w = 4 ∨ w = 5 ∨ w = 6 ∨ w = 7 by omega) with e | e | e | e | e | e | e <;> subst e
      · exact Or.inl (Or.inl (Or.inl (Or.inl (Or.inl (Or.inl ⟨h1, w3, h3⟩)))))
      · exact Or.inl (Or.inl (Or.inl (Or.inl (Or.inl (Or.inr ⟨h1, w3, h3⟩)))))
      · exact Or.inl (Or.inl (Or.inl (Or.inl (Or.inr ⟨h1, w3, h3⟩))))
      · exact Or.inl (Or.inl (Or.inl (Or.inr ⟨h1, w3, h3⟩)))
      · exact Or.inl (Or.inl (Or.inr ⟨h1, w3, h3⟩))
      · exact Or.inl (Or.inr ⟨h1, w3, h3⟩)
      · exact Or.inr ⟨h1, w3⟩
    · rw [h3] at h4
      have := (nI_eq (by omega) (by omega)).mp h4
      omega
theorem Str.rnodup (hS : Str s o qs ps bs) : (rts qs bs).Nodup := by
  have hq : ∀ h, h < 6 → ∀ e, e ∈ qs h → eF s e 4 = nI (h + 1) := fun h hh e he => ((hS.2.2.2.1 h hh).1 e).mp he |>.2.1
  have hb : ∀ e, e ∈ bs → eF s e 4 = nI 7 := fun e he => ((hS.2.2.2.2.2.2 e).mp he).2
  have hn : ∀ h, h < 6 → (qs h).Nodup := fun h hh => (hS.2.2.2.1 h hh).nodup
  have dj : ∀ {a b : Nat} {L L' : List Nat}, a < 9 → b < 9 → a ≠ b → (∀ e, e ∈ L → eF s e 4 = nI a) → (∀ e, e ∈ L' → eF s e 4 = nI b) → ∀ x, x ∈ L → ∀ y, y ∈ L' → x ≠ y := by
    intro a b L L' ha hb hab h1 h2 x hx y hy e
    subst e
    exact hab ((nI_eq (by omega) (by omega)).mp ((h1 x hx).symm.trans (h2 x hy)))
  have app : ∀ {L L' : List Nat} {b : Nat}, L.Nodup → L'.Nodup → b < 9 → (∀ e, e ∈ L → ∃ a, a < b ∧ eF s e 4 = nI a) → (∀ e, e ∈ L' → eF s e 4 = nI b) → (L ++ L').Nodup ∧ ∀ e, e ∈ L ++ L' → ∃ a, a < b + 1 ∧ eF s e 4 = nI a := by
    intro L L' b n1 n2 hb9 h1 h2
    refine ⟨List.nodup_append.mpr ⟨n1, n2, fun x hx y hy e => ?_⟩, fun e he => ?_⟩
    · subst e
      obtain ⟨a, a1, a2⟩ := h1 x hx
      have := (nI_eq (by omega) (by omega)).mp (a2.symm.trans (h2 x hy))
      omega
    · rcases List.mem_append.mp he with q | q
      · obtain ⟨a, a1, a2⟩ := h1 e q
        exact ⟨a, by omega, a2⟩
      · exact ⟨b, by omega, h2 e q⟩
  have s0 : ∀ e, e ∈ qs 0 → ∃ a, a < 2 ∧ eF s e 4 = nI a := fun e he => ⟨1, by omega, hq 0 (by omega) e he⟩
  obtain ⟨a1, b1⟩ := app (hn 0 (by omega)) (hn 1 (by omega)) (by omega) s0 (hq 1 (by omega))
  obtain ⟨a2, b2⟩ := app a1 (hn 2 (by omega)) (by omega) b1 (hq 2 (by omega))
  obtain ⟨a3, b3⟩ := app a2 (hn 3 (by omega)) (by omega) b2 (hq 3 (by omega))
  obtain ⟨a4, b4⟩ := app a3 (hn 4 (by omega)) (by omega) b3 (hq 4 (by omega))
  obtain ⟨a5, b5⟩ := app a4 (hn 5 (by omega)) (by omega) b4 (hq 5 (by omega))
  obtain ⟨a6, b6⟩ := app a5 hS.2.2.2.2.2.1 (by omega) b5 hb
  exact a6
theorem Str.rpoint (hS : Str s o qs ps bs) (x : Nat) : x < 80 → 0 < eF s x 4 → ((rts qs bs).map (fun p => b2n (wth s p (x + 1)))).sum = 1 := by
  have hU := hS.2.1
  induction x using Nat.strongRecOn with
  | ind x ih =>
    intro hx ha
    rcases hS.up hx ha with ⟨h2, -⟩ | ⟨h8, u, hu, h2, hau⟩
    · refine sum_eq1 (x := x) hS.rnodup (hS.root.mpr ⟨hx, ha, h2⟩) (by rw [wth_s hU hx h2 (Nat.zero_le _), if_pos rfl]; rfl) (fun k hk hne => ?_)
      rw [wth_s hU hx h2 (Nat.zero_le _), if_neg (Ne.symm hne)]
      rfl
    · refine Eq.trans ?_ (ih u hu (by omega) hau)
      congr 1
      refine List.map_congr_left (fun p hp => ?_)
      rw [wth_s hU hx h2 (by omega), if_neg (fun q => by
        have := (hS.root.mp hp).2.2
        rw [← q, h2] at this
        have := (nI_eq (by omega) (by omega)).mp this
        omega)]
theorem Str.all (hS : Str s o qs ps bs) : cntF (aliP s) 80 = ((rts qs bs).map (fun p => cntF (subP s p) 80)).sum := by
  have h := cnt_point (p := aliP s) (q := fun _ => false) (g := fun p x => subP s p x) (L := rts qs bs) 80 (fun x hx => by
    unfold subP
    by_cases hax : aliP s x = true
    · rw [hax]
      simp only [Bool.true_and]
      rw [hS.rpoint x hx (of_decide_eq_true hax)]
      rfl
    · rw [Bool.eq_false_iff.mpr hax, sum_0 (fun _ _ => by rw [Bool.false_and]; rfl)]
      rfl)
  rw [h, cnt_list (p := fun _ => false) (L := []) List.nodup_nil (fun e => by simp)]
  exact Nat.zero_add _
end TREE
