/-! A FOREST OUT OF DEPTHS: roots, parts, how many within, the latest of each depth; nodes are numbered as they come -/
abbrev FB : Type := List Nat × (Nat → List Nat) × (Nat → Nat) × (Nat → Nat)
def fb0 : FB := ([], fun _ => [], fun _ => 0, fun _ => 0)
def isAnc (f : FB) (d q : Nat) : Bool := (List.range d).any (fun e => decide (f.2.2.2 e = q))
def addN (f : FB) (c d : Nat) : FB :=
  (if d = 0 then f.1 ++ [c] else f.1,
   fun q => if q = c then [] else if d ≠ 0 ∧ q = f.2.2.2 (d - 1) then f.2.1 q ++ [c] else f.2.1 q,
   fun q => if q = c then 1 else if isAnc f d q = true then f.2.2.1 q + 1 else f.2.2.1 q,
   up1 f.2.2.2 d c)
def fbS (p : FB × Nat) (d : Nat) : FB × Nat := (addN p.1 p.2 d, p.2 + 1)
def fbOf (D : List Nat) : FB := (D.foldl fbS (fb0, 0)).1
theorem fb_cnt (D : List Nat) (p : FB × Nat) : (D.foldl fbS p).2 = p.2 + D.length := by
  induction D generalizing p with
  | nil => rfl
  | cons d t ih => simp only [List.foldl_cons, List.length_cons]; rw [ih]; show p.2 + 1 + t.length = _; omega
theorem fb_snoc (D : List Nat) (d : Nat) : fbOf (D ++ [d]) = addN (fbOf D) D.length d := by
  unfold fbOf
  rw [List.foldl_append]
  show addN (D.foldl fbS (fb0, 0)).1 (D.foldl fbS (fb0, 0)).2 d = _
  rw [fb_cnt, Nat.zero_add]
theorem isAnc_iff {f : FB} {d q : Nat} : isAnc f d q = true ↔ ∃ e, e < d ∧ f.2.2.2 e = q := by
  unfold isAnc
  rw [List.any_eq_true]
  constructor
  · rintro ⟨e, he, h⟩
    exact ⟨e, List.mem_range.mp he, of_decide_eq_true h⟩
  · rintro ⟨e, he, h⟩
    exact ⟨e, List.mem_range.mpr he, decide_eq_true h⟩
def asc (l : List Nat) : Prop := l.Pairwise (fun a b => a < b)
/-- c nodes; levels below m are open or just closed -/
def FI (f : FB) (c m : Nat) : Prop :=
  (∀ e, e < m → f.2.2.2 e < c) ∧ (∀ e, e + 1 < m → f.2.2.2 (e + 1) ∈ f.2.1 (f.2.2.2 e)) ∧ (∀ q k, k ∈ f.2.1 q → q < k ∧ k < c) ∧ (∀ q p k, k ∈ f.2.1 q → k ∈ f.2.1 p → q = p) ∧ (∀ q, asc (f.2.1 q)) ∧
  (∀ q, q < c → f.2.2.1 q = 1 + ((f.2.1 q).map f.2.2.1).sum) ∧ (∀ q, q < c → 1 ≤ f.2.2.1 q ∧ q + f.2.2.1 q ≤ c) ∧ (∀ k, k ∈ f.1 → k < c) ∧ asc f.1 ∧ (∀ q k, k ∈ f.2.1 q → k ∉ f.1) ∧ (f.1.map f.2.2.1).sum = c ∧ (0 < m → f.2.2.2 0 ∈ f.1) ∧ m ≤ c
theorem fi_0 : FI fb0 0 0 := by
  refine ⟨fun e h => by omega, fun e h => by omega, fun q k h => by simp [fb0] at h, fun q p k h => by simp [fb0] at h, fun q => List.Pairwise.nil, fun q h => by omega, fun q h => by omega, fun k h => by simp [fb0] at h, List.Pairwise.nil, fun q k h => by simp [fb0] at h, rfl, fun h => by omega, Nat.le_refl _⟩
theorem sum_same {l : List Nat} {g g' : Nat → Nat} (h : ∀ k, k ∈ l → g' k = g k) : (l.map g').sum = (l.map g).sum := by
  rw [List.map_congr_left h]
theorem sum_one {l : List Nat} {g g' : Nat → Nat} {x : Nat} (hl : asc l) (hx : x ∈ l) (h1 : g' x = g x + 1) (h : ∀ k, k ∈ l → k ≠ x → g' k = g k) : (l.map g').sum = (l.map g).sum + 1 := by
  induction l with
  | nil => cases hx
  | cons a t ih =>
    obtain ⟨ha, ht⟩ := List.pairwise_cons.mp hl
    simp only [List.map_cons, List.sum_cons]
    by_cases e : a = x
    · subst e
      rw [h1, sum_same (fun k hk => h k (List.mem_cons_of_mem _ hk) (fun q => by have := ha k hk; omega))]
      omega
    · rw [h a List.mem_cons_self e]
      rcases List.mem_cons.mp hx with q | q
      · exact absurd q.symm e
      · rw [ih ht q (fun k hk hne => h k (List.mem_cons_of_mem _ hk) hne)]
        omega
theorem asc_snoc {l : List Nat} {c : Nat} (h : asc l) (hc : ∀ k, k ∈ l → k < c) : asc (l ++ [c]) := by
  unfold asc
  rw [List.pairwise_append]
  exact ⟨h, List.pairwise_singleton _ _, fun a ha b hb => by rw [List.mem_singleton.mp hb]; exact hc a ha⟩
theorem FI.lat_lt {f : FB} {c m : Nat} (h : FI f c m) : ∀ (k e : Nat), e + k + 1 < m + 0 → f.2.2.2 e < f.2.2.2 (e + k + 1) := by
  intro k
  induction k with
  | zero => intro e he; exact (h.2.2.1 _ _ (h.2.1 e (by omega))).1
  | succ k ih =>
    intro e he
    have h1 := ih e (by omega)
    have h2 := (h.2.2.1 _ _ (h.2.1 (e + k + 1) (by omega))).1
    show _ < f.2.2.2 (e + k + 1 + 1)
    omega
theorem FI.lat_lt' {f : FB} {c m : Nat} (h : FI f c m) {e g : Nat} (h1 : e < g) (h2 : g < m) : f.2.2.2 e < f.2.2.2 g := by
  have := h.lat_lt (g - e - 1) e (by omega)
  rw [show e + (g - e - 1) + 1 = g by omega] at this
  exact this
theorem FI.lat_inj {f : FB} {c m : Nat} (h : FI f c m) {e g : Nat} (h1 : e < m) (h2 : g < m) (he : f.2.2.2 e = f.2.2.2 g) : e = g := by
  rcases Nat.lt_trichotomy e g with q | q | q
  · have := h.lat_lt' q h2; omega
  · exact q
  · have := h.lat_lt' q h1; omega
/-- an ancestor among the parts of q: q's own next level -/
theorem FI.anc_kid {f : FB} {c m : Nat} (h : FI f c m) {e q : Nat} (he : e < m) (hk : f.2.2.2 e ∈ f.2.1 q) : ∃ g, e = g + 1 ∧ q = f.2.2.2 g := by
  cases e with
  | zero => exact absurd (h.2.2.2.2.2.2.2.2.2.2.2.1 (by omega)) (h.2.2.2.2.2.2.2.2.2.1 q _ hk)
  | succ g => exact ⟨g, rfl, h.2.2.2.1 q _ _ hk (h.2.1 g (by omega))⟩
theorem FI.add {f : FB} {c m d : Nat} (h : FI f c m) (hd : d ≤ m) : FI (addN f c d) (c + 1) (d + 1) := by
  have H := h
  obtain ⟨i1, i2, i3, i4, i5, i6, i7, i8, i9, i10, i11, i12, i13⟩ := h
  have hlat : ∀ e, e < d → f.2.2.2 e < c := fun e he => i1 e (by omega)
  have hs : ∀ q, q ≠ c → (addN f c d).2.2.1 q = if isAnc f d q = true then f.2.2.1 q + 1 else f.2.2.1 q := fun q hq => if_neg hq
  have hsc : (addN f c d).2.2.1 c = 1 := if_pos rfl
  have hk : ∀ q, q ≠ c → (addN f c d).2.1 q = if d ≠ 0 ∧ q = f.2.2.2 (d - 1) then f.2.1 q ++ [c] else f.2.1 q := fun q hq => if_neg hq
  have hkc : (addN f c d).2.1 c = [] := if_pos rfl
  have hin : ∀ q k, k ∈ (addN f c d).2.1 q → q ≠ c ∧ ((k = c ∧ d ≠ 0 ∧ q = f.2.2.2 (d - 1)) ∨ (k ∈ f.2.1 q)) := by
    intro q k hkq
    by_cases e : q = c
    · subst e; rw [hkc] at hkq; cases hkq
    · refine ⟨e, ?_⟩
      rw [hk q e] at hkq
      split at hkq
      · rename_i hh
        rcases List.mem_append.mp hkq with a | a
        · exact Or.inr a
        · exact Or.inl ⟨List.mem_singleton.mp a, hh⟩
      · exact Or.inr hkq
  have hsub : ∀ q k, k ∈ f.2.1 q → k ∈ (addN f c d).2.1 q := by
    intro q k hkq
    have hqc : q ≠ c := by have := i3 q k hkq; omega
    rw [hk q hqc]
    split
    · exact List.mem_append_left _ hkq
    · exact hkq
  have hl : ∀ e, e ≠ d → (addN f c d).2.2.2 e = f.2.2.2 e := fun e he => up1_n he
  have hld : (addN f c d).2.2.2 d = c := up1_s
  have hroot : ∀ k, k ∈ (addN f c d).1 ↔ k ∈ f.1 ∨ (d = 0 ∧ k = c) := by
    intro k
    show k ∈ (if d = 0 then f.1 ++ [c] else f.1) ↔ _
    by_cases e : d = 0
    · rw [if_pos e, List.mem_append, List.mem_singleton]
      constructor
      · rintro (q | q)
        · exact Or.inl q
        · exact Or.inr ⟨e, q⟩
      · rintro (q | q)
        · exact Or.inl q
        · exact Or.inr q.2
    · rw [if_neg e]
      constructor
      · exact Or.inl
      · rintro (q | q)
        · exact q
        · exact absurd q.1 e
  refine ⟨fun e he => ?_, fun e he => ?_, fun q k hkq => ?_, fun q p k h1 h2 => ?_, fun q => ?_, fun q hq => ?_, fun q hq => ?_, fun k hkr => ?_, ?_, fun q k hkq => ?_, ?_, fun _ => ?_, by omega⟩
  · by_cases e1 : e = d
    · subst e1; rw [hld]; omega
    · rw [hl e e1]; have := i1 e (by omega); omega
  · by_cases e1 : e + 1 = d
    · rw [e1, hld, hl e (by omega), hk _ (by have := hlat e (by omega); omega), if_pos ⟨by omega, by rw [← e1, Nat.add_sub_cancel]⟩]
      exact List.mem_append_right _ List.mem_cons_self
    · rw [hl _ e1, hl e (by omega)]
      exact hsub _ _ (i2 e (by omega))
  · obtain ⟨hqc, h1 | h1⟩ := hin q k hkq
    · obtain ⟨rfl, hd0, rfl⟩ := h1
      have := hlat (d - 1) (by omega)
      omega
    · have := i3 q k h1; omega
  · obtain ⟨hqc, a | a⟩ := hin q k h1 <;> obtain ⟨hpc, b | b⟩ := hin p k h2
    · rw [a.2.2, b.2.2]
    · have := i3 p k b; omega
    · have := i3 q k a; omega
    · exact i4 q p k a b
  · by_cases e : q = c
    · subst e; rw [hkc]; exact List.Pairwise.nil
    · rw [hk q e]
      split
      · exact asc_snoc (i5 q) (fun k hkq => (i3 q k hkq).2)
      · exact i5 q
  · by_cases e : q = c
    · subst e; rw [hsc, hkc]; rfl
    · have hqc : q < c := by omega
      rw [hs q e, hk q e]
      by_cases ha : isAnc f d q = true
      · rw [if_pos ha]
        obtain ⟨g, hg, hgq⟩ := isAnc_iff.mp ha
        by_cases hlast : g = d - 1
        · rw [if_pos ⟨by omega, by rw [← hgq, hlast]⟩, List.map_append, List.sum_append]
          have hsame : ((f.2.1 q).map (addN f c d).2.2.1).sum = ((f.2.1 q).map f.2.2.1).sum := by
            refine sum_same (fun k hkq => ?_)
            have hk3 := i3 q k hkq
            rw [hs k (by omega), if_neg]
            intro hka
            obtain ⟨e2, he2, he3⟩ := isAnc_iff.mp hka
            rw [← he3] at hkq
            obtain ⟨g2, hg2, hg3⟩ := H.anc_kid (by omega) hkq
            have := H.lat_inj (e := g) (g := g2) (by omega) (by omega) (hgq.trans hg3)
            omega
          rw [hsame, List.map_singleton, List.sum_singleton, hsc, i6 q hqc]
          omega
        · rw [if_neg (fun hh => hlast (H.lat_inj (by omega) (by omega) (hgq.trans hh.2)))]
          have hx := i2 g (by omega)
          rw [hgq] at hx
          have hone := sum_one (g := f.2.2.1) (g' := (addN f c d).2.2.1) (i5 q) hx ?_ ?_
          · rw [hone, i6 q hqc]; omega
          · have := i1 (g + 1) (by omega)
            rw [hs _ (by omega), if_pos (isAnc_iff.mpr ⟨g + 1, by omega, rfl⟩)]
          · intro k hkq hne
            have hk3 := i3 q k hkq
            rw [hs k (by omega), if_neg]
            intro hka
            obtain ⟨e2, he2, he3⟩ := isAnc_iff.mp hka
            rw [← he3] at hkq
            obtain ⟨g2, hg2, hg3⟩ := H.anc_kid (by omega) hkq
            have := H.lat_inj (e := g) (g := g2) (by omega) (by omega) (hgq.trans hg3)
            subst this
            exact hne (by rw [← he3, hg2])
      · rw [if_neg ha, if_neg (fun hh => ha (isAnc_iff.mpr ⟨d - 1, by omega, hh.2.symm⟩)), i6 q hqc]
        congr 1
        refine (sum_same (fun k hkq => ?_)).symm
        have hk3 := i3 q k hkq
        rw [hs k (by omega), if_neg]
        intro hka
        obtain ⟨e2, he2, he3⟩ := isAnc_iff.mp hka
        rw [← he3] at hkq
        obtain ⟨g2, hg2, hg3⟩ := H.anc_kid (by omega) hkq
        exact ha (isAnc_iff.mpr ⟨g2, by omega, hg3.symm⟩)
  · by_cases e : q = c
    · subst e; rw [hsc]; omega
    · rw [hs q e]
      have := i7 q (by omega)
      split <;> omega
  · rcases (hroot k).mp hkr with q | q
    · have := i8 k q; omega
    · omega
  · show asc (if d = 0 then f.1 ++ [c] else f.1)
    split
    · exact asc_snoc i9 i8
    · exact i9
  · intro hkr
    obtain ⟨hqc, h1 | h1⟩ := hin q k hkq
    · obtain ⟨rfl, hd0, rfl⟩ := h1
      rcases (hroot k).mp hkr with a | a
      · have := i8 k a; omega
      · exact hd0 a.1
    · rcases (hroot k).mp hkr with a | a
      · exact i10 q k h1 a
      · have := i3 q k h1; omega
  · show ((if d = 0 then f.1 ++ [c] else f.1).map (addN f c d).2.2.1).sum = c + 1
    by_cases e : d = 0
    · rw [if_pos e, List.map_append, List.sum_append, List.map_singleton, List.sum_singleton, hsc]
      have hsame : (f.1.map (addN f c d).2.2.1).sum = (f.1.map f.2.2.1).sum := by
        refine sum_same (fun k hkr => ?_)
        have := i8 k hkr
        rw [hs k (by omega), if_neg]
        intro hka
        obtain ⟨e2, he2, -⟩ := isAnc_iff.mp hka
        omega
      rw [hsame, i11]
    · rw [if_neg e]
      have hone := sum_one (g := f.2.2.1) (g' := (addN f c d).2.2.1) i9 (i12 (by omega)) ?_ ?_
      · rw [hone, i11]
      · have := i1 0 (by omega)
        rw [hs _ (by omega), if_pos (isAnc_iff.mpr ⟨0, by omega, rfl⟩)]
      · intro k hkr hne
        have := i8 k hkr
        rw [hs k (by omega), if_neg]
        intro hka
        obtain ⟨e2, he2, he3⟩ := isAnc_iff.mp hka
        cases e2 with
        | zero => exact hne he3.symm
        | succ g2 => exact i10 _ _ (i2 g2 (by omega)) (by rw [he3]; exact hkr)
  · by_cases e : d = 0
    · subst e; rw [hld]; exact (hroot c).mpr (Or.inr ⟨rfl, rfl⟩)
    · rw [hl 0 (by omega)]; exact (hroot _).mpr (Or.inl (i12 (by omega)))
