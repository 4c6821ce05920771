/-! the messages in the order of their sending and in that of their arrival -/
theorem ins_front {x : Mg} {l : List Mg} (h : ∀ y ∈ l, ¬ y.1 4 ≤ x.1 4) : ins x l = x :: l := by
  have hp : insPos (lA l) (x.1 4) l.length = 0 := by
    obtain ⟨p1, -, p3⟩ := insPos_spec (lA l) (x.1 4) l.length
    rcases p3 with e | e
    · exact e
    · by_cases h0 : insPos (lA l) (x.1 4) l.length = 0
      · exact h0
      · exfalso
        have hlt : insPos (lA l) (x.1 4) l.length - 1 < l.length := by omega
        have hg : l[insPos (lA l) (x.1 4) l.length - 1]? = some l[insPos (lA l) (x.1 4) l.length - 1] := List.getElem?_eq_getElem hlt
        rw [lA_some hg] at e
        exact h _ (List.getElem_mem hlt) e
  unfold ins
  rw [hp]
  rfl
theorem ins_le {x : Mg} {A B : List Mg} (h : ∀ y ∈ A, y.1 4 ≤ x.1 4) : ins x (A ++ B) = A ++ ins x B := by
  induction A with
  | nil => rfl
  | cons z t ih =>
    show ins x (z :: (t ++ B)) = z :: (t ++ ins x B)
    rw [ins_cons (h z List.mem_cons_self), ih (fun y hy => h y (List.mem_cons_of_mem _ hy))]
theorem ins_gt {x : Mg} {A B : List Mg} (hA : srt A) (h : ∀ y ∈ B, ¬ y.1 4 ≤ x.1 4) : ins x (A ++ B) = ins x A ++ B := by
  induction A with
  | nil =>
    show ins x B = ins x [] ++ B
    rw [ins_front h]
    rfl
  | cons z t ih =>
    obtain ⟨h1, h2⟩ := List.pairwise_cons.mp hA
    by_cases hz : z.1 4 ≤ x.1 4
    · show ins x (z :: (t ++ B)) = _
      rw [ins_cons hz, ins_cons hz, ih h2]
      rfl
    · have hall : ∀ y ∈ z :: t, ¬ y.1 4 ≤ x.1 4 := fun y hy => by
        rcases List.mem_cons.mp hy with e | e
        · rw [e]; exact hz
        · exact fun q => hz (Int32.le_trans (h1 y e) q)
      rw [ins_front hall, ins_front (fun y hy => by
        rcases List.mem_append.mp hy with e | e
        · exact hall y e
        · exact h y e)]
      rfl
def isort (l : List Mg) : List Mg := l.foldl (fun acc x => ins x acc) []
theorem isort_snoc (l : List Mg) (x : Mg) : isort (l ++ [x]) = ins x (isort l) := by
  unfold isort
  rw [List.foldl_append]
  rfl
theorem snoc_ind {α : Type} {P : List α → Prop} (h0 : P []) (h1 : ∀ l x, P l → P (l ++ [x])) (l : List α) : P l := by
  have : ∀ n, ∀ l : List α, l.length = n → P l := by
    intro n
    induction n with
    | zero => intro l hl; rw [List.length_eq_zero_iff.mp hl]; exact h0
    | succ n ih =>
      intro l hl
      have hne : l ≠ [] := fun q => by rw [q] at hl; cases hl
      rw [← List.dropLast_concat_getLast hne]
      exact h1 _ _ (ih _ (by rw [List.length_dropLast]; omega))
  exact this _ l rfl
theorem isort_srt (l : List Mg) : srt (isort l) := by
  induction l using snoc_ind with
  | h0 => exact List.Pairwise.nil
  | h1 l x ih => rw [isort_snoc]; exact ins_srt ih
theorem isort_perm (l : List Mg) : List.Perm (isort l) l := by
  induction l using snoc_ind with
  | h0 => exact List.Perm.refl _
  | h1 l x ih =>
    rw [isort_snoc]
    exact (ins_perm x _).trans ((List.Perm.cons x ih).trans (List.perm_append_comm (l₁ := [x])))
/-- where a new one goes -/
theorem ins_at {y : Mg} {L : List Mg} (h : srt L) : ∃ A B, L = A ++ B ∧ (∀ z ∈ A, z.1 4 ≤ y.1 4) ∧ (∀ z ∈ B, ¬ z.1 4 ≤ y.1 4) ∧ ins y L = A ++ y :: B ∧ A.length = L.countP (fun z => decide (z.1 4 ≤ y.1 4)) := by
  induction L with
  | nil => exact ⟨[], [], rfl, (fun z hz => by cases hz), (fun z hz => by cases hz), rfl, rfl⟩
  | cons z t ih =>
    obtain ⟨h1, h2⟩ := List.pairwise_cons.mp h
    by_cases hz : z.1 4 ≤ y.1 4
    · obtain ⟨A, B, e, a1, a2, a3, a4⟩ := ih h2
      refine ⟨z :: A, B, by rw [e]; rfl, fun w hw => ?_, a2, by rw [ins_cons hz, a3]; rfl, by rw [List.countP_cons, if_pos (decide_eq_true hz), List.length_cons, a4]⟩
      rcases List.mem_cons.mp hw with q | q
      · rw [q]; exact hz
      · exact a1 w q
    · have hall : ∀ w ∈ z :: t, ¬ w.1 4 ≤ y.1 4 := fun w hw => by
        rcases List.mem_cons.mp hw with e | e
        · rw [e]; exact hz
        · exact fun q => hz (Int32.le_trans (h1 w e) q)
      refine ⟨[], z :: t, rfl, (fun w hw => by cases hw), hall, ins_front hall, ?_⟩
      rw [List.length_nil, eq_comm, List.countP_eq_zero]
      exact fun w hw q => hall w hw (of_decide_eq_true q)
theorem cnt_congr {p q : Nat → Bool} (c : Nat) : (∀ k, k < c → p k = q k) → cntF p c = cntF q c := by
  induction c with
  | zero => intro _; rfl
  | succ c ih =>
    intro h
    show cntF p c + _ = cntF q c + _
    rw [ih (fun k hk => h k (by omega)), h c (by omega)]
theorem lA_l {l : List Mg} {y : Mg} {k : Nat} (h : k < l.length) : lA (l ++ [y]) k = lA l k := by
  unfold lA
  rw [List.getElem?_append_left h]
theorem lA_r {l : List Mg} {y : Mg} : lA (l ++ [y]) l.length = y.1 4 := by
  unfold lA
  rw [List.getElem?_append_right (Nat.le_refl _), Nat.sub_self]
  rfl
theorem cnt_lA {P : Int32 → Bool} (l : List Mg) : cntF (fun k => P (lA l k)) l.length = l.countP (fun z => P (z.1 4)) := by
  induction l using snoc_ind with
  | h0 => rfl
  | h1 l x ih =>
    rw [List.length_append, List.countP_append, ← ih]
    show cntF _ l.length + (if P (lA (l ++ [x]) l.length) = true then 1 else 0) = _
    rw [lA_r, cnt_congr l.length (fun k hk => by rw [lA_l hk]), List.countP_cons]
    show _ = _ + (0 + _)
    omega
/-- how many arrive ahead of one -/
def rkQ (l : List Mg) (m k : Nat) : Bool := decide (lA l k < lA l m ∨ (lA l k = lA l m ∧ k < m))
def rkL (l : List Mg) (m : Nat) : Nat := cntF (rkQ l m) l.length
theorem rkL_last {l : List Mg} {y : Mg} : rkL (l ++ [y]) l.length = (isort l).countP (fun z => decide (z.1 4 ≤ y.1 4)) := by
  rw [(isort_perm l).countP_eq, ← cnt_lA (P := fun a => decide (a ≤ y.1 4))]
  unfold rkL
  rw [List.length_append]
  show cntF _ l.length + (if rkQ (l ++ [y]) l.length l.length = true then 1 else 0) = _
  rw [if_neg (fun q => by
    unfold rkQ at q
    rcases of_decide_eq_true q with q | q
    · exact Int32.lt_irrefl q
    · omega), Nat.add_zero]
  refine cnt_congr _ (fun k hk => ?_)
  unfold rkQ
  rw [lA_l hk, lA_r]
  by_cases h1 : lA l k ≤ y.1 4
  · rw [decide_eq_true h1]
    refine decide_eq_true ?_
    rcases Int32.lt_or_eq_of_le h1 with q | q
    · exact Or.inl q
    · exact Or.inr ⟨q, hk⟩
  · rw [decide_eq_false h1]
    refine decide_eq_false (fun q => ?_)
    rcases q with q | q
    · exact h1 (Int32.le_of_lt q)
    · exact h1 (by rw [q.1]; exact Int32.le_refl _)
theorem rkL_old {l : List Mg} {y : Mg} {m : Nat} (hm : m < l.length) : rkL (l ++ [y]) m = rkL l m + if y.1 4 < lA l m then 1 else 0 := by
  unfold rkL
  rw [List.length_append]
  show cntF _ l.length + (if rkQ (l ++ [y]) m l.length = true then 1 else 0) = _
  have e : (rkQ (l ++ [y]) m l.length = true) ↔ y.1 4 < lA l m := by
    unfold rkQ
    rw [decide_eq_true_iff, lA_r, lA_l hm]
    constructor
    · rintro (q | q)
      · exact q
      · omega
    · exact fun q => Or.inl q
  rw [cnt_congr l.length (fun k hk => show rkQ (l ++ [y]) m k = rkQ l m k by unfold rkQ; rw [lA_l hk, lA_l hm])]
  by_cases h : y.1 4 < lA l m
  · rw [if_pos h, if_pos (e.mpr h)]
  · rw [if_neg h, if_neg (fun q => h (e.mp q))]
theorem isort_split (l : List Mg) : ∀ m x, l[m]? = some x → ∃ A B, isort l = A ++ x :: B ∧ isort (l.eraseIdx m) = A ++ B ∧ A.length = rkL l m ∧ (∀ z ∈ A, z.1 4 ≤ x.1 4) ∧ (∀ z ∈ B, x.1 4 ≤ z.1 4) := by
  induction l using snoc_ind with
  | h0 => intro m x h; cases h
  | h1 l y ih =>
    intro m x h
    by_cases hm : m < l.length
    · rw [List.getElem?_append_left hm] at h
      obtain ⟨A, B, a1, a2, a3, a4, a5⟩ := ih m x h
      rw [isort_snoc, List.eraseIdx_append_of_lt_length hm, isort_snoc, a1, a2, rkL_old hm, lA_some h]
      have hs : srt (A ++ x :: B) := by rw [← a1]; exact isort_srt l
      by_cases hy : y.1 4 < x.1 4
      · have hA : srt A := (List.pairwise_append.mp hs).1
        refine ⟨ins y A, B, ?_, ?_, ?_, fun z hz => ?_, a5⟩
        · refine ins_gt hA (fun z hz => ?_)
          rcases List.mem_cons.mp hz with e | e
          · rw [e]; exact Int32.not_le.mpr hy
          · exact fun q => absurd (Int32.lt_of_le_of_lt (Int32.le_trans (a5 z e) q) hy) Int32.lt_irrefl
        · exact ins_gt hA (fun z hz q => absurd (Int32.lt_of_le_of_lt (Int32.le_trans (a5 z hz) q) hy) Int32.lt_irrefl)
        · rw [(ins_perm y A).length_eq, List.length_cons, a3, if_pos hy]
        · rcases List.mem_cons.mp ((ins_perm y A).mem_iff.mp hz) with e | e
          · rw [e]; exact Int32.le_of_lt hy
          · exact a4 z e
      · have hy' : x.1 4 ≤ y.1 4 := Int32.not_lt.mp hy
        have hA : ∀ z ∈ A, z.1 4 ≤ y.1 4 := fun z hz => Int32.le_trans (a4 z hz) hy'
        refine ⟨A, ins y B, ?_, ins_le hA, by rw [a3, if_neg hy]; rfl, a4, fun z hz => ?_⟩
        · rw [ins_le hA, ins_cons hy']
        · rcases List.mem_cons.mp ((ins_perm y B).mem_iff.mp hz) with e | e
          · rw [e]; exact hy'
          · exact a5 z e
    · have hml : m = l.length := by
        have := (List.getElem?_eq_some_iff.mp h).1
        rw [List.length_append] at this
        have : [y].length = 1 := rfl
        omega
      subst hml
      rw [List.getElem?_append_right (Nat.le_refl _), Nat.sub_self] at h
      have h : y = x := Option.some.inj h
      subst h
      obtain ⟨A, B, b1, b2, b3, b4, b5⟩ := ins_at (y := y) (isort_srt l)
      refine ⟨A, B, by rw [isort_snoc]; exact b4, ?_, by rw [rkL_last]; exact b5, b2, fun z hz => Int32.le_of_lt (Int32.not_le.mp (b3 z hz))⟩
      rw [List.eraseIdx_append_of_length_le (Nat.le_refl _), Nat.sub_self]
      show isort (l ++ []) = _
      rw [List.append_nil]
      exact b1
theorem rkL_lt {l : List Mg} {m : Nat} (hm : m < l.length) : rkL l m < l.length := by
  obtain ⟨A, B, a1, -, a3, -⟩ := isort_split l m l[m] (List.getElem?_eq_getElem hm)
  have := (isort_perm l).length_eq
  rw [a1, List.length_append, List.length_cons] at this
  omega
theorem rkL_all (l : List Mg) : ∀ q, q < l.length → ∃ m, m < l.length ∧ rkL l m = q := by
  induction l using snoc_ind with
  | h0 => intro q h; cases h
  | h1 l y ih =>
    intro q hq
    rw [List.length_append] at hq
    have hq : q < l.length + 1 := hq
    obtain ⟨A, B, b1, b2, b3, b4, b5⟩ := ins_at (y := y) (isort_srt l)
    have hlen : (l ++ [y]).length = l.length + 1 := by rw [List.length_append]; rfl
    rw [hlen]
    have hAl : A.length ≤ l.length := by
      rw [← (isort_perm l).length_eq, b1, List.length_append]; omega
    rcases Nat.lt_trichotomy q A.length with hc | hc | hc
    · obtain ⟨m, m1, m2⟩ := ih q (by omega)
      refine ⟨m, by omega, ?_⟩
      obtain ⟨A', B', a1, -, a3, -⟩ := isort_split l m l[m] (List.getElem?_eq_getElem m1)
      have hg : (isort l)[q]? = some l[m] := by
        rw [a1, List.getElem?_append_right (by omega), a3, m2, Nat.sub_self]
        rfl
      rw [b1, List.getElem?_append_left hc] at hg
      have hle := b2 _ (List.mem_of_getElem? hg)
      rw [rkL_old m1, m2, lA_some (List.getElem?_eq_getElem m1), if_neg (Int32.not_lt.mpr hle)]
      rfl
    · refine ⟨l.length, by omega, ?_⟩
      rw [rkL_last, ← b5, hc]
    · obtain ⟨m, m1, m2⟩ := ih (q - 1) (by omega)
      refine ⟨m, by omega, ?_⟩
      obtain ⟨A', B', a1, -, a3, -⟩ := isort_split l m l[m] (List.getElem?_eq_getElem m1)
      have hg : (isort l)[q - 1]? = some l[m] := by
        rw [a1, List.getElem?_append_right (by omega), a3, m2, Nat.sub_self]
        rfl
      rw [b1, List.getElem?_append_right (by omega)] at hg
      have hle := b3 _ (List.mem_of_getElem? hg)
      rw [rkL_old m1, m2, lA_some (List.getElem?_eq_getElem m1), if_pos (Int32.not_le.mp hle)]
      omega
