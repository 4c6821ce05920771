/-! THE RELATION of the class's state and the reference's row. β: the errand of a slot; ml: the messages as they were sent, with what they bear -/
abbrev RM : Type := List (Mg × Nat)
def bsOf (ml : RM) : List Nat := ml.filterMap (fun y => if y.2 = 0 then none else some (y.2 - 1))
/-- the place of a number in the class -/
def zP (w : Nat) : Nat := match w with
  | 0 => 0
  | 1 => 7
  | 2 => 8
  | 3 => 9
  | 5 => 10
  | 6 => 11
  | 7 => 12
  | 8 => 1
  | 9 => 2
  | _ => 13
def ScR (m : MS) (s : Nat → Int32) : Prop := ∀ w, w < 12 → w ≠ 4 → w ≠ 10 → s w = m.1 (zP w)
def WaR (m : MS) (s : Nat → Int32) : Prop := (∀ a b, a < 6 → b < 6 → s (12 + 6 * a + b) = m.2.1 (a * 7 + b)) ∧ ∀ h, h < 6 → s (48 + h) = m.2.1 (h * 7 + 6) ∧ s (48 + h) = m.2.1 (6 * 7 + h)
/-- the place of a house's field in the class -/
def hP (w : Nat) : Nat := match w with
  | 0 => 0
  | 1 => 1
  | 2 => 2
  | 3 => 4
  | 4 => 6
  | 5 => 7
  | 6 => 8
  | 7 => 9
  | _ => 5
def HoR (m : MS) (s : Nat → Int32) : Prop := ∀ h, h < 6 → (∀ w, w < 9 → hF s h w = m.2.2.1 h (hP w)) ∧ m.2.2.1 h 3 = nI (m.2.2.2.1 h).length ∧ (m.2.2.1 h 0 = 0 ∨ m.2.2.1 h 0 = 1) ∧ (m.2.2.1 h 5 = 0 ∨ m.2.2.1 h 5 = 1) ∧ (m.2.2.1 h 4 = 0 ∨ m.2.2.1 h 4 = 1)
def MsL (s : Nat → Int32) (ml : RM) : Prop := s 4 = nI ml.length ∧ ml.length ≤ 144 ∧ ∀ j y, ml[j]? = some y → (∀ f, f < 5 → gF s j f = y.1.1 f) ∧ gF s j 5 = nI y.2
def MsB (β : Nat → Nat) (ml : RM) : Prop := ∀ y ∈ ml, (y.1.2 = none ∧ y.2 = 0) ∨ ∃ e, y.2 = e + 1 ∧ y.1.2 = some (β e)
def Lab (s : Nat → Int32) (E : EE) (Gd : Nat → Prop) (β : Nat → Nat) (ps : Nat → List Nat) (e0 : Nat) : Prop := ∀ e, e < 80 → e ≠ e0 → 0 < eF s e 4 → Gd (β e) ∧ eF s e 0 = nI (E.1 (β e)) ∧ eF s e 1 = E.2.1 (β e) ∧ (ps e).map β = E.2.2.2 (β e)
/-- bs: those on the road, one of them perhaps just taken out; e0: one that is just arriving, if there is one below 80 -/
def RelG (E : EE) (Gd : Nat → Prop) (β : Nat → Nat) (qs ps : Nat → List Nat) (ml : RM) (bs : List Nat) (e0 : Nat) (o : Nat) (m : MS) (s : Nat → Int32) : Prop :=
  ScR m s ∧ WaR m s ∧ HoR m s ∧ Str s o qs ps bs ∧ Lab s E Gd β ps e0 ∧ (∀ h, h < 6 → (qs h).map β = m.2.2.2.1 h) ∧ MsL s ml ∧ MsB β ml ∧ m.2.2.2.2 = isort (ml.map Prod.fst)
abbrev RelA (E : EE) (Gd : Nat → Prop) (β : Nat → Nat) (qs ps : Nat → List Nat) (ml : RM) (o : Nat) (m : MS) (s : Nat → Int32) : Prop := RelG E Gd β qs ps ml (bsOf ml) 80 o m s
/-- ml0: messages that are still the first ones -/
def RelS (E : EE) (Gd : Nat → Prop) (O : Nat) (ml0 : RM) (m : MS) (s : Nat → Int32) : Prop := ∃ β qs ps nw o, o ≤ O ∧ RelA E Gd β qs ps (ml0 ++ nw) o m s
theorem RelS.snoc {E : EE} {Gd : Nat → Prop} {β : Nat → Nat} {qs ps : Nat → List Nat} {ml ml0 nw : RM} {y : Mg × Nat} {o O : Nat} {m : MS} {s : Nat → Int32} (h : RelA E Gd β qs ps (ml ++ [y]) o m s) (hml : ml0 ++ nw = ml) (ho : o ≤ O) : RelS E Gd O ml0 m s := ⟨β, qs, ps, nw ++ [y], o, ho, by rw [← List.append_assoc, hml]; exact h⟩
theorem RelS.of {E : EE} {Gd : Nat → Prop} {β : Nat → Nat} {qs ps : Nat → List Nat} {ml : RM} {o O : Nat} {m : MS} {s : Nat → Int32} (h : RelA E Gd β qs ps ml o m s) (ho : o ≤ O) : RelS E Gd O ml m s := ⟨β, qs, ps, [], o, ho, by rw [List.append_nil]; exact h⟩
theorem RelG.len {E : EE} {Gd : Nat → Prop} {β : Nat → Nat} {qs ps : Nat → List Nat} {ml : RM} {bs : List Nat} {e0 o : Nat} {m : MS} {s : Nat → Int32} (h : RelG E Gd β qs ps ml bs e0 o m s) : m.2.2.2.2.length = ml.length := by
  rw [h.2.2.2.2.2.2.2.2, (isort_perm _).length_eq, List.length_map]
/-! what each part looks at -/
theorem ScR.congr {m m' : MS} {s s' : Nat → Int32} (h : ScR m s) (hs : ∀ k, k < 12 → k ≠ 4 → k ≠ 10 → s' k = s k) (hm : m'.1 = m.1) : ScR m' s' := fun w a b c => by
  rw [hs w a b c, hm]
  exact h w a b c
theorem WaR.congr {m m' : MS} {s s' : Nat → Int32} (h : WaR m s) (hs : ∀ k, 12 ≤ k → k < 54 → s' k = s k) (hm : m'.2.1 = m.2.1) : WaR m' s' := by
  refine ⟨fun a b ha hb => ?_, fun q hq => ?_⟩
  · rw [hs _ (by omega) (by omega), hm]; exact h.1 a b ha hb
  · rw [hs _ (by omega) (by omega), hm]; exact h.2 q hq
theorem HoR.congr {m m' : MS} {s s' : Nat → Int32} (h : HoR m s) (hs : ∀ k, 54 ≤ k → k < 108 → s' k = s k) (hm : m'.2.2.1 = m.2.2.1) (hq : m'.2.2.2.1 = m.2.2.2.1) : HoR m' s' := by
  intro q hq6
  obtain ⟨a, b, c, d⟩ := h q hq6
  rw [hm, hq]
  refine ⟨fun w hw => ?_, b, c, d⟩
  unfold hF
  rw [hs _ (by omega) (by omega)]
  exact a w hw
theorem MsL.congr {s s' : Nat → Int32} {ml : RM} (h : MsL s ml) (hs : ∀ k, k = 4 ∨ 508 ≤ k → s' k = s k) : MsL s' ml := by
  refine ⟨by rw [hs 4 (Or.inl rfl)]; exact h.1, h.2.1, fun j y hy => ⟨fun f hf => ?_, ?_⟩⟩
  · unfold gF
    rw [hs _ (by omega)]
    exact (h.2.2 j y hy).1 f hf
  · unfold gF
    rw [hs _ (by omega)]
    exact (h.2.2 j y hy).2
theorem AtL.congr {s s' : Nat → Int32} {w x : Nat} {L : List Nat} (h : AtL s w x L) (hs : ∀ e f, e < 80 → f < 5 → eF s' e f = eF s e f) : AtL s' w x L := by
  refine ⟨fun e => ?_, ?_⟩
  · rw [h.1 e]
    constructor
    · rintro ⟨a, b, c⟩
      exact ⟨a, by rw [hs e 4 a (by omega)]; exact b, by rw [hs e 2 a (by omega)]; exact c⟩
    · rintro ⟨a, b, c⟩
      exact ⟨a, by rw [← hs e 4 a (by omega)]; exact b, by rw [← hs e 2 a (by omega)]; exact c⟩
  · refine h.2.imp_of_mem (fun {a b} ha hb hab => ?_)
    rw [hs a 3 ((h.1 a).mp ha).1 (by omega), hs b 3 ((h.1 b).mp hb).1 (by omega)]
    exact hab
theorem Str.congr {s s' : Nat → Int32} {o : Nat} {qs ps : Nat → List Nat} {bs : List Nat} (h : Str s o qs ps bs) (h10 : s' 10 = s 10) (hs : ∀ e f, e < 80 → f < 5 → eF s' e f = eF s e f) : Str s' o qs ps bs := by
  obtain ⟨a, b, c, d, e, f, g⟩ := h
  refine ⟨by rw [h10]; exact a, b.congr (fun e he => hs e 2 he (by omega)), fun q hq => ?_, fun q hq => (d q hq).congr hs, fun q hq => (e q hq).congr hs, f, fun q => ?_⟩
  · obtain ⟨w, w1, w2, w3, w4, w5⟩ := c q hq
    refine ⟨w, w1, by rw [hs q 4 hq (by omega)]; exact w2, by rw [hs q 3 hq (by omega)]; exact w3, by rw [hs q 2 hq (by omega)]; exact w4, fun h8 => ?_⟩
    obtain ⟨u, u1, u2, u3⟩ := w5 h8
    exact ⟨u, u1, by rw [hs q 2 hq (by omega)]; exact u2, by rw [hs u 4 (by omega) (by omega)]; exact u3⟩
  · rw [g q]
    constructor
    · rintro ⟨x, y⟩
      exact ⟨x, by rw [hs q 4 x (by omega)]; exact y⟩
    · rintro ⟨x, y⟩
      exact ⟨x, by rw [← hs q 4 x (by omega)]; exact y⟩
theorem Lab.congr {s s' : Nat → Int32} {E : EE} {Gd : Nat → Prop} {β : Nat → Nat} {ps : Nat → List Nat} {e0 : Nat} (h : Lab s E Gd β ps e0) (hs : ∀ e f, e < 80 → f < 5 → eF s' e f = eF s e f) : Lab s' E Gd β ps e0 := fun e he hn ha => by
  rw [hs e 4 he (by omega)] at ha
  rw [hs e 0 he (by omega), hs e 1 he (by omega)]
  exact h e he hn ha
/-! steps -/
section REL
variable {E : EE} {Gd : Nat → Prop} {β : Nat → Nat} {qs ps : Nat → List Nat} {ml : RM} {bs : List Nat} {e0 o : Nat} {m : MS} {s : Nat → Int32}
theorem hP_inj : ∀ w, w < 9 → ∀ v, v < 9 → hP w = hP v → w = v := by decide
theorem hP_3 : ∀ w, w < 9 → hP w ≠ 3 := by decide
/-- a house's number -/
theorem RelG.house (hR : RelG E Gd β qs ps ml bs e0 o m s) {h w : Nat} {x : Int32} (hh : h < 6) (hw : w < 9) (h0 : w = 0 ∨ w = 3 ∨ w = 8 → x = 0 ∨ x = 1) : RelG E Gd β qs ps ml bs e0 o (sH m h (hP w) x) (uH s h w x) := by
  obtain ⟨r1, r2, r3, r4, r5, r6, r7, r8, r9⟩ := hR
  have hi : ∀ k, k < 54 ∨ 108 ≤ k → uH s h w x k = s k := fun k hk => up1_n (by omega)
  refine ⟨r1.congr (fun k a _ _ => hi k (by omega)) rfl, r2.congr (fun k a b => hi k (by omega)) rfl, fun q hq => ?_, r4.congr (hi 10 (by omega)) (fun e f he hf => hi _ (by omega)), r5.congr (fun e f he hf => hi _ (by omega)), r6, r7.congr (fun k hk => hi k (by omega)), r8, r9⟩
  obtain ⟨a, b, c, d⟩ := r3 q hq
  have n3 := hP_3 w hw
  refine ⟨fun v hv => ?_, ?_, ?_, ?_, ?_⟩
  · show up1 s (54 + 9 * h + w) x (54 + 9 * q + v) = ups m.2.2.1 h (hP w) x q (hP v)
    by_cases e : q = h
    · subst e
      by_cases e2 : v = w
      · subst e2; rw [up1_s, ups_s]
      · rw [up1_n (by omega), ups_k (fun c => e2 (hP_inj v hv w hw c))]; exact a v hv
    · rw [up1_n (by omega), ups_a e]; exact a v hv
  · show ups m.2.2.1 h (hP w) x q 3 = _
    rw [ups_k (Ne.symm n3)]; exact b
  · show ups m.2.2.1 h (hP w) x q 0 = 0 ∨ ups m.2.2.1 h (hP w) x q 0 = 1
    by_cases e : q = h
    · subst e
      by_cases e2 : w = 0
      · subst e2
        rw [show hP 0 = 0 from rfl, ups_s]
        exact h0 (Or.inl rfl)
      · rw [ups_k (show 0 ≠ hP w from fun c => e2 (hP_inj w hw 0 (by omega) c.symm))]; exact c
    · rw [ups_a e]; exact c
  · show ups m.2.2.1 h (hP w) x q 5 = 0 ∨ ups m.2.2.1 h (hP w) x q 5 = 1
    by_cases e : q = h
    · subst e
      by_cases e2 : w = 8
      · subst e2
        rw [show hP 8 = 5 from rfl, ups_s]
        exact h0 (Or.inr (Or.inr rfl))
      · rw [ups_k (show 5 ≠ hP w from fun c => e2 (hP_inj w hw 8 (by omega) c.symm))]; exact d.1
    · rw [ups_a e]; exact d.1
  · show ups m.2.2.1 h (hP w) x q 4 = 0 ∨ ups m.2.2.1 h (hP w) x q 4 = 1
    by_cases e : q = h
    · subst e
      by_cases e2 : w = 3
      · subst e2
        rw [show hP 3 = 4 from rfl, ups_s]
        exact h0 (Or.inr (Or.inl rfl))
      · rw [ups_k (show 4 ≠ hP w from fun c => e2 (hP_inj w hw 3 (by omega) c.symm))]; exact d.2
    · rw [ups_a e]; exact d.2
theorem zP_inj : ∀ w, w < 12 → ∀ v, v < 12 → (w ≠ 4 ∧ w ≠ 10 ∧ v ≠ 4 ∧ v ≠ 10 ∧ zP w = zP v) → w = v := by decide
/-- a number of the whole -/
theorem RelG.z (hR : RelG E Gd β qs ps ml bs e0 o m s) {w : Nat} {x : Int32} (hw : w < 12) (h4 : w ≠ 4) (h10 : w ≠ 10) : RelG E Gd β qs ps ml bs e0 o (sZ m (zP w) x) (up1 s w x) := by
  obtain ⟨r1, r2, r3, r4, r5, r6, r7, r8, r9⟩ := hR
  have hi : ∀ k, k ≠ w → up1 s w x k = s k := fun k hk => up1_n hk
  refine ⟨fun v a b c => ?_, r2.congr (fun k a b => hi k (by omega)) rfl, r3.congr (fun k a b => hi k (by omega)) rfl rfl, r4.congr (hi 10 (Ne.symm h10)) (fun e f he hf => hi _ (by omega)), r5.congr (fun e f he hf => hi _ (by omega)), r6, r7.congr (fun k hk => hi k (by omega)), r8, r9⟩
  show up1 s w x v = up1 m.1 (zP w) x (zP v)
  by_cases e : v = w
  · subst e; rw [up1_s, up1_s]
  · rw [up1_n e, up1_n (fun q => e (zP_inj v a w hw ⟨b, c, h4, h10, q⟩))]
    exact r1 v a b c
theorem rTB_way (hR : RelG E Gd β qs ps ml bs e0 o m s) {f t : Nat} (hf : f < 7) (ht : t < 7) (hft : f < 6 ∨ t < 6) : rTB s f t = m.2.1 (f * 7 + t) := by
  have hw := hR.2.1
  unfold rTB
  by_cases h6 : f = 6
  · rw [if_pos h6, h6]; exact (hw.2 t (by omega)).2
  · rw [if_neg h6]
    by_cases t6 : t = 6
    · rw [if_pos t6, t6]; exact (hw.2 f (by omega)).1
    · rw [if_neg t6]; exact hw.1 f t (by omega) (by omega)
theorem bsOf_snoc (ml : RM) (y : Mg × Nat) : bsOf (ml ++ [y]) = bsOf ml ++ (if y.2 = 0 then [] else [y.2 - 1]) := by
  unfold bsOf
  rw [List.filterMap_append]
  by_cases h : y.2 = 0
  · rw [if_pos h, List.filterMap_cons_none (by rw [if_pos h])]; rfl
  · rw [if_neg h, List.filterMap_cons_some (b := y.2 - 1) (by rw [if_neg h])]; rfl
theorem rSend_o {c : Nat} {k g b : Int32} {f t : Nat} {j : Nat} (h1 : j < 508 ∨ 508 + 6 * c + 6 ≤ j ∨ j < 508 + 6 * c) (h4 : j ≠ 4) : rSend s c k f t g b j = s j := by
  unfold rSend rPut
  rw [up1_n h4, up1_n (by omega), up1_n (by omega), up1_n (by omega), up1_n (by omega), up1_n (by omega), up1_n (by omega)]
theorem MsL.snoc (h : MsL s ml) {k g : Int32} {f t : Nat} {b : Nat} {x : Option Nat} (hc : ml.length < 144) : MsL (rSend s ml.length k f t g (nI b)) (ml ++ [((mg k (nI f) (nI t) g (s 0 + rTB s f t), x), b)]) := by
  have hl : (ml ++ [((mg k (nI f) (nI t) g (s 0 + rTB s f t), x), b)]).length = ml.length + 1 := by rw [List.length_append]; rfl
  refine ⟨?_, by rw [hl]; omega, fun j y hy => ?_⟩
  · rw [hl]
    exact up1_s
  · by_cases hj : j < ml.length
    · rw [List.getElem?_append_left hj] at hy
      obtain ⟨a, b⟩ := h.2.2 j y hy
      refine ⟨fun f' hf' => ?_, ?_⟩
      · unfold gF
        rw [rSend_o (by omega) (by omega)]
        exact a f' hf'
      · unfold gF
        rw [rSend_o (by omega) (by omega)]
        exact b
    · have hj2 : j = ml.length := by
        have := (List.getElem?_eq_some_iff.mp hy).1
        omega
      subst hj2
      rw [List.getElem?_append_right (Nat.le_refl _), Nat.sub_self] at hy
      have hy : ((mg k (nI f) (nI t) g (s 0 + rTB s f t), x), b) = y := Option.some.inj hy
      subst hy
      refine ⟨fun f' hf' => ?_, ?_⟩
      · unfold gF rSend rPut
        rw [up1_n (by omega)]
        rcases (show f' = 0 ∨ f' = 1 ∨ f' = 2 ∨ f' = 3 ∨ f' = 4 by omega) with e | e | e | e | e <;> subst e
        · rw [up1_n (by omega), up1_n (by omega), up1_n (by omega), up1_n (by omega), up1_n (by omega), up1_s]; rfl
        · rw [up1_n (by omega), up1_n (by omega), up1_n (by omega), up1_n (by omega), up1_s]; rfl
        · rw [up1_n (by omega), up1_n (by omega), up1_n (by omega), up1_s]; rfl
        · rw [up1_n (by omega), up1_n (by omega), up1_s]; rfl
        · rw [up1_n (by omega), up1_s]; rfl
      · unfold gF rSend rPut
        rw [up1_n (by omega), up1_s]
/-- a message without an errand -/
theorem RelG.post (hR : RelA E Gd β qs ps ml o m s) {k g : Int32} {f t : Nat} (hf : f < 7) (ht : t < 7) (hft : f < 6 ∨ t < 6) (hc : ml.length < 144) : RelA E Gd β qs ps (ml ++ [((mg k (nI f) (nI t) g (s 0 + rTB s f t), none), 0)]) o (mPost m k f t g none) (rSend s ml.length k f t g 0) := by
  have hw := rTB_way hR hf ht hft
  obtain ⟨r1, r2, r3, r4, r5, r6, r7, r8, r9⟩ := hR
  have hi : ∀ j, j < 508 → j ≠ 4 → rSend s ml.length k f t g 0 j = s j := fun j hj h4 => rSend_o (Or.inl hj) h4
  refine ⟨r1.congr (fun k a b _ => hi k (by omega) b) rfl, r2.congr (fun k a b => hi k (by omega) (by omega)) rfl, r3.congr (fun k a b => hi k (by omega) (by omega)) rfl rfl, ?_, r5.congr (fun e f he hf => hi _ (by omega) (by omega)), r6, r7.snoc hc, fun y hy => ?_, ?_⟩
  · rw [bsOf_snoc, if_pos rfl, List.append_nil]
    exact r4.congr (hi 10 (by omega) (by omega)) (fun e f he hf => hi _ (by omega) (by omega))
  · rcases List.mem_append.mp hy with q | q
    · exact r8 y q
    · rw [List.mem_singleton.mp q]; exact Or.inl ⟨rfl, rfl⟩
  · rw [List.map_append]
    show ins (mg k (nI f) (nI t) g (m.1 0 + m.2.1 (f * 7 + t)), none) m.2.2.2.2 = isort (ml.map Prod.fst ++ [(mg k (nI f) (nI t) g (s 0 + rTB s f t), none)])
    rw [isort_snoc, ← r9, r1 0 (by omega) (by omega) (by omega), hw]
    rfl
/-- the first that waits goes on the road -/
theorem Str.go (hS : Str s o qs ps bs) {h e : Nat} {L : List Nat} (hh : h < 6) (hq : qs h = e :: L) : Str (uE s e 4 7) o (up1 qs h L) ps (bs ++ [e]) := by
  obtain ⟨a, b, c, d, p, f, g⟩ := hS
  have hd := d h hh
  rw [hq] at hd
  obtain ⟨e1, e2, e3⟩ := (hd.1 e).mp List.mem_cons_self
  have heL : e ∉ L := fun q => absurd ((List.pairwise_cons.mp hd.2).1 e q) Int32.lt_irrefl
  have w4 : ∀ x, x ≠ e → eF (uE s e 4 7) x 4 = eF s x 4 := fun x hx => uE_o (by omega) (by omega) (by omega)
  have ee : eF (uE s e 4 7) e 4 = 7 := uE_s
  have wf : ∀ x f, f < 4 → eF (uE s e 4 7) x f = eF s x f := fun x f hf => uE_o (by omega) (by omega) (by omega)
  refine ⟨(uE_z (by omega)).trans a, b.congr (fun x _ => wf x 2 (by omega)), fun x hx => ?_, fun q hq6 => ?_, fun q hq8 => ?_, ?_, fun x => ?_⟩
  · by_cases hxe : x = e
    · subst hxe
      obtain ⟨w, w1, w2, w3, w4', w5⟩ := c x hx
      refine ⟨7, by omega, ee, fun _ => ?_, fun _ _ => ?_, fun q => absurd q (by decide)⟩
      · rw [wf x 3 (by omega)]
        refine w3 (fun q => ?_)
        rw [w2, q] at e2
        have := (nI_eq (by omega) (by omega)).mp e2
        omega
      · rw [wf x 2 (by omega)]; exact e3
    · obtain ⟨w, w1, w2, w3, w4', w5⟩ := c x hx
      refine ⟨w, w1, by rw [w4 x hxe]; exact w2, by rw [wf x 3 (by omega)]; exact w3, by rw [wf x 2 (by omega)]; exact w4', fun h8 => ?_⟩
      obtain ⟨u, u1, u2, u3⟩ := w5 h8
      refine ⟨u, u1, by rw [wf x 2 (by omega)]; exact u2, ?_⟩
      by_cases hue : u = e
      · rw [hue, ee]; decide
      · rw [w4 u hue]; exact u3
  · have key : ∀ (L' : List Nat), (∀ x, x ∈ L' ↔ x ∈ qs q ∧ x ≠ e) → L'.Pairwise (fun a b => eF s a 3 < eF s b 3) → AtL (uE s e 4 7) (q + 1) 0 L' := by
      intro L' h1 h2
      refine ⟨fun x => ?_, h2.imp (fun {a b} hab => by rw [wf a 3 (by omega), wf b 3 (by omega)]; exact hab)⟩
      rw [h1 x, (d q hq6).1 x, wf x 2 (by omega)]
      by_cases hxe : x = e
      · subst hxe
        rw [ee]
        constructor
        · rintro ⟨-, q⟩; exact absurd rfl q
        · rintro ⟨-, q', -⟩
          have := (nI_eq (a := 7) (by omega) (by omega)).mp q'
          omega
      · rw [w4 x hxe]
        exact ⟨fun q => q.1, fun q => ⟨q, hxe⟩⟩
    by_cases hqh : q = h
    · subst hqh
      rw [up1_s]
      refine key L (fun x => ?_) (List.pairwise_cons.mp hd.2).2
      rw [hq, List.mem_cons]
      constructor
      · exact fun q => ⟨Or.inr q, fun c => heL (by rw [← c]; exact q)⟩
      · rintro ⟨q | q, r⟩
        · exact absurd q r
        · exact q
    · rw [up1_n hqh]
      refine key _ (fun x => ⟨fun q' => ⟨q', fun c => ?_⟩, fun q => q.1⟩) (d q hq6).2
      subst c
      have := ((d q hq6).1 x).mp q'
      rw [e2] at this
      have := (nI_eq (by omega) (by omega)).mp this.2.1
      omega
  · refine ⟨fun x => ?_, (p q hq8).2.imp (fun {a b} hab => by rw [wf a 3 (by omega), wf b 3 (by omega)]; exact hab)⟩
    rw [(p q hq8).1 x, wf x 2 (by omega)]
    by_cases hxe : x = e
    · subst hxe
      rw [ee, e2]
      constructor
      · rintro ⟨-, q', -⟩
        have := (nI_eq (b := 8) (by omega) (by omega)).mp q'
        omega
      · rintro ⟨-, q', -⟩
        exact absurd q' (by decide)
    · rw [w4 x hxe]
  · refine List.nodup_append.mpr ⟨f, List.nodup_cons.mpr ⟨by simp, List.nodup_nil⟩, fun x hx y hy c => ?_⟩
    rw [List.mem_singleton.mp hy] at c
    subst c
    have := ((g x).mp hx).2
    rw [e2] at this
    have := (nI_eq (b := 7) (by omega) (by omega)).mp this
    omega
  · rw [List.mem_append, g x, List.mem_singleton]
    by_cases hxe : x = e
    · subst hxe
      rw [ee]
      exact ⟨fun _ => ⟨e1, rfl⟩, fun _ => Or.inr rfl⟩
    · rw [w4 x hxe]
      exact ⟨fun q => q.resolve_right hxe, fun q => Or.inl q⟩
theorem RelG.sendE (hR : RelA E Gd β qs ps ml o m s) (hE : EOk E Gd) {h e : Nat} {L : List Nat} {g : Int32} (hh : h < 6) (hq : qs h = e :: L) (hc : ml.length < 144) : e < 80 ∧ eF s e 0 = nI (E.1 (β e)) ∧ E.1 (β e) < 6 ∧ m.2.2.2.1 h = β e :: L.map β ∧ RelA E Gd β (up1 qs h L) ps (ml ++ [((mg 0 (nI h) (nI (E.1 (β e))) g (s 0 + rTB s h (E.1 (β e))), some (β e)), e + 1)]) o (mPost (sQ m h (L.map β)) 0 h (E.1 (β e)) g (some (β e))) (rSend (uE s e 4 7) ml.length 0 h (E.1 (β e)) g (nI (e + 1))) := by
  have hRR := hR
  obtain ⟨r1, r2, r3, r4, r5, r6, r7, r8, r9⟩ := hR
  have hmem : e ∈ qs h := by rw [hq]; exact List.mem_cons_self
  obtain ⟨e1, e2, e3⟩ := ((r4.2.2.2.1 h hh).1 e).mp hmem
  have ea : 0 < eF s e 4 := by rw [e2, nI_n0 (by omega)]; omega
  obtain ⟨l1, l2, l3, l4⟩ := r5 e e1 (by omega) ea
  have hE1 := (hE _ l1).1
  have hw := rTB_way hRR (f := h) (t := E.1 (β e)) (by omega) (by omega) (Or.inl hh)
  have hQ : m.2.2.2.1 h = β e :: L.map β := by rw [← r6 h hh, hq]; rfl
  have hi : ∀ j, j < 108 → uE s e 4 7 j = s j := fun j hj => uE_z hj
  have hs : ∀ j, j < 508 → j ≠ 4 → rSend (uE s e 4 7) ml.length 0 h (E.1 (β e)) g (nI (e + 1)) j = uE s e 4 7 j := fun j hj h4 => rSend_o (Or.inl hj) h4
  have hb : rTB (uE s e 4 7) h (E.1 (β e)) = rTB s h (E.1 (β e)) := rTB_congr (fun k hk => hi k (by omega)) (by omega) (by omega) (Or.inl hh)
  refine ⟨e1, l2, hE1, hQ, r1.congr (fun k a b _ => (hs k (by omega) b).trans (hi k (by omega))) rfl, r2.congr (fun k a b => (hs k (by omega) (by omega)).trans (hi k (by omega))) rfl, fun q hq6 => ?_, ?_, fun x hx _ ha => ?_, fun q hq6 => ?_, ?_, fun y hy => ?_, ?_⟩
  · obtain ⟨a, b, c, d⟩ := r3 q hq6
    have h3 : ∀ k, k ≠ 3 → ups m.2.2.1 h 3 (nI (L.map β).length) q k = m.2.2.1 q k := fun k hk => ups_k hk
    refine ⟨fun w hw9 => ?_, ?_, ?_, ?_⟩
    · show rSend _ _ _ _ _ _ _ (54 + 9 * q + w) = ups m.2.2.1 h 3 _ q (hP w)
      rw [hs _ (by omega) (by omega), hi _ (by omega), h3 _ (hP_3 w hw9)]
      exact a w hw9
    · show ups m.2.2.1 h 3 _ q 3 = nI (up1 m.2.2.2.1 h (L.map β) q).length
      by_cases e : q = h
      · subst e; rw [ups_s, up1_s]
      · rw [ups_a e, up1_n e]; exact b
    · show ups m.2.2.1 h 3 _ q 0 = 0 ∨ ups m.2.2.1 h 3 _ q 0 = 1
      rw [h3 0 (by omega)]; exact c
    · show (ups m.2.2.1 h 3 _ q 5 = 0 ∨ ups m.2.2.1 h 3 _ q 5 = 1) ∧ (ups m.2.2.1 h 3 _ q 4 = 0 ∨ ups m.2.2.1 h 3 _ q 4 = 1)
      rw [h3 5 (by omega), h3 4 (by omega)]; exact d
  · rw [bsOf_snoc, if_neg (by omega)]
    exact (r4.go hh hq).congr (hs 10 (by omega) (by omega)) (fun x f hx hf => hs _ (by omega) (by omega))
  · have e4 : eF (rSend (uE s e 4 7) ml.length 0 h (E.1 (β e)) g (nI (e + 1))) x 4 = eF (uE s e 4 7) x 4 := hs _ (by omega) (by omega)
    rw [e4] at ha
    have hax : 0 < eF s x 4 := by
      by_cases c : x = e
      · rw [c]; exact ea
      · rw [uE_o (by omega) (by omega) (by omega)] at ha; exact ha
    obtain ⟨a, b, c, d⟩ := r5 x hx (by omega) hax
    refine ⟨a, ?_, ?_, d⟩
    · rw [show eF (rSend (uE s e 4 7) ml.length 0 h (E.1 (β e)) g (nI (e + 1))) x 0 = eF (uE s e 4 7) x 0 from hs _ (by omega) (by omega), uE_o (by omega) (by omega) (by omega)]
      exact b
    · rw [show eF (rSend (uE s e 4 7) ml.length 0 h (E.1 (β e)) g (nI (e + 1))) x 1 = eF (uE s e 4 7) x 1 from hs _ (by omega) (by omega), uE_o (by omega) (by omega) (by omega)]
      exact c
  · show (up1 qs h L q).map β = up1 m.2.2.2.1 h (L.map β) q
    by_cases c : q = h
    · subst c; rw [up1_s, up1_s]
    · rw [up1_n c, up1_n c]; exact r6 q hq6
  · have h7 : MsL (uE s e 4 7) ml := r7.congr (fun k hk => up1_n (by omega))
    have := h7.snoc (k := 0) (g := g) (f := h) (t := E.1 (β e)) (b := e + 1) (x := some (β e)) hc
    rw [hi 0 (by omega), hb] at this
    exact this
  · rcases List.mem_append.mp hy with q | q
    · exact r8 y q
    · rw [List.mem_singleton.mp q]; exact Or.inr ⟨e, rfl, rfl⟩
  · rw [List.map_append]
    show ins (mg 0 (nI h) (nI (E.1 (β e))) g (m.1 0 + m.2.1 (h * 7 + E.1 (β e))), some (β e)) m.2.2.2.2 = isort (ml.map Prod.fst ++ [(mg 0 (nI h) (nI (E.1 (β e))) g (s 0 + rTB s h (E.1 (β e))), some (β e))])
    rw [isort_snoc, ← r9, r1 0 (by omega) (by omega) (by omega), hw]
    rfl
end REL
