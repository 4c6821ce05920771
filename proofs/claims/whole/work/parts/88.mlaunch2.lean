/-! a text's errands launched: what stands after some of them -/
theorem RelG.ext {E E' : EE} {Gd Gd' : Nat → Prop} {β : Nat → Nat} {qs ps : Nat → List Nat} {ml : RM} {bs : List Nat} {e0 o : Nat} {m : MS} {s : Nat → Int32} (hR : RelG E Gd β qs ps ml bs e0 o m s) (h : ∀ a, Gd a → Gd' a ∧ E'.1 a = E.1 a ∧ E'.2.1 a = E.2.1 a ∧ E'.2.2.2 a = E.2.2.2 a) : RelG E' Gd' β qs ps ml bs e0 o m s := by
  obtain ⟨r1, r2, r3, r4, r5, r6, r7, r8, r9⟩ := hR
  refine ⟨r1, r2, r3, r4, fun x hx hn ha => ?_, r6, r7, r8, r9⟩
  obtain ⟨l1, l2, l3, l4⟩ := r5 x hx hn ha
  obtain ⟨h1, h2, h3, h4⟩ := h _ l1
  exact ⟨h1, by rw [h2]; exact l2, by rw [h3]; exact l3, by rw [h4]; exact l4⟩
theorem RelS.ext {E E' : EE} {Gd Gd' : Nat → Prop} {O : Nat} {ml0 : RM} {m : MS} {s : Nat → Int32} (hR : RelS E Gd O ml0 m s) (h : ∀ a, Gd a → Gd' a ∧ E'.1 a = E.1 a ∧ E'.2.1 a = E.2.1 a ∧ E'.2.2.2 a = E.2.2.2 a) : RelS E' Gd' O ml0 m s := by
  obtain ⟨β, qs, ps, nw, o, ho, hA⟩ := hR
  exact ⟨β, qs, ps, nw, o, ho, RelG.ext hA h⟩
theorem ext_old {n0 : Nat} {L : List RN} {E : EE} {a : Nat} (h : a < n0) : (eExt n0 L E).1 a = E.1 a ∧ (eExt n0 L E).2.1 a = E.2.1 a ∧ (eExt n0 L E).2.2.1 a = E.2.2.1 a ∧ (eExt n0 L E).2.2.2 a = E.2.2.2 a := ⟨if_neg (by omega), if_neg (by omega), if_neg (by omega), if_neg (by omega)⟩
theorem ext_new {n0 : Nat} {L : List RN} {E : EE} {k : Nat} : (eExt n0 L E).1 (n0 + k) = (nodeAt L k).1 ∧ (eExt n0 L E).2.1 (n0 + k) = nI (nodeAt L k).2.1 ∧ (eExt n0 L E).2.2.2 (n0 + k) = ((fbL L).2.1 k).map (fun k => n0 + k) := by
  have e : n0 + k - n0 = k := by omega
  refine ⟨?_, ?_, ?_⟩
  · show (if n0 ≤ n0 + k then (nodeAt L (n0 + k - n0)).1 else E.1 (n0 + k)) = _
    rw [if_pos (by omega), e]
  · show (if n0 ≤ n0 + k then nI (nodeAt L (n0 + k - n0)).2.1 else E.2.1 (n0 + k)) = _
    rw [if_pos (by omega), e]
  · show (if n0 ≤ n0 + k then ((fbL L).2.1 (n0 + k - n0)).map (fun k => n0 + k) else E.2.2.2 (n0 + k)) = _
    rw [if_pos (by omega), e]
theorem nodeAt_some {L : List RN} {k : Nat} {y : RN} (h : L[k]? = some y) : nodeAt L k = y := by unfold nodeAt; rw [h]
theorem nodeAt_l {P : List RN} {y : RN} {k : Nat} (h : k < P.length) : nodeAt (P ++ [y]) k = nodeAt P k := by
  unfold nodeAt
  rw [List.getElem?_append_left h]
theorem nodeAt_r {P : List RN} {y : RN} : nodeAt (P ++ [y]) P.length = y := nodeAt_some (by rw [List.getElem?_append_right (Nat.le_refl _), Nat.sub_self]; rfl)
theorem fbL_parts {P : List RN} {y : RN} {k : Nat} : (fbL (P ++ [y])).2.1 k = if k = P.length then [] else if y.2.2 ≠ 0 ∧ k = (fbL P).2.2.2 (y.2.2 - 1) then (fbL P).2.1 k ++ [P.length] else (fbL P).2.1 k := by
  rw [fbL_snoc]
  rfl
def LnC (E : EE) (Gd : Nat → Prop) (n0 : Nat) (P : List RN) (σ β : Nat → Nat) (s : Nat → Int32) : Prop := (∀ k, k < P.length → σ k < 80 ∧ 0 < eF s (σ k) 4 ∧ β (σ k) = n0 + k ∧ ∀ x, x < σ k → 0 < eF s x 4) ∧ ∀ x, x < 80 → 0 < eF s x 4 → β x < n0 ∨ ∃ k, k < P.length ∧ x = σ k
section MLN
variable {E : EE} {Gd : Nat → Prop} {n0 : Nat} {P : List RN} {σ β : Nat → Nat} {qs ps ps' : Nat → List Nat} {ml : RM} {bs bs' : List Nat} {o : Nat} {m : MS} {s : Nat → Int32}
theorem Str.dead (hS : Str s o qs ps bs) {e : Nat} (he : e < 80) (hd : ¬ 0 < eF s e 4) : ps e = [] := by
  cases hp : ps e with
  | nil => rfl
  | cons p t =>
    exfalso
    obtain ⟨p1, p2, p3⟩ := (hS.kid he).mp (show p ∈ ps e by rw [hp]; exact List.mem_cons_self)
    rcases hS.up p1 (by rw [p2]; decide) with ⟨q1, -⟩ | ⟨-, u, u1, u2, u3⟩
    · rw [p3] at q1
      have := (nI_eq (by omega) (by omega)).mp q1
      omega
    · rw [p3] at u2
      have := (nI_eq (by omega) (by omega)).mp u2
      have : e = u := by omega
      rw [this] at hd
      exact hd u3
theorem LnC.add {y : RN} {e : Nat} {x : Int32} (hR : RelG (eExt n0 P E) (gExt n0 P Gd) β qs ps ml bs 80 o m s) (hC : LnC E Gd n0 P σ β s) (he : e < 80) (hd : ¬ 0 < eF s e 4) (hf : ∀ x, x < e → 0 < eF s x 4) (hbs : ∀ z, z ∈ bsOf ml → z ∈ bs) (hS : Str (rAdd s e (nI y.1) (nI y.2.1) x) (o + 1) qs ps' bs') (h1 : ps' e = []) (h2 : ∀ z, z ≠ e → β z < n0 → ps' z = ps z) (h3 : ∀ k, k < P.length → (ps' (σ k)).map (up1 β e (n0 + P.length)) = ((fbL (P ++ [y])).2.1 k).map (fun k => n0 + k)) : RelG (eExt n0 (P ++ [y]) E) (gExt n0 (P ++ [y]) Gd) (up1 β e (n0 + P.length)) qs ps' ml bs' 80 (o + 1) m (rAdd s e (nI y.1) (nI y.2.1) x) ∧ LnC E Gd n0 (P ++ [y]) (up1 σ P.length e) (up1 β e (n0 + P.length)) (rAdd s e (nI y.1) (nI y.2.1) x) := by
  obtain ⟨r1, r2, r3, r4, r5, r6, r7, r8, r9⟩ := hR
  obtain ⟨c1, c2⟩ := hC
  have hl : (P ++ [y]).length = P.length + 1 := by rw [List.length_append]; rfl
  obtain ⟨v0, v1, v2, v3, v4⟩ := rAdd_e (s := s) (e := e) (g := nI y.1) (w := nI y.2.1) (x := x)
  have v4p : 0 < eF (rAdd s e (nI y.1) (nI y.2.1) x) e 4 := by
    rw [v4]
    split <;> decide
  have vx : ∀ z f, z ≠ e → f < 5 → eF (rAdd s e (nI y.1) (nI y.2.1) x) z f = eF s z f := fun z f hz hf => rAdd_x hz hf
  have zk : ∀ k, k < 108 → k ≠ 10 → rAdd s e (nI y.1) (nI y.2.1) x k = s k := fun k hk h10 => by rw [rAdd_z hk, if_neg h10]
  have alive_ne : ∀ z, 0 < eF s z 4 → z ≠ e := fun z hz q => hd (by rw [← q]; exact hz)
  have σe : ∀ k, k < P.length → σ k ≠ e := fun k hk => alive_ne _ (c1 k hk).2.1
  refine ⟨⟨r1.congr (fun k a b c => zk k (by omega) c) rfl, r2.congr (fun k a b => zk k (by omega) (by omega)) rfl, r3.congr (fun k a b => zk k (by omega) (by omega)) rfl rfl, hS, fun z hz _ ha => ?_, fun q hq => ?_, r7.congr (fun k hk => ?_), fun q hq => ?_, r9⟩, fun k hk => ?_, fun z hz ha => ?_⟩
  · by_cases hze : z = e
    · subst hze
      rw [up1_s, v0, v1, h1]
      obtain ⟨x1, x2, x3⟩ := ext_new (n0 := n0) (L := P ++ [y]) (E := E) (k := P.length)
      rw [x1, x2, x3, nodeAt_r, fbL_parts, if_pos rfl]
      exact ⟨Or.inr ⟨by omega, by omega⟩, rfl, rfl, rfl⟩
    · rw [vx z 4 hze (by omega)] at ha
      obtain ⟨l1, l2, l3, l4⟩ := r5 z hz (by omega) ha
      rw [up1_n hze, vx z 0 hze (by omega), vx z 1 hze (by omega)]
      rcases c2 z hz ha with q | ⟨k, k1, k2⟩
      · obtain ⟨x1, x2, -, x4⟩ := ext_old (L := P ++ [y]) (E := E) q
        obtain ⟨w1, w2, -, w4⟩ := ext_old (L := P) (E := E) q
        rw [w1] at l2
        rw [w2] at l3
        rw [w4] at l4
        refine ⟨?_, by rw [x1]; exact l2, by rw [x2]; exact l3, ?_⟩
        · rcases l1 with g | g
          · exact Or.inl g
          · omega
        · rw [x4, h2 z hze q, ← l4]
          refine List.map_congr_left (fun p hp => up1_n (alive_ne p ?_))
          have := ((r4.kid hz).mp hp).2.1
          rw [this]
          decide
      · have hβ := (c1 k k1).2.2.1
        rw [← k2] at hβ
        obtain ⟨x1, x2, x3⟩ := ext_new (n0 := n0) (L := P ++ [y]) (E := E) (k := k)
        obtain ⟨w1, w2, w3⟩ := ext_new (n0 := n0) (L := P) (E := E) (k := k)
        rw [hβ, w1] at l2
        rw [hβ, w2] at l3
        rw [hβ, x1, x2, x3, nodeAt_l k1]
        refine ⟨Or.inr ⟨by omega, by omega⟩, l2, l3, ?_⟩
        have := h3 k k1
        rw [← k2] at this
        exact this
  · rw [← r6 q hq]
    refine List.map_congr_left (fun p hp => up1_n (alive_ne p ?_))
    have := (((r4.2.2.2.1 q hq).1 p).mp hp).2.1
    rw [this, nI_n0 (by omega)]
    omega
  · rcases hk with hk | hk
    · exact zk k (by omega) (by omega)
    · exact rAdd_g he hk
  · rcases r8 q hq with b | ⟨e', b1, b2⟩
    · exact Or.inl b
    · refine Or.inr ⟨e', b1, ?_⟩
      have hb : e' ∈ bsOf ml := by
        unfold bsOf
        exact List.mem_filterMap.mpr ⟨q, hq, by rw [b1, if_neg (by omega)]; rfl⟩
      rw [up1_n (alive_ne e' ?_)]
      · exact b2
      · have := ((r4.2.2.2.2.2.2 e').mp (hbs _ hb)).2
        rw [this]
        decide
  · rw [hl] at hk
    by_cases hkc : k = P.length
    · subst hkc
      rw [up1_s]
      refine ⟨he, v4p, up1_s, fun z hz => ?_⟩
      rw [vx z 4 (by omega) (by omega)]
      exact hf z hz
    · rw [up1_n hkc]
      obtain ⟨q1, q2, q3, q4⟩ := c1 k (by omega)
      refine ⟨q1, by rw [vx _ 4 (σe k (by omega)) (by omega)]; exact q2, by rw [up1_n (σe k (by omega))]; exact q3, fun z hz => ?_⟩
      have hza := q4 z hz
      rw [vx z 4 (alive_ne z hza) (by omega)]
      exact hza
  · by_cases hze : z = e
    · exact Or.inr ⟨P.length, by omega, by rw [up1_s]; exact hze⟩
    · rw [vx z 4 hze (by omega)] at ha
      rw [up1_n hze]
      rcases c2 z hz ha with q | ⟨k, k1, k2⟩
      · exact Or.inl q
      · exact Or.inr ⟨k, by omega, by rw [up1_n (by omega)]; exact k2⟩
/-- a part -/
theorem LnC.part {y : RN} {e : Nat} (hR : RelA (eExt n0 P E) (gExt n0 P Gd) β qs ps ml o m s) (hC : LnC E Gd n0 P σ β s) (he : e < 80) (hd : ¬ 0 < eF s e 4) (hf : ∀ x, x < e → 0 < eF s x 4) (ho : o + 1 < 2 ^ 31) (hy : y.2.2 ≠ 0) (hlt : (fbL P).2.2.2 (y.2.2 - 1) < P.length) : RelA (eExt n0 (P ++ [y]) E) (gExt n0 (P ++ [y]) Gd) (up1 β e (n0 + P.length)) qs (up1 ps (σ ((fbL P).2.2.2 (y.2.2 - 1))) (ps (σ ((fbL P).2.2.2 (y.2.2 - 1))) ++ [e])) ml (o + 1) m (rAdd s e (nI y.1) (nI y.2.1) (nI (σ ((fbL P).2.2.2 (y.2.2 - 1)) + 1))) ∧ LnC E Gd n0 (P ++ [y]) (up1 σ P.length e) (up1 β e (n0 + P.length)) (rAdd s e (nI y.1) (nI y.2.1) (nI (σ ((fbL P).2.2.2 (y.2.2 - 1)) + 1))) := by
  obtain ⟨c1, c2⟩ := id hC
  obtain ⟨p1, p2, p3, p4⟩ := c1 _ hlt
  have hpe : σ ((fbL P).2.2.2 (y.2.2 - 1)) < e := by
    rcases Nat.lt_trichotomy (σ ((fbL P).2.2.2 (y.2.2 - 1))) e with q | q | q
    · exact q
    · rw [q] at p2; exact absurd p2 hd
    · exact absurd (p4 e q) hd
  have hnd := hR.2.2.2.1.dead he hd
  refine LnC.add hR hC he hd hf (fun z hz => hz) (hR.2.2.2.1.addP he hd ho hpe p2) ?_ (fun z hz hzn => ?_) (fun k hk => ?_)
  · rw [up1_n (by omega)]; exact hnd
  · rw [up1_n (fun q => by rw [q, p3] at hzn; omega)]
  · obtain ⟨q1, q2, q3, q4⟩ := c1 k hk
    obtain ⟨l1, l2, l3, l4⟩ := hR.2.2.2.2.1 (σ k) q1 (by omega) q2
    have hmap : (ps (σ k)).map (up1 β e (n0 + P.length)) = ((fbL P).2.1 k).map (fun k => n0 + k) := by
      rw [q3, ext_new.2.2] at l4
      rw [← l4]
      refine List.map_congr_left (fun p hp => up1_n (fun c => ?_))
      have := ((hR.2.2.2.1.kid q1).mp hp).2.1
      rw [c] at this
      rw [this] at hd
      exact hd (by decide)
    rw [fbL_parts, if_neg (by omega)]
    by_cases hkl : k = (fbL P).2.2.2 (y.2.2 - 1)
    · rw [if_pos ⟨hy, hkl⟩, ← hkl, up1_s, List.map_append, List.map_append, hmap]
      show _ ++ [up1 β e (n0 + P.length) e] = _
      rw [up1_s]
      rfl
    · rw [if_neg (fun c => hkl c.2), up1_n (fun q => hkl (by
        rw [q, p3] at q3
        omega))]
      exact hmap
/-- one that is no part; not yet sent -/
theorem LnC.root {y : RN} {e : Nat} (hR : RelA (eExt n0 P E) (gExt n0 P Gd) β qs ps ml o m s) (hC : LnC E Gd n0 P σ β s) (he : e < 80) (hd : ¬ 0 < eF s e 4) (hf : ∀ x, x < e → 0 < eF s x 4) (ho : o + 1 < 2 ^ 31) (hy : y.2.2 = 0) : RelG (eExt n0 (P ++ [y]) E) (gExt n0 (P ++ [y]) Gd) (up1 β e (n0 + P.length)) qs ps ml (bsOf ml ++ [e]) 80 (o + 1) m (rAdd s e (nI y.1) (nI y.2.1) 0) ∧ LnC E Gd n0 (P ++ [y]) (up1 σ P.length e) (up1 β e (n0 + P.length)) (rAdd s e (nI y.1) (nI y.2.1) 0) := by
  obtain ⟨c1, c2⟩ := id hC
  have hnd := hR.2.2.2.1.dead he hd
  refine LnC.add hR hC he hd hf (fun z hz => hz) (hR.2.2.2.1.addR he hd ho) hnd (fun z hz hzn => rfl) (fun k hk => ?_)
  obtain ⟨q1, q2, q3, q4⟩ := c1 k hk
  obtain ⟨l1, l2, l3, l4⟩ := hR.2.2.2.2.1 (σ k) q1 (by omega) q2
  rw [fbL_parts, if_neg (by omega), if_neg (fun c => c.1 hy)]
  rw [q3, ext_new.2.2] at l4
  rw [← l4]
  refine List.map_congr_left (fun p hp => up1_n (fun c => ?_))
  have := ((hR.2.2.2.1.kid q1).mp hp).2.1
  rw [c] at this
  rw [this] at hd
  exact hd (by decide)
/-- it is sent -/
theorem RelG.postE {e : Nat} (hR : RelG E Gd β qs ps ml (bsOf ml ++ [e]) 80 o m s) {k g : Int32} {f t : Nat} (hf : f < 7) (ht : t < 7) (hft : f < 6 ∨ t < 6) (hc : ml.length < 144) : RelA E Gd β qs ps (ml ++ [((mg k (nI f) (nI t) g (s 0 + rTB s f t), some (β e)), e + 1)]) o (mPost m k f t g (some (β e))) (rSend s ml.length k f t g (nI (e + 1))) := by
  have hw := rTB_way hR hf ht hft
  obtain ⟨r1, r2, r3, r4, r5, r6, r7, r8, r9⟩ := hR
  have hi : ∀ j, j < 508 → j ≠ 4 → rSend s ml.length k f t g (nI (e + 1)) j = s j := fun j hj h4 => rSend_o (Or.inl hj) h4
  refine ⟨r1.congr (fun k a b _ => hi k (by omega) b) rfl, r2.congr (fun k a b => hi k (by omega) (by omega)) rfl, r3.congr (fun k a b => hi k (by omega) (by omega)) rfl rfl, ?_, r5.congr (fun e f he hf => hi _ (by omega) (by omega)), r6, r7.snoc hc, fun y hy => ?_, ?_⟩
  · rw [bsOf_snoc, if_neg (by omega)]
    exact r4.congr (hi 10 (by omega) (by omega)) (fun e f he hf => hi _ (by omega) (by omega))
  · rcases List.mem_append.mp hy with q | q
    · exact r8 y q
    · rw [List.mem_singleton.mp q]; exact Or.inr ⟨e, rfl, rfl⟩
  · rw [List.map_append]
    show ins (mg k (nI f) (nI t) g (m.1 0 + m.2.1 (f * 7 + t)), some (β e)) m.2.2.2.2 = isort (ml.map Prod.fst ++ [(mg k (nI f) (nI t) g (s 0 + rTB s f t), some (β e))])
    rw [isort_snoc, ← r9, r1 0 (by omega) (by omega) (by omega), hw]
    rfl
end MLN
/-! the bank's part, the count of the launched ones left for the end -/
def lch1 (E : EE) (m : MS) (a : Nat) : MS := mPost (mMint m) 0 6 (E.1 a) (coin m) (some a)
def mLch0 (E : EE) (q : List Nat) (m : MS) : MS := q.foldl (lch1 E) m
theorem up1_comm {α : Type} {f : Nat → α} {a b : Nat} {x y : α} (h : a ≠ b) : up1 (up1 f a x) b y = up1 (up1 f b y) a x := by
  funext k
  by_cases c1 : k = a
  · subst c1; rw [up1_n h, up1_s, up1_s]
  · by_cases c2 : k = b
    · subst c2; rw [up1_s, up1_n c1, up1_s]
    · rw [up1_n c2, up1_n c1, up1_n c1, up1_n c2]
theorem lch1_z (E : EE) (m : MS) (a : Nat) (x : Int32) : lch1 E (sZ m 10 x) a = sZ (lch1 E m a) 10 x := by
  unfold lch1
  have e1 : mMint (sZ m 10 x) = sZ (mMint m) 10 x := by
    show (up1 (up1 (up1 m.1 10 x) 7 (up1 m.1 10 x 7 + coin (sZ m 10 x))) 11 (up1 m.1 10 x 11 + 1), m.2) = (up1 (up1 (up1 m.1 7 (m.1 7 + coin m)) 11 (m.1 11 + 1)) 10 x, m.2)
    have ec : coin (sZ m 10 x) = coin m := by
      show (1 : Int32) <<< (up1 m.1 10 x 1 &&& 31) = _
      rw [up1_n (by decide)]
      rfl
    rw [ec, up1_n (show (7 : Nat) ≠ 10 by decide), up1_n (show (11 : Nat) ≠ 10 by decide), up1_comm (show (10 : Nat) ≠ 7 by decide), up1_comm (show (10 : Nat) ≠ 11 by decide)]
  have ec : coin (sZ m 10 x) = coin m := by
    show (1 : Int32) <<< (up1 m.1 10 x 1 &&& 31) = _
    rw [up1_n (by decide)]
    rfl
  rw [e1, ec]
  show ((up1 (mMint m).1 10 x), m.2.1, m.2.2.1, m.2.2.2.1, ins (mg 0 (nI 6) (nI (E.1 a)) (coin m) (up1 (mMint m).1 10 x 0 + m.2.1 (6 * 7 + E.1 a)), some a) m.2.2.2.2) = _
  rw [up1_n (show (0 : Nat) ≠ 10 by decide)]
  rfl
theorem mLch0_z (E : EE) (q : List Nat) : ∀ (m : MS) (x : Int32), mLch0 E q (sZ m 10 x) = sZ (mLch0 E q m) 10 x := by
  induction q with
  | nil => intro m x; rfl
  | cons a q ih =>
    intro m x
    show mLch0 E q (lch1 E (sZ m 10 x) a) = sZ (mLch0 E q (lch1 E m a)) 10 x
    rw [lch1_z, ih]
theorem sZ_sZ {m : MS} {k : Nat} {x y : Int32} : sZ (sZ m k x) k y = sZ m k y := by
  show (up1 (up1 m.1 k x) k y, m.2) = (up1 m.1 k y, m.2)
  congr 1
  funext j
  by_cases c : j = k
  · subst c; rw [up1_s, up1_s]
  · rw [up1_n c, up1_n c, up1_n c]
theorem mLch_eq (E : EE) (q : List Nat) : ∀ (m : MS), mLaunch E q m = sZ (mLch0 E q m) 10 (m.1 10 + nI q.length) := by
  induction q with
  | nil =>
    intro m
    show m = sZ m 10 (m.1 10 + 0)
    rw [Int32.add_zero]
    show m = (up1 m.1 10 (m.1 10), m.2)
    have e : up1 m.1 10 (m.1 10) = m.1 := by
      funext k
      by_cases c : k = 10
      · rw [c, up1_s]
      · rw [up1_n c]
    rw [e]
  | cons a q ih =>
    intro m
    have e0 : mLaunch E (a :: q) m = mLaunch E q (lch1 E (sZ m 10 (m.1 10 + 1)) a) := by
      show mLaunch E q (mPost (mMint (sZ m 10 (m.1 10 + 1))) 0 6 (E.1 a) (coin m) (some a)) = mLaunch E q (mPost (mMint (sZ m 10 (m.1 10 + 1))) 0 6 (E.1 a) (coin (sZ m 10 (m.1 10 + 1))) (some a))
      rw [show coin (sZ m 10 (m.1 10 + 1)) = coin m by
        show (1 : Int32) <<< (up1 m.1 10 (m.1 10 + 1) 1 &&& 31) = _
        rw [up1_n (by decide)]
        rfl]
    rw [e0, lch1_z, ih, mLch0_z, sZ_sZ]
    show sZ (mLch0 E q (lch1 E m a)) 10 (up1 (lch1 E m a).1 10 (m.1 10 + 1) 10 + nI q.length) = sZ (mLch0 E q (lch1 E m a)) 10 (m.1 10 + nI (q.length + 1))
    rw [up1_s, Int32.add_assoc, show (1 : Int32) + nI q.length = nI (q.length + 1) by rw [show (1 : Int32) = nI 1 from rfl, nI_add, Nat.add_comm]]
theorem mLch0_snoc (E : EE) (q : List Nat) (a : Nat) (m : MS) : mLch0 E (q ++ [a]) m = lch1 E (mLch0 E q m) a := by
  unfold mLch0
  rw [List.foldl_append]
  rfl
theorem roots_snoc {n0 : Nat} {P : List RN} {y : RN} : rootsOf n0 (P ++ [y]) = if y.2.2 = 0 then rootsOf n0 P ++ [n0 + P.length] else rootsOf n0 P := by
  unfold rootsOf
  rw [fbL_snoc]
  show (if y.2.2 = 0 then (fbL P).1 ++ [P.length] else (fbL P).1).map (fun k => n0 + k) = _
  by_cases h : y.2.2 = 0
  · rw [if_pos h, if_pos h, List.map_append]; rfl
  · rw [if_neg h, if_neg h]
