/-! what the reference tells -/
theorem toInt_nI {x : Int32} {w : Nat} (h : x.toInt = (w : Int)) (hw : w < 2 ^ 31) : x = nI w := Int32.toInt_inj.mp (h.trans (nI_toInt hw).symm)
section MTELL2
variable {E : EE} {Gd : Nat → Prop} {β : Nat → Nat} {qs ps : Nat → List Nat} {ml : RM} {bs : List Nat} {e0 o : Nat} {m : MS} {s : Nat → Int32}
theorem RelG.sizeA (hR : RelA E Gd β qs ps ml o m s) (hE : EOk E Gd) {e : Nat} (he : e < 80) (ha : 0 < eF s e 4) : cntF (subP s e) 80 = E.2.2.1 (β e) := by
  refine hR.2.2.2.1.size (z := fun e => E.2.2.1 (β e)) (fun x hx hxa => ?_) 80 e he (by omega) ha
  obtain ⟨l1, -, -, l4⟩ := hR.2.2.2.2.1 x hx (by omega) hxa
  have h := (hE _ l1).2.2.2.1
  rw [← l4, List.map_map] at h
  exact h
theorem RelG.allA (hR : RelA E Gd β qs ps ml o m s) (hE : EOk E Gd) : cntF (aliP s) 80 = mAll E m := by
  have hS := hR.2.2.2.1
  rw [hS.all]
  have h1 : (rts qs (bsOf ml)).map (fun p => cntF (subP s p) 80) = (rts qs (bsOf ml)).map (fun p => E.2.2.1 (β p)) := List.map_congr_left (fun p hp => by
    obtain ⟨p1, p2, -⟩ := hS.root.mp hp
    exact RelG.sizeA hR hE p1 p2)
  rw [h1]
  have h2 : ∀ h, h < 6 → ((qs h).map (fun p => E.2.2.1 (β p))).sum = ((m.2.2.2.1 h).map E.2.2.1).sum := fun h hh => by
    rw [← hR.2.2.2.2.2.1 h hh, List.map_map]
    rfl
  have h3 : ((bsOf ml).map (fun p => E.2.2.1 (β p))).sum = sumM E m.2.2.2.2 := by
    have hp : sumM E m.2.2.2.2 = sumM E (ml.map Prod.fst) := by
      rw [hR.2.2.2.2.2.2.2.2]
      unfold sumM
      exact ((isort_perm _).map _).sum_nat
    rw [hp]
    have hb := hR.2.2.2.2.2.2.2.1
    clear hp hR h1 h2 hS
    induction ml with
    | nil => rfl
    | cons y t ih =>
      have ht := ih (fun z hz => hb z (List.mem_cons_of_mem _ hz))
      have e1 : sumM E ((y :: t).map Prod.fst) = sz E y.1.2 + sumM E (t.map Prod.fst) := by
        unfold sumM
        rw [List.map_cons, List.map_cons, List.sum_cons]
      rw [e1]
      rcases hb y List.mem_cons_self with ⟨b1, b2⟩ | ⟨e, b1, b2⟩
      · rw [bsOf_cons0 b2, ht, b1]
        show _ = 0 + _
        omega
      · rw [bsOf_cons1 b1, List.map_cons, List.sum_cons, ht, b2]
        rfl
  unfold rts mAll
  rw [sumQ_s6]
  simp only [List.map_append, List.sum_append]
  rw [h3, h2 0 (by omega), h2 1 (by omega), h2 2 (by omega), h2 3 (by omega), h2 4 (by omega), h2 5 (by omega)]
  rfl
/-- arrivals far from the edge -/
def ArrB (ml : RM) : Prop := ∀ y ∈ ml, ∃ a, a < 2 ^ 30 ∧ y.1.1 4 = nI a
theorem rkP_rkQ (hR : RelG E Gd β qs ps ml bs e0 o m s) (hB : ArrB ml) {j k : Nat} (hj : j < ml.length) (hk : k < ml.length) : rkP s j k = rkQ (ml.map Prod.fst) j k := by
  have g : ∀ q, q < ml.length → ∃ a, a < 2 ^ 30 ∧ gF s q 4 = nI a ∧ lA (ml.map Prod.fst) q = nI a := fun q hq => by
    have hq' : ml[q]? = some ml[q] := List.getElem?_eq_getElem hq
    obtain ⟨a, a1, a2⟩ := hB _ (List.getElem_mem hq)
    refine ⟨a, a1, by rw [(hR.2.2.2.2.2.2.1.2.2 q _ hq').1 4 (by omega)]; exact a2, ?_⟩
    rw [lA_some (x := ml[q].1) (by rw [List.getElem?_map, hq']; rfl)]
    exact a2
  obtain ⟨a, a1, a2, a3⟩ := g k hk
  obtain ⟨b, b1, b2, b3⟩ := g j hj
  unfold rkP rkQ
  rw [a2, b2, a3, b3]
  have e1 : (nI a - nI b < 0) ↔ nI a < nI b := by
    rw [nI_ltI (by omega) (by omega)]
    constructor
    · intro h
      rcases Nat.lt_or_ge a b with q | q
      · exact q
      · rw [pk_sub q] at h
        exact absurd h (nI_pos (by omega))
    · exact fun h => pk_sneg b1 h
  have e2 : (nI a - nI b = 0) ↔ nI a = nI b := by
    rw [nI_eq (by omega) (by omega)]
    constructor
    · intro h
      rcases Nat.lt_or_ge a b with q | q
      · have := pk_sneg b1 q
        rw [h] at this
        exact absurd this (by decide)
      · rw [pk_sub q] at h
        have := (nI_eq (b := 0) (by omega) (by omega)).mp h
        omega
    · intro h
      subst h
      exact Int32.sub_self _
  exact decide_eq_decide.mpr (by rw [e1, e2])
theorem RelG.rank (hR : RelG E Gd β qs ps ml bs e0 o m s) (hB : ArrB ml) {q : Nat} (hq : q < 2 ^ 31) : (rkd s ml.length (nI q) = none ∧ m.2.2.2.2[q]? = none) ∨ ∃ j y, rkd s ml.length (nI q) = some j ∧ ml[j]? = some y ∧ m.2.2.2.2[q]? = some y.1 ∧ isort ((ml.eraseIdx j).map Prod.fst) = m.2.2.2.2.eraseIdx q := by
  have h144 := hR.2.2.2.2.2.2.1.2.1
  have hms := hR.2.2.2.2.2.2.2.2
  have hcnt : ∀ j, j < ml.length → cntF (rkP s j) ml.length = rkL (ml.map Prod.fst) j := fun j hj => by
    unfold rkL
    rw [List.length_map]
    exact cnt_congr _ (fun k hk => rkP_rkQ hR hB hj hk)
  obtain ⟨f1, f2⟩ := fnd_spec (fun m => decide (nI (cntF (rkP s m) ml.length) = nI q)) ml.length 0
  have hrl : ∀ j, j < ml.length → rkL (ml.map Prod.fst) j < ml.length := fun j hj => by
    have := rkL_lt (l := ml.map Prod.fst) (m := j) (by rw [List.length_map]; exact hj)
    rw [List.length_map] at this
    exact this
  unfold rkd
  cases hf : fndF (fun m => decide (nI (cntF (rkP s m) ml.length) = nI q)) ml.length 0 with
  | none =>
    refine Or.inl ⟨rfl, ?_⟩
    rw [List.getElem?_eq_none_iff]
    rcases Nat.lt_or_ge q ml.length with c | c
    · obtain ⟨j, j1, j2⟩ := rkL_all (ml.map Prod.fst) q (by rw [List.length_map]; exact c)
      rw [List.length_map] at j1
      exact absurd (decide_eq_true (by rw [hcnt j j1, j2])) (f1 hf j (Nat.zero_le _) (by omega))
    · rw [hR.len]; exact c
  | some j =>
    obtain ⟨j1, -, j2⟩ := f2 j hf
    have j2 : j < ml.length := by omega
    have j1 := of_decide_eq_true j1
    have hr := hrl j j2
    rw [hcnt j j2, nI_eq (by omega) hq] at j1
    have hy : ml[j]? = some ml[j] := List.getElem?_eq_getElem j2
    obtain ⟨A, B, a1, a2, a3, -⟩ := isort_split (ml.map Prod.fst) j ml[j].1 (by rw [List.getElem?_map, hy]; rfl)
    refine Or.inr ⟨j, ml[j], rfl, hy, ?_, ?_⟩
    · rw [hms, a1, ← j1, ← a3, List.getElem?_append_right (Nat.le_refl _), Nat.sub_self]
      rfl
    · rw [erase_map, a2, hms, a1, ← j1, ← a3, List.eraseIdx_append_of_length_le (Nat.le_refl _), Nat.sub_self]
      rfl
theorem sumG_perm {l l' : List Mg} (h : List.Perm l l') : sumG l = sumG l' := by
  induction h with
  | nil => rfl
  | cons x _ ih => show x.1 3 + _ = x.1 3 + _; rw [ih]
  | swap x y l =>
    show y.1 3 + (x.1 3 + sumG l) = x.1 3 + (y.1 3 + sumG l)
    rw [← Int32.add_assoc, ← Int32.add_assoc, Int32.add_comm (y.1 3)]
  | trans _ _ i1 i2 => exact i1.trans i2
theorem gsum_sumG (l : List Mg) : gsum l = sumG l := by
  have : ∀ (l : List Mg) (a : Int32), l.foldl (fun a x => a + x.1 3) a = a + sumG l := by
    intro l
    induction l with
    | nil => intro a; exact (Int32.add_zero a).symm
    | cons x t ih =>
      intro a
      show t.foldl _ (a + x.1 3) = a + (x.1 3 + sumG t)
      rw [ih, Int32.add_assoc]
  exact (this l 0).trans (Int32.zero_add _)
theorem sumG_snoc (l : List Mg) (x : Mg) : sumG (l ++ [x]) = sumG l + x.1 3 := by
  rw [← gsum_sumG, ← gsum_sumG]
  unfold gsum
  rw [List.foldl_append]
  rfl
theorem RelG.grains (hR : RelG E Gd β qs ps ml bs e0 o m s) : gwF s ml.length = gsum m.2.2.2.2 := by
  have key : ∀ c, c ≤ ml.length → gwF s c = sumG ((ml.map Prod.fst).take c) := by
    intro c
    induction c with
    | zero => intro _; rfl
    | succ c ih =>
      intro hc
      have hy : ml[c]? = some ml[c] := List.getElem?_eq_getElem (by omega)
      have hyf : (ml.map Prod.fst)[c]? = some ml[c].1 := by rw [List.getElem?_map, hy]; rfl
      show gwF s c + gF s c 3 = _
      rw [List.take_succ, hyf, ih (by omega), (hR.2.2.2.2.2.2.1.2.2 c _ hy).1 3 (by omega)]
      exact (sumG_snoc _ _).symm
  rw [key ml.length (Nat.le_refl _), gsum_sumG, hR.2.2.2.2.2.2.2.2, sumG_perm (isort_perm _)]
  congr 1
  rw [← List.length_map (as := ml) Prod.fst, List.take_length]
theorem RelG.busy (hR : RelG E Gd β qs ps ml bs e0 o m s) : smF s 0 6 = cntB m.2.2.1 6 := by
  have key : ∀ c, c ≤ 6 → smF s 0 c = cntB m.2.2.1 c := by
    intro c
    induction c with
    | zero => intro _; rfl
    | succ c ih =>
      intro hc
      have g0 : hF s c 0 = m.2.2.1 c 0 := (hR.2.2.1 c (by omega)).1 0 (by omega)
      show smF s 0 c + hF s c 0 = if m.2.2.1 c 0 = 0 then cntB m.2.2.1 c else cntB m.2.2.1 c + 1
      rw [ih (by omega), g0]
      rcases (hR.2.2.1 c (by omega)).2.2.1 with q | q
      · rw [q, if_pos rfl]; exact Int32.add_zero _
      · rw [q, if_neg (by decide)]
  exact key 6 (Nat.le_refl _)
theorem RelG.sumHs (hR : RelG E Gd β qs ps ml bs e0 o m s) : smF s 1 6 = sumH m.2.2.1 1 6 := by
  have key : ∀ c, c ≤ 6 → smF s 1 c = sumH m.2.2.1 1 c := by
    intro c
    induction c with
    | zero => intro _; rfl
    | succ c ih =>
      intro hc
      have g0 : hF s c 1 = m.2.2.1 c 1 := (hR.2.2.1 c (by omega)).1 1 (by omega)
      show smF s 1 c + hF s c 1 = sumH m.2.2.1 1 c + m.2.2.1 c 1
      rw [ih (by omega), g0]
  exact key 6 (Nat.le_refl _)
theorem RelG.idle (hR : RelG E Gd β qs ps ml bs e0 o m s) : idF s ml.length = mIdle m := by
  have key : ∀ c, c ≤ ml.length → idF s c = (decide (cntB m.2.2.1 6 = 0) && mIdleM ((ml.map Prod.fst).take c)) := by
    intro c
    induction c with
    | zero =>
      intro _
      show decide (smF s 0 6 = 0) = _
      rw [hR.busy]
      exact (Bool.and_true _).symm
    | succ c ih =>
      intro hc
      have hy : ml[c]? = some ml[c] := List.getElem?_eq_getElem (by omega)
      have hyf : (ml.map Prod.fst)[c]? = some ml[c].1 := by rw [List.getElem?_map, hy]; rfl
      show (idF s c && decide (gF s c 0 = 3)) = _
      rw [List.take_succ, hyf, ih (by omega), (hR.2.2.2.2.2.2.1.2.2 c _ hy).1 0 (by omega), Bool.and_assoc]
      unfold mIdleM
      rw [List.all_append]
      congr 2
      exact (Bool.and_true _).symm
  rw [key ml.length (Nat.le_refl _)]
  unfold mIdle
  rw [hR.2.2.2.2.2.2.2.2]
  congr 1
  unfold mIdleM
  rw [(isort_perm _).all_eq, ← List.length_map (as := ml) Prod.fst, List.take_length]
end MTELL2
