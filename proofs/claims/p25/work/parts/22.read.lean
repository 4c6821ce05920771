/-! READING, a sign at a time: errands so far (house, work, depth), the present depth, what is due -/
abbrev RN : Type := Nat × Nat × Nat
abbrev RS : Type := List RN × Nat × Nat
def deps (L : List RN) : List Nat := L.map (fun y => y.2.2)
def fbL (L : List RN) : FB := fbOf (deps L)
def mL (L : List RN) : Nat := match L.getLast? with
  | none => 0
  | some y => y.2.2 + 1
def setW (L : List RN) (w : Nat) : List RN := L.dropLast ++ (match L.getLast? with
  | none => []
  | some y => [(y.1, w, y.2.2)])
def rAfter (s : RS) (x : Int32) : Option RS := if x = 41 ∧ 0 < s.2.1 then some (s.1, s.2.1 - 1, 4) else if (s.2.1 = 0 ∧ x = 59) ∨ (¬ s.2.1 = 0 ∧ x = 44) then some (s.1, s.2.1, 0) else none
def lastW (L : List RN) : Nat := match L.getLast? with
  | none => 0
  | some y => y.2.1
def rDigit (s : RS) (x : Int32) : Option RS := if 48 ≤ x ∧ x ≤ 57 ∧ lastW s.1 * 10 + (x - 48).toNatClampNeg ≤ 20 then some (setW s.1 (lastW s.1 * 10 + (x - 48).toNatClampNeg), s.2.1, 3) else none
def rstep (s : RS) (x : Int32) : Option RS :=
  if s.2.2 = 0 then (if 48 ≤ x ∧ x < 54 then some (s.1 ++ [((x - 48).toNatClampNeg, 0, s.2.1)], s.2.1, 1) else none)
  else if s.2.2 = 1 then (if x = 58 then some (s.1, s.2.1, 2) else none)
  else if s.2.2 = 2 then rDigit s x
  else if s.2.2 = 3 then (if x = 40 then some (s.1, s.2.1 + 1, 0) else if 48 ≤ x ∧ x ≤ 57 then (if lastW s.1 = 0 then none else rDigit s x) else rAfter s x)
  else rAfter s x
def RInv (s : RS) (p : Nat) : Prop := FI (fbL s.1) s.1.length (mL s.1) ∧ (∀ y ∈ s.1, y.1 < 6 ∧ y.2.1 ≤ 20 ∧ y.2.2 < s.1.length) ∧
  ((s.2.2 = 0 ∧ s.2.1 ≤ mL s.1 ∧ 4 * s.1.length ≤ p) ∨ (s.2.2 = 1 ∧ mL s.1 = s.2.1 + 1 ∧ 4 * s.1.length ≤ p + 3) ∨ (s.2.2 = 2 ∧ mL s.1 = s.2.1 + 1 ∧ 4 * s.1.length ≤ p + 2) ∨ (s.2.2 = 3 ∧ mL s.1 = s.2.1 + 1 ∧ 4 * s.1.length ≤ p + 1) ∨ (s.2.2 = 4 ∧ s.2.1 < mL s.1 ∧ 4 * s.1.length ≤ p))
theorem mL_snoc (L : List RN) (y : RN) : mL (L ++ [y]) = y.2.2 + 1 := by unfold mL; rw [List.getLast?_append]; rfl
theorem lastW_snoc (L : List RN) (y : RN) : lastW (L ++ [y]) = y.2.1 := by unfold lastW; rw [List.getLast?_append]; rfl
theorem setW_snoc (L : List RN) (y : RN) (w : Nat) : setW (L ++ [y]) w = L ++ [(y.1, w, y.2.2)] := by
  unfold setW
  rw [List.getLast?_append, List.dropLast_concat]
  rfl
theorem fbL_snoc (L : List RN) (y : RN) : fbL (L ++ [y]) = addN (fbL L) L.length y.2.2 := by
  unfold fbL deps
  rw [List.map_append, List.map_singleton, fb_snoc, List.length_map]
theorem snoc_of {L : List RN} (h : 0 < mL L) : ∃ L' y, L = L' ++ [y] ∧ mL L = y.2.2 + 1 := by
  rcases List.eq_nil_or_concat L with q | ⟨L', y, q⟩
  · subst q; simp [mL] at h
  · rw [List.concat_eq_append] at q
    exact ⟨L', y, q, by rw [q]; exact mL_snoc L' y⟩
theorem fbL_setW (L : List RN) (w : Nat) : fbL (setW L w) = fbL L ∧ mL (setW L w) = mL L ∧ (setW L w).length = L.length := by
  rcases List.eq_nil_or_concat L with q | ⟨L', y, q⟩
  · subst q; exact ⟨rfl, rfl, rfl⟩
  · rw [List.concat_eq_append] at q
    subst q
    rw [setW_snoc]
    refine ⟨?_, by rw [mL_snoc, mL_snoc], by simp⟩
    rw [fbL_snoc, fbL_snoc]
theorem dig_of {x : Int32} {b : Nat} (h1 : 48 ≤ x) (h2 : x ≤ nI b) (hb : b < 2 ^ 31) : ∃ c, 48 ≤ c ∧ c ≤ b ∧ x = nI c ∧ x - 48 = nI (c - 48) ∧ (x - 48).toNatClampNeg = c - 48 := by
  have h0 : ¬ x < 0 := fun q => absurd (Int32.le_trans h1 (Int32.le_of_lt q)) (by decide)
  obtain ⟨c, hc, rfl⟩ := nI_of h0
  have g1 : 48 ≤ c := (nI_leI (a := 48) (by omega) hc).mp h1
  have g2 : c ≤ b := (nI_leI hc hb).mp h2
  have e : nI c - 48 = nI (c - 48) := pk_sub (b := 48) g1
  exact ⟨c, g1, g2, rfl, e, by rw [e]; exact nI_clamp (by omega)⟩
theorem rstep_inv {s s' : RS} {x : Int32} {p : Nat} (h : RInv s p) (hs : rstep s x = some s') : RInv s' (p + 1) := by
  obtain ⟨L, d, due⟩ := s
  obtain ⟨h1, h2, h3⟩ := h
  have after : ∀ (s'' : RS), rAfter (L, d, due) x = some s'' → (due = 3 ∧ mL L = d + 1 ∧ 4 * L.length ≤ p + 1) ∨ (due = 4 ∧ d < mL L ∧ 4 * L.length ≤ p) → RInv s'' (p + 1) := by
    intro s'' hs'' hc
    unfold rAfter at hs''
    split at hs''
    · rename_i q
      cases hs''
      have q2 : 0 < d := q.2
      refine ⟨h1, h2, Or.inr (Or.inr (Or.inr (Or.inr ⟨rfl, ?_, ?_⟩)))⟩
      · show d - 1 < mL L; omega
      · show 4 * L.length ≤ p + 1; omega
    · split at hs''
      · cases hs''
        refine ⟨h1, h2, Or.inl ⟨rfl, ?_, ?_⟩⟩
        · show d ≤ mL L; omega
        · show 4 * L.length ≤ p + 1; omega
      · cases hs''
  have digit : ∀ (s'' : RS), rDigit (L, d, due) x = some s'' → (due = 2 ∧ mL L = d + 1 ∧ 4 * L.length ≤ p + 2) ∨ (due = 3 ∧ mL L = d + 1 ∧ 4 * L.length ≤ p + 1) → RInv s'' (p + 1) := by
    intro s'' hs'' hc
    unfold rDigit at hs''
    split at hs''
    · rename_i q
      cases hs''
      have q3 : lastW L * 10 + (x - 48).toNatClampNeg ≤ 20 := q.2.2
      obtain ⟨e1, e2, e3⟩ := fbL_setW L (lastW L * 10 + (x - 48).toNatClampNeg)
      refine ⟨?_, ?_, Or.inr (Or.inr (Or.inr (Or.inl ⟨rfl, ?_, ?_⟩)))⟩
      · show FI (fbL (setW L _)) (setW L _).length (mL (setW L _))
        rw [e1, e2, e3]; exact h1
      · intro y hy
        obtain ⟨L', z, hz, -⟩ := snoc_of (L := L) (by omega)
        have hy : y ∈ setW L (lastW L * 10 + (x - 48).toNatClampNeg) := hy
        rw [hz, setW_snoc, ← hz] at hy
        have el : (setW L (lastW L * 10 + (x - 48).toNatClampNeg)).length = L.length := e3
        show y.1 < 6 ∧ y.2.1 ≤ 20 ∧ y.2.2 < (setW L (lastW L * 10 + (x - 48).toNatClampNeg)).length
        rw [el]
        rcases List.mem_append.mp hy with a | a
        · exact h2 y (by show y ∈ L; rw [hz]; exact List.mem_append_left _ a)
        · rw [List.mem_singleton.mp a]
          have hz2 := h2 z (by show z ∈ L; rw [hz]; exact List.mem_append_right _ List.mem_cons_self)
          exact ⟨hz2.1, q3, hz2.2.2⟩
      · show mL (setW L _) = d + 1; rw [e2]; omega
      · show 4 * (setW L _).length ≤ p + 1 + 1; rw [e3]; omega
    · cases hs''
  unfold rstep at hs
  dsimp only at hs h3
  by_cases c0 : due = 0
  · rw [if_pos c0] at hs
    split at hs
    · rename_i q
      cases hs
      obtain ⟨c, g1, g2, g3, g4, g5⟩ := dig_of (b := 53) q.1 (by
        have := q.2
        rw [Int32.lt_iff_toInt_lt] at this
        rw [Int32.le_iff_toInt_le]
        have e1 : (54 : Int32).toInt = 54 := by decide
        have e2 : (nI 53).toInt = 53 := by decide
        omega) (by omega)
      have hd : d ≤ mL L := by omega
      refine ⟨?_, ?_, Or.inr (Or.inl ⟨rfl, ?_, ?_⟩)⟩
      · show FI (fbL (L ++ [_])) (L ++ [_]).length (mL (L ++ [_]))
        rw [fbL_snoc, mL_snoc, List.length_append]
        exact h1.add hd
      · intro y hy
        have hmc := h1.2.2.2.2.2.2.2.2.2.2.2.2
        have hmc : mL L ≤ L.length := hmc
        show y.1 < 6 ∧ y.2.1 ≤ 20 ∧ y.2.2 < (L ++ [_]).length
        rw [List.length_append]
        rcases List.mem_append.mp hy with a | a
        · have h2y : y.1 < 6 ∧ y.2.1 ≤ 20 ∧ y.2.2 < L.length := h2 y a
          exact ⟨h2y.1, h2y.2.1, by omega⟩
        · rw [List.mem_singleton.mp a]
          exact ⟨by show (x - 48).toNatClampNeg < 6; rw [g5]; omega, by show 0 ≤ 20; omega, by show d < L.length + 1; omega⟩
      · show mL (L ++ [_]) = d + 1; rw [mL_snoc]
      · show 4 * (L ++ [_]).length ≤ p + 1 + 3; rw [List.length_append]; simp; omega
    · cases hs
  rw [if_neg c0] at hs
  by_cases c1 : due = 1
  · rw [if_pos c1] at hs
    split at hs
    · cases hs
      exact ⟨h1, h2, Or.inr (Or.inr (Or.inl ⟨rfl, by show mL L = d + 1; omega, by show 4 * L.length ≤ p + 1 + 2; omega⟩))⟩
    · cases hs
  rw [if_neg c1] at hs
  by_cases c2 : due = 2
  · rw [if_pos c2] at hs
    exact digit s' hs (by omega)
  rw [if_neg c2] at hs
  by_cases c3 : due = 3
  · rw [if_pos c3] at hs
    split at hs
    · cases hs
      exact ⟨h1, h2, Or.inl ⟨rfl, by show d + 1 ≤ mL L; omega, by show 4 * L.length ≤ p + 1; omega⟩⟩
    · split at hs
      · split at hs
        · cases hs
        · exact digit s' hs (by omega)
      · exact after s' hs (by omega)
  · rw [if_neg c3] at hs
    exact after s' hs (by omega)
/-! what the reader's cells hold -/
def mxd (L : List RN) : Nat := (L.map (fun y => y.2.2 + 1)).foldl max 0
def swk (L : List RN) : Nat := (L.map (fun y => y.2.1)).sum
def mxP (f : FB) (c : Nat) : Nat := ((List.range c).map (fun q => (f.2.1 q).length)).foldl max 0
theorem fmax_le (l : List Nat) (v : Nat) : ∀ (x : Nat), x ∈ l → x ≤ l.foldl max v := by
  have hv : ∀ (l : List Nat) (v : Nat), v ≤ l.foldl max v := by
    intro l
    induction l with
    | nil => intro v; exact Nat.le_refl v
    | cons a t ih => intro v; exact Nat.le_trans (Nat.le_max_left v a) (ih _)
  induction l generalizing v with
  | nil => intro x hx; cases hx
  | cons a t ih =>
    intro x hx
    rcases List.mem_cons.mp hx with rfl | q
    · exact Nat.le_trans (Nat.le_max_right v x) (hv t _)
    · exact ih _ x q
theorem fmax_mem (l : List Nat) (v : Nat) : l.foldl max v = v ∨ l.foldl max v ∈ l := by
  induction l generalizing v with
  | nil => exact Or.inl rfl
  | cons a t ih =>
    show t.foldl max (max v a) = v ∨ t.foldl max (max v a) ∈ a :: t
    rcases ih (max v a) with q | q
    · rw [q]
      rcases Nat.le_total v a with h | h
      · rw [Nat.max_eq_right h]; exact Or.inr List.mem_cons_self
      · rw [Nat.max_eq_left h]; exact Or.inl rfl
    · exact Or.inr (List.mem_cons_of_mem _ q)
theorem fmax_eq {l : List Nat} {v : Nat} (h1 : ∀ x, x ∈ l → x ≤ v) (h2 : v = 0 ∨ v ∈ l) : l.foldl max 0 = v := by
  have a := fmax_mem l 0
  have b := fmax_le l 0
  apply Nat.le_antisymm
  · rcases a with q | q
    · omega
    · exact h1 _ q
  · rcases h2 with q | q
    · omega
    · exact b v q
theorem mxd_snoc (L : List RN) (y : RN) : mxd (L ++ [y]) = max (mxd L) (y.2.2 + 1) := by
  unfold mxd
  rw [List.map_append, List.foldl_append]
  rfl
theorem i32_max {a b : Nat} (ha : a < 2 ^ 31) (hb : b < 2 ^ 31) : (if nI a < nI b then nI b else nI a) = nI (max a b) := by
  by_cases h : a < b
  · rw [if_pos ((nI_ltI ha hb).mpr h), Nat.max_eq_right (by omega)]
  · rw [if_neg (fun q => h ((nI_ltI ha hb).mp q)), Nat.max_eq_left (by omega)]
def Node (n0 : Nat) (f : FB) (i : IP) (r : RP) (q : Nat) (y : RN) : Prop := i (n0 + q) 0 = nI y.1 ∧ i (n0 + q) 1 = nI y.2.1 ∧ i (n0 + q) 2 = nI (f.2.1 q).length ∧ i (n0 + q) 3 = nI (f.2.2.1 q) ∧ Kid r (r (n0 + q) 4) ((f.2.1 q).map (fun k => n0 + k)) ∧ r (n0 + q) 5 = ((f.2.1 q).getLast?).map (fun k => n0 + k)
def RdRep (G : GG) (n0 Rd : Nat) (s : RS) (n : Nat) (i : IP) (r : RP) : Prop :=
  n = n0 + s.1.length ∧ RdL G n Rd r ∧ (∀ a, n0 ≤ a → (G.2.1 a).1 = 0) ∧ G.1 ≤ n0 ∧
  (i Rd 1 = nI (fbL s.1).1.length ∧ i Rd 3 = nI s.2.1 ∧ i Rd 4 = nI s.2.2 ∧ i Rd 5 = nI s.1.length ∧ i Rd 6 = nI (swk s.1) ∧ i Rd 7 = nI (mxd s.1) ∧ i Rd 8 = nI (mxP (fbL s.1) s.1.length)) ∧
  (∀ (k a : Nat), (fbL s.1).1[k]? = some a → r (Rd + 1) k = some (n0 + a)) ∧
  (∀ e, e < (if s.2.2 = 0 then s.2.1 else s.2.1 + 1) → r (Rd + 2) e = some (n0 + (fbL s.1).2.2.2 e)) ∧
  ∀ q y, s.1[q]? = some y → Node n0 (fbL s.1) i r q y
/-- what reading leaves as it was -/
def OutR (n0 Rd : Nat) (i : IP) (r : RP) (i' : IP) (r' : RP) : Prop := ∀ a, a < n0 → a ≠ Rd → a ≠ Rd + 1 → a ≠ Rd + 2 → i' a = i a ∧ r' a = r a
theorem OutR.rf {n0 Rd : Nat} {i : IP} {r : RP} : OutR n0 Rd i r i r := fun _ _ _ _ _ => ⟨rfl, rfl⟩
theorem OutR.tr {n0 Rd : Nat} {i i1 i2 : IP} {r r1 r2 : RP} (h1 : OutR n0 Rd i r i1 r1) (h2 : OutR n0 Rd i1 r1 i2 r2) : OutR n0 Rd i r i2 r2 := fun a a1 a2 a3 a4 => ⟨(h2 a a1 a2 a3 a4).1.trans (h1 a a1 a2 a3 a4).1, (h2 a a1 a2 a3 a4).2.trans (h1 a a1 a2 a3 a4).2⟩
theorem Kid.same6 {r r' : RP} {q : List Nat} {o : Option Nat} (h : Kid r o q) (hs : ∀ b ∈ q, r' b 6 = r b 6) : Kid r' o q := by
  induction q generalizing o with
  | nil => exact h
  | cons b q ih =>
    obtain ⟨h1, h2⟩ := h
    refine ⟨h1, ?_⟩
    rw [hs b List.mem_cons_self]
    exact ih h2 (fun c hc => hs c (List.mem_cons_of_mem _ hc))
theorem Kid.snoc {r r' : RP} {q : List Nat} {o : Option Nat} {e c : Nat} (h : Kid r o (q ++ [e])) (hs : ∀ b ∈ q, r' b 6 = r b 6) (he : r' e 6 = some c) (hc : r' c 6 = none) : Kid r' o (q ++ [e] ++ [c]) := by
  induction q generalizing o with
  | nil => exact ⟨h.1, by rw [he]; exact ⟨rfl, hc⟩⟩
  | cons b q ih =>
    obtain ⟨h1, h2⟩ := h
    refine ⟨h1, ?_⟩
    rw [hs b List.mem_cons_self]
    exact ih h2 (fun c hc => hs c (List.mem_cons_of_mem _ hc))
section READ
variable {l : Launch} {G : GG} {n : Nat} {i : IP} {r : RP} {Rd : Nat}
theorem c_putRoot {N c : Nat} (hL : RdL G n Rd r) (hd : i Rd 3 = 0) (hc : i Rd 1 = nI c) (hc15 : c < 15) (hN : Ok G n N 0) : Go l G mX3_putInPlace 1 0 0 0 (lentry [.ref Rd, .ref N] 3) [] n i r (fun v n' i' r' => v = some (.int 1) ∧ n' = n ∧ i' = ups i Rd 1 (nI (c + 1)) ∧ r' = ups r (Rd + 1) c (some N)) := by
  obtain ⟨hRd, hhd, hlt, e0, e2⟩ := hL
  refine go_aload_n (z := 1) dX3_putInPlace_0 rfl rfl ?_
  refine go_getI (z := 4) dX3_putInPlace_1 rfl fX3_24 (by assumption) rfl ?_
  rw [hd]
  refine go_if_ne (z := 43) (z2 := 7) dX3_putInPlace_4 rfl (by decide) (fun h => absurd rfl h) (fun _ => ?_)
  refine go_aload_n (z := 8) dX3_putInPlace_7 rfl rfl ?_
  refine go_getI (z := 11) dX3_putInPlace_8 rfl fX3_20 (by assumption) rfl ?_
  refine go_aload_n (z := 12) dX3_putInPlace_11 rfl rfl ?_
  refine go_getR (z := 15) dX3_putInPlace_12 rfl fX3_11 (by assumption) rfl (by assumption) ?_
  refine go_alen (z := 16) (by assumption) (by decide) dX3_putInPlace_15 rfl ?_
  refine go_icmp_lt (z := 21) (z2 := 19) dX3_putInPlace_16 rfl (by decide) (fun _ => ?_) (fun h => absurd (by rw [hc]; exact nI_lt hc15 (by omega)) h)
  refine go_aload_n (z := 22) dX3_putInPlace_21 rfl rfl ?_
  refine go_getR (z := 25) dX3_putInPlace_22 rfl fX3_11 (by assumption) rfl (by assumption) ?_
  refine go_aload_n (z := 26) dX3_putInPlace_25 rfl rfl ?_
  refine go_getI (z := 29) dX3_putInPlace_26 rfl fX3_20 (by assumption) rfl ?_
  refine go_aload_n (z := 30) dX3_putInPlace_29 rfl rfl ?_
  refine go_aastR (z := 31) c hhd ⟨by decide, by decide⟩ (by decide) hc (by omega) hN (by decide) rfl dX3_putInPlace_30 rfl ?_
  refine go_aload_n (z := 32) dX3_putInPlace_31 rfl rfl ?_
  refine go_dup (z := 33) dX3_putInPlace_32 rfl rfl ?_
  refine go_getI (z := 36) dX3_putInPlace_33 rfl fX3_20 (by assumption) rfl ?_
  refine go_iconst (z := 37) (v := 1) dX3_putInPlace_36 rfl (by decide) ?_
  refine go_iadd (z := 38) dX3_putInPlace_37 rfl ?_
  refine go_putI (z := 41) dX3_putInPlace_38 rfl fX3_20 (by assumption) rfl (Or.inl rfl) rfl ?_
  refine go_iconst (z := 42) (v := 1) dX3_putInPlace_41 rfl (by decide) ?_
  refine go_zret dX3_putInPlace_42 rfl (congrArg Value.int (by decide)) ?_
  exact ⟨rfl, rfl, by rw [hc]; exact congrArg _ (nI_1 c), rfl⟩
theorem c_putPart {N d P : Nat} {A : Nat → Nat} (hL : RdL G n Rd r) (hd : i Rd 3 = nI d) (hd0 : 0 < d) (hd15 : d < 15) (hA : ∀ e, e < d → r (Rd + 2) e = some (A e) ∧ Ok G n (A e) 0) (hinj : ∀ e f, e < d → f < d → A e = A f → e = f) (hP : A (d - 1) = P) (hN : Ok G n N 0) (hl : ∀ q, r P 5 = some q → Ok G n q 0) : Go l G mX3_putInPlace 1 0 0 0 (lentry [.ref Rd, .ref N] 3) [] n i r (fun v n' i' r' => v = some (.int 1) ∧ n' = n ∧ ((r P 5 = none ∧ r' = ups (ups r P 4 (some N)) P 5 (some N)) ∨ (∃ q, r P 5 = some q ∧ r' = ups (ups r q 6 (some N)) P 5 (some N))) ∧ ∃ i2, i2 = ups (ups i P 2 (i P 2 + 1)) Rd 8 (if i Rd 8 < i P 2 + 1 then i P 2 + 1 else i Rd 8) ∧ (∀ a k, k ≠ 3 → i' a k = i2 a k) ∧ (∀ a, (∀ e, e < d → A e ≠ a) → i' a = i2 a) ∧ ∀ e, e < d → i' (A e) 3 = i2 (A e) 3 + 1) := by
  have hL0 := hL
  obtain ⟨hRd, hhd, hlt, e0, e2⟩ := hL
  obtain ⟨hP1, hP2⟩ := hA (d - 1) (by omega)
  rw [hP] at hP1 hP2
  have hPR : Rd ≠ P := tag_ne hRd hP2 (by decide)
  refine go_aload_n (z := 1) dX3_putInPlace_0 rfl rfl ?_
  refine go_getI (z := 4) dX3_putInPlace_1 rfl fX3_24 (by assumption) rfl ?_
  rw [hd]
  refine go_if_ne (z := 43) (z2 := 7) dX3_putInPlace_4 rfl (by decide) (fun _ => ?_) (fun h => absurd h (nI_ne0 hd0 (by omega)))
  refine go_aload_n (z := 44) dX3_putInPlace_43 rfl rfl ?_
  refine go_getR (z := 47) dX3_putInPlace_44 rfl fX3_17 (by assumption) rfl (by assumption) ?_
  refine go_aload_n (z := 48) dX3_putInPlace_47 rfl rfl ?_
  refine go_getI (z := 51) dX3_putInPlace_48 rfl fX3_24 (by assumption) rfl ?_
  rw [hd]
  refine go_iconst (z := 52) (v := 1) dX3_putInPlace_51 rfl (by decide) ?_
  refine go_isub (z := 53) dX3_putInPlace_52 rfl ?_
  refine go_aaldR (z := 54) (d - 1) hlt ⟨by decide, by decide⟩ (by decide) (pk_sub (b := 1) (by omega)) (by omega) (by assumption) dX3_putInPlace_53 rfl ?_
  refine go_astore_n (z := 55) dX3_putInPlace_54 rfl (by decide) ?_
  refine go_aload_n (z := 56) dX3_putInPlace_55 rfl rfl ?_
  refine go_ifnonnull (a := some P) (z := 61) (z2 := 59) dX3_putInPlace_56 rfl (by decide) (fun b hb => ?_) (fun h => by cases h)
  clear hb b
  refine go_aload_n (z := 62) dX3_putInPlace_61 rfl rfl ?_
  refine go_aload_n (z := 63) dX3_putInPlace_62 rfl rfl ?_
  refine go_callV (z := 66) (t := 0) [.ref N] dX3_putInPlace_63 rfl mlX0_addPart vX3_71 ⟨by decide, rfl⟩ hP2 rfl rfl (by decide) (cat_r cat_nil) (by simp) (by decide) (by first | decide | omega) (by first | decide | omega) (c_addPart hP2 hN hl) ?_
  intro v n2 i1 r1 hp
  obtain ⟨p1, p2, p3, p4⟩ := hp
  subst v; subst n2; subst i1
  have hr1 : ∀ a k, k ≠ 4 → k ≠ 5 → k ≠ 6 → r1 a k = r a k := by
    intro a k k4 k5 k6
    rcases p4 with ⟨-, q⟩ | ⟨q, -, q2⟩
    · rw [q, ups_k k5, ups_k k4]
    · rw [q2, ups_k k5, ups_k k6]
  have hrow : ∀ a, (G.2.1 a).1 ≠ 0 → r1 a = r a := by
    intro a ha
    have haP : a ≠ P := fun q => ha (by rw [q]; exact hP2.2.2)
    rcases p4 with ⟨-, q⟩ | ⟨q, hq, q2⟩
    · rw [q, ups_row haP, ups_row haP]
    · rw [q2, ups_row haP, ups_row (fun w => ha (by rw [w]; exact (hl q hq).2.2))]
  have hL1 : RdL G n Rd r1 := ⟨hRd, hhd, hlt, by rw [hr1 Rd 0 (by decide) (by decide) (by decide)]; exact e0, by rw [hr1 Rd 2 (by decide) (by decide) (by decide)]; exact e2⟩
  have hlt1 : r1 (Rd + 2) = r (Rd + 2) := hrow _ (by rw [hlt.2.2]; decide)
  refine go_aload_n (z := 67) dX3_putInPlace_66 rfl rfl ?_
  refine go_aload_n (z := 68) dX3_putInPlace_67 rfl rfl ?_
  refine go_getI (z := 71) dX3_putInPlace_68 rfl fX3_39 (by assumption) rfl ?_
  refine go_aload_n (z := 72) dX3_putInPlace_71 rfl rfl ?_
  refine go_getI (z := 75) dX3_putInPlace_72 rfl fX3_75 hP2 rfl ?_
  refine go_max (z := 78) dX3_putInPlace_75 rfl xX3_65 (by simp) (by decide) rfl ?_
  rw [show ups i P 2 (i P 2 + 1) Rd 8 = i Rd 8 from ups_a hPR, show ups i P 2 (i P 2 + 1) P 2 = i P 2 + 1 from ups_s]
  have hd2 : ups (ups i P 2 (i P 2 + 1)) Rd 8 (if i Rd 8 < i P 2 + 1 then i P 2 + 1 else i Rd 8) Rd 3 = nI d := by rw [ups_k (by decide), ups_a hPR]; exact hd
  refine go_putI (z := 81) dX3_putInPlace_78 rfl fX3_39 (by assumption) rfl (Or.inl rfl) rfl ?_
  refine go_aload_n (z := 82) dX3_putInPlace_81 rfl rfl ?_
  refine go_callV (z := 85) (t := 3) [] dX3_putInPlace_82 rfl mlX3_countWithin vX3_78 ⟨by decide, rfl⟩ (by assumption) rfl rfl (by decide) cat_nil (by simp) (by decide) (by first | decide | omega) (by first | decide | omega) (c_countWithin hL1 hd2 (by omega) (fun e he => ⟨by rw [hlt1]; exact (hA e he).1, (hA e he).2⟩) hinj) ?_
  intro v n2 i2 r2 hp
  obtain ⟨q1, q2, q3, q4, q5, q6⟩ := hp
  rw [q1, q2, q3]
  refine go_iconst (z := 86) (v := 1) dX3_putInPlace_85 rfl (by decide) ?_
  exact go_zret dX3_putInPlace_86 rfl (congrArg Value.int (by decide)) ⟨rfl, rfl, p4, _, rfl, q4, q5, q6⟩
end READ
