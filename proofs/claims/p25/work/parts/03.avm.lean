/-! THE PURE HEAP. G = (base, types, script's cell, its length, its ints); n: the heap's size; i, r: the plane of ints, the plane of references (address, place). -/
abbrev GG : Type := Nat × (Nat → Nat × Nat) × Nat × Nat × (Nat → Int32)
abbrev IP : Type := Nat → Nat → Int32
abbrev RP : Type := Nat → Nat → Option Nat
abbrev QP : Type := Option Value → Nat → IP → RP → Prop
def cT : Nat → vw_C := fun t => match t with
  | 0 => (RX0, TX0, 7)
  | 1 => (RX1, TX1, 11)
  | 2 => (RX2, TX2, 6)
  | 3 => (RX3, TX3, 9)
  | 4 => (RX4, TX4, 14)
  | 5 => (RX5, TX5, 9)
  | _ => (RX6, TX6, 0)
def fT : Nat → Nat → FieldType := fun t k => match t with
  | 0 => tyX0 k
  | 1 => tyX1 k
  | 2 => tyX2 k
  | 3 => tyX3 k
  | 4 => tyX4 k
  | 5 => tyX5 k
  | 6 => tyX6 k
  | 7 => .int
  | 8 => .char
  | 9 => .object RX0
  | 10 => .object RX1
  | 11 => .object RX2
  | _ => .object RX4
def isR : FieldType → Bool
  | .object _ => true
  | .array _ => true
  | _ => false
def vl (t k : Nat) (x : Int32) (o : Option Nat) : Value := if isR (fT t k) = true then va_rf o else .int x
def nS (t : Nat × Nat) : Nat := if t.1 < 7 then (cT t.1).2.2 else t.2
def Cel (U : State) (H : Heap) (a : Nat) (t : Nat × Nat) (i : Nat → Int32) (r : Nat → Option Nat) : Prop :=
  (∀ k, k < nS t → isR (fT t.1 k) = false → narrow (fT t.1 k) (.int (i k)) = .int (i k)) ∧
  (t.1 < 7 → ∃ (cC : ClassId) (iS : Nat → Nat), u_Kn U (cT t.1).1 (cT t.1).2.1 (cT t.1).2.2 cC iS ∧ t_OB a cC (cT t.1).2.2 iS H (fun k => vl t.1 k (i k) (r k))) ∧
  (7 ≤ t.1 → ∃ cA : ClassId, H[a]? = some (arrV cA t.2 (fun k => vl t.1 k (i k) (r k))) ∧ ArrOfT U cA (fT t.1 0) ∧ va_RA U cA (fT t.1 0))
theorem Cel.moved {u U : State} {H : Heap} {a : Nat} {t : Nat × Nat} {i : Nat → Int32} {r : Nat → Option Nat} (hvm : u.vm.Alike U.vm) (h : Cel u H a t i r) : Cel U H a t i r := by
  obtain ⟨h1, h2, h3⟩ := h
  refine ⟨h1, fun ht => ?_, fun ht => ?_⟩
  · obtain ⟨cC, iS, a1, a2⟩ := h2 ht
    exact ⟨cC, iS, u_Kn_moved hvm a1, a2⟩
  · obtain ⟨cA, a1, a2, a3⟩ := h3 ht
    exact ⟨cA, a1, arrOfT_moved hvm a2, a3.moved hvm⟩
theorem Cel.kept {U : State} {H H1 : Heap} {a : Nat} {t : Nat × Nat} {i : Nat → Int32} {r : Nat → Option Nat} (h : Cel U H a t i r) (hq : H1[a]? = H[a]?) : Cel U H1 a t i r := by
  obtain ⟨h1, h2, h3⟩ := h
  refine ⟨h1, fun ht => ?_, fun ht => ?_⟩
  · obtain ⟨cC, iS, a1, a2⟩ := h2 ht
    exact ⟨cC, iS, a1, a2.kept hq⟩
  · obtain ⟨cA, a1, a2, a3⟩ := h3 ht
    exact ⟨cA, hq.trans a1, a2, a3⟩
def Abs (G : GG) (U : State) (H : Heap) (n : Nat) (i : IP) (r : RP) : Prop :=
  H.size = n ∧ G.1 ≤ n ∧ (∀ a, G.1 ≤ a → a < n → Cel U H a (G.2.1 a) (i a) (r a)) ∧ va_X G.2.2.1 G.2.2.2.1 G.2.2.2.2 U H ∧ G.2.2.1 < G.1
theorem Abs.moved {G : GG} {u U : State} {H : Heap} {n : Nat} {i : IP} {r : RP} (hvm : u.vm.Alike U.vm) (h : Abs G u H n i r) : Abs G U H n i r :=
  ⟨h.1, h.2.1, fun a h1 h2 => (h.2.2.1 a h1 h2).moved hvm, h.2.2.2.1.moved hvm, h.2.2.2.2⟩
def ups {α : Type} (f : Nat → Nat → α) (a k : Nat) (v : α) : Nat → Nat → α := fun a' k' => if a' = a ∧ k' = k then v else f a' k'
def upa {α : Type} (f : Nat → Nat → α) (a : Nat) (v : α) : Nat → Nat → α := fun a' k' => if a' = a then v else f a' k'
theorem ups_s {α : Type} {f : Nat → Nat → α} {a k : Nat} {v : α} : ups f a k v a k = v := by simp [ups]
theorem ups_a {α : Type} {f : Nat → Nat → α} {a k a' k' : Nat} {v : α} (h : a' ≠ a) : ups f a k v a' k' = f a' k' := by simp [ups, h]
theorem ups_k {α : Type} {f : Nat → Nat → α} {a k a' k' : Nat} {v : α} (h : k' ≠ k) : ups f a k v a' k' = f a' k' := by simp [ups, h]
theorem ups_row {α : Type} {f : Nat → Nat → α} {a k a' : Nat} {v : α} (h : a' ≠ a) : ups f a k v a' = f a' := by funext q; simp [ups, h]
theorem upa_s {α : Type} {f : Nat → Nat → α} {a k : Nat} {v : α} : upa f a v a k = v := by simp [upa]
theorem upa_a {α : Type} {f : Nat → Nat → α} {a a' k' : Nat} {v : α} (h : a' ≠ a) : upa f a v a' k' = f a' k' := by simp [upa, h]
theorem upa_row {α : Type} {f : Nat → Nat → α} {a a' : Nat} {v : α} (h : a' ≠ a) : upa f a v a' = f a' := by funext q; simp [upa, h]
/-- an address of a kind -/
def Ok (G : GG) (n a t : Nat) : Prop := G.1 ≤ a ∧ a < n ∧ (G.2.1 a).1 = t
theorem Ok.mono {G : GG} {n m a t : Nat} (h : Ok G n a t) (hm : n ≤ m) : Ok G m a t := ⟨h.1, Nat.lt_of_lt_of_le h.2.1 hm, h.2.2⟩
/-! locals -/
def lget : List (Option Value) → Nat → Option Value
  | [], _ => none
  | x :: _, 0 => x
  | _ :: t, k + 1 => lget t k
def lset : List (Option Value) → Nat → Value → List (Option Value)
  | [], _, _ => []
  | _ :: t, 0, v => some v :: t
  | x :: t, k + 1, v => x :: lset t k v
def lclr : List (Option Value) → Nat → List (Option Value)
  | [], _ => []
  | _ :: t, 0 => none :: t
  | x :: t, k + 1 => x :: lclr t k
theorem lset_len (l : List (Option Value)) (k : Nat) (v : Value) : (lset l k v).length = l.length := by
  induction l generalizing k with
  | nil => rfl
  | cons x t ih => cases k <;> simp [lset, ih]
theorem lclr_len (l : List (Option Value)) (k : Nat) : (lclr l k).length = l.length := by
  induction l generalizing k with
  | nil => rfl
  | cons x t ih => cases k <;> simp [lclr, ih]
theorem lget_set (l : List (Option Value)) (k : Nat) (v : Value) (q : Nat) {w : Value} (h : lget (lset l k v) q = some w) : (q = k ∧ w = v) ∨ (q ≠ k ∧ lget l q = some w) := by
  induction l generalizing k q with
  | nil => simp [lset, lget] at h
  | cons x t ih =>
    cases k with
    | zero =>
      cases q with
      | zero => simp [lset, lget] at h; exact Or.inl ⟨rfl, h.symm⟩
      | succ q => exact Or.inr ⟨by omega, h⟩
    | succ k =>
      cases q with
      | zero => exact Or.inr ⟨by omega, h⟩
      | succ q =>
        rcases ih k q h with ⟨a, b⟩ | ⟨a, b⟩
        · exact Or.inl ⟨by omega, b⟩
        · exact Or.inr ⟨by omega, b⟩
theorem lget_clr (l : List (Option Value)) (k : Nat) (q : Nat) {w : Value} (h : lget (lclr l k) q = some w) : lget l q = some w := by
  induction l generalizing k q with
  | nil => simp [lclr, lget] at h
  | cons x t ih =>
    cases k with
    | zero =>
      cases q with
      | zero => simp [lclr, lget] at h
      | succ q => exact h
    | succ k =>
      cases q with
      | zero => exact h
      | succ q => exact ih k q h
theorem lget_lt {l : List (Option Value)} {q : Nat} {w : Value} (h : lget l q = some w) : q < l.length := by
  induction l generalizing q with
  | nil => simp [lget] at h
  | cons x t ih =>
    cases q with
    | zero => simp
    | succ q => have := ih h; simp; omega
def lentry (As : List Value) (nL : Nat) : List (Option Value) := As.map some ++ List.replicate (nL - As.length) none
def Lcl (ls : Array Slot) (nL : Nat) (lo : List (Option Value)) : Prop := ls.size = nL ∧ lv_wf ls ∧ lo.length = nL ∧ ∀ k v, lget lo k = some v → ls[k]? = some (.val v) ∧ v.category = 1
def lenum (lo : List (Option Value)) : List (Nat × Value) := (List.range lo.length).filterMap (fun k => (lget lo k).map (fun v => (k, v)))
theorem lenum_mem {lo : List (Option Value)} {k : Nat} {v : Value} : (k, v) ∈ lenum lo ↔ lget lo k = some v := by
  unfold lenum
  rw [List.mem_filterMap]
  constructor
  · rintro ⟨q, -, h⟩
    cases hq : lget lo q with
    | none => rw [hq] at h; cases h
    | some w => rw [hq] at h; cases h; exact hq
  · intro h
    exact ⟨k, List.mem_range.mpr (lget_lt h), by rw [h]; rfl⟩
theorem Lcl.enum {ls : Array Slot} {nL : Nat} {lo : List (Option Value)} (h : Lcl ls nL lo) : lv_has ls nL (lenum lo) := by
  refine ⟨h.1, h.2.1, fun q hq => ?_⟩
  obtain ⟨k, v⟩ := q
  exact (h.2.2.2 k v (lenum_mem.mp hq)).1
theorem Lcl.stored {ls ls' : Array Slot} {nL k : Nat} {v : Value} {lo : List (Option Value)} (h : Lcl ls nL lo) (hc : v.category = 1) (h' : lv_has ls' nL ((k, v) :: (lenum lo).filter (fun q => !(q.1 == k) && !(q.1 + 1 == k && q.2.category == 2)))) : Lcl ls' nL (lset lo k v) := by
  refine ⟨h'.1, h'.2.1, (lset_len _ _ _).trans h.2.2.1, fun q w hq => ?_⟩
  rcases lget_set lo k v q hq with ⟨rfl, rfl⟩ | ⟨hne, hw⟩
  · exact ⟨h'.2.2 _ List.mem_cons_self, hc⟩
  · have hcw := (h.2.2.2 q w hw).2
    refine ⟨h'.2.2 (q, w) (List.mem_cons_of_mem _ (List.mem_filter.mpr ⟨lenum_mem.mpr hw, ?_⟩)), hcw⟩
    simp [hne, hcw]
theorem Lcl.clr {ls : Array Slot} {nL : Nat} {lo : List (Option Value)} (h : Lcl ls nL lo) (k : Nat) : Lcl ls nL (lclr lo k) :=
  ⟨h.1, h.2.1, (lclr_len _ _).trans h.2.2.1, fun q w hq => h.2.2.2 q w (lget_clr lo k q hq)⟩
theorem rf_cat (o : Option Nat) : (va_rf o).category = 1 := by cases o <;> rfl
def catOk (As : List Value) : Prop := ∀ v ∈ As, v.category = 1
theorem cat_nil : catOk [] := fun _ h => by cases h
theorem cat_i {x : Int32} {As : List Value} (h : catOk As) : catOk (.int x :: As) := fun v hv => by
  rcases List.mem_cons.mp hv with rfl | q
  · rfl
  · exact h v q
theorem cat_r {x : Nat} {As : List Value} (h : catOk As) : catOk (.ref x :: As) := fun v hv => by
  rcases List.mem_cons.mp hv with rfl | q
  · rfl
  · exact h v q
theorem cat_n {As : List Value} (h : catOk As) : catOk (.null :: As) := fun v hv => by
  rcases List.mem_cons.mp hv with rfl | q
  · rfl
  · exact h v q
theorem cat_o {o : Option Nat} {As : List Value} (h : catOk As) : catOk (va_rf o :: As) := fun v hv => by
  rcases List.mem_cons.mp hv with rfl | q
  · exact rf_cat o
  · exact h v q
theorem lg_sl1 {As : List Value} (h : catOk As) : lg_sl As = As.map Slot.val := by
  induction As with
  | nil => rfl
  | cons v t ih =>
    have h1 := h v List.mem_cons_self
    have h2 := ih (fun w hw => h w (List.mem_cons_of_mem _ hw))
    unfold lg_sl at h2 ⊢
    rw [List.flatMap_cons, h2, if_neg (by omega)]
    rfl
theorem lget_app (As : List Value) (q nN : Nat) {w : Value} (h : lget (As.map some ++ List.replicate nN none) q = some w) : As[q]? = some w := by
  induction As generalizing q with
  | nil =>
    exfalso
    simp only [List.map_nil, List.nil_append] at h
    induction nN generalizing q with
    | zero => simp [lget] at h
    | succ nN ih =>
      rw [List.replicate_succ] at h
      cases q with
      | zero => simp [lget] at h
      | succ q => exact ih q h
  | cons v t ih =>
    cases q with
    | zero => simp [lget] at h; simp [h]
    | succ q => simpa using ih q h
theorem lv_args_1 {As : List Value} (h : catOk As) (p q : Nat) {w : Value} (hq : As[q]? = some w) : (p + q, w) ∈ lv_args p As := by
  induction As generalizing p q with
  | nil => simp at hq
  | cons v t ih =>
    have h1 := h v List.mem_cons_self
    simp only [lv_args, h1]
    cases q with
    | zero =>
      simp at hq
      subst hq
      exact List.mem_cons_self
    | succ q =>
      refine List.mem_cons_of_mem _ ?_
      have := ih (fun w hw => h w (List.mem_cons_of_mem _ hw)) (p + 1) q (by simpa using hq)
      rw [show p + (q + 1) = p + 1 + q by omega]
      exact this
theorem Lcl.entry {As : List Value} {nL : Nat} (h : catOk As) (hl : As.length ≤ nL) : Lcl ((lg_sl As ++ List.replicate (nL - (lg_sl As).length) Slot.unset).toArray) nL (lentry As nL) := by
  have e := lg_sl1 h
  have el : (lg_sl As).length = As.length := by rw [e, List.length_map]
  have hv := lv_entry As (n := nL) (by rw [el]; exact hl)
  refine ⟨hv.1, hv.2.1, by simp [lentry]; omega, fun q w hq => ?_⟩
  have h1 : As[q]? = some w := lget_app As q _ hq
  refine ⟨hv.2.2 (q, w) ?_, h w (List.mem_of_getElem? h1)⟩
  have := lv_args_1 h 0 q h1
  rwa [Nat.zero_add] at this
/-- words that a warmed table keeps, though they aren't good words -/
def Ex (U : State) : Prop := va_Nw (.methodLinkNest RX4 38 yX1_init "CoinErrands") U ∧ va_Nw (.methodLinkNest RX4 39 yX2_init "CoinErrands") U ∧ va_Nw (.methodLinkNest RX5 32 yX3_init "CoinErrands") U ∧ va_Nw (.methodLinkNest RX4 134 yX5_isHouse "CoinErrands") U ∧ va_AO RX0 U ∧ va_AO RX1 U ∧ va_AO RX2 U ∧ va_AO RX4 U
theorem Ex.warm {s U : State} (hW : s.WarmedH U.vm) (h : Ex s) : Ex U := by
  obtain ⟨h1, h2, h3, h4, h5, h6, h7, h8⟩ := h
  exact ⟨h1.warmM hW, h2.warmM hW, h3.warmM hW, h4.warmM hW, h5.moved hW.alike, h6.moved hW.alike, h7.moved hW.alike, h8.moved hW.alike⟩
theorem Ex.same {s U : State} (hv : s.vm = U.vm) (h : Ex s) : Ex U := by
  obtain ⟨h1, h2, h3, h4, h5, h6, h7, h8⟩ := h
  have ha : s.vm.Alike U.vm := by rw [hv]; exact Vm.Alike.refl U.vm
  exact ⟨h1.same rfl hv, h2.same rfl hv, h3.same rfl hv, h4.same rfl hv, h5.moved ha, h6.moved ha, h7.moved ha, h8.moved ha⟩
/-! the judgement -/
def Ctx (p : Program) (s : State) (m : MethodId) (args : Array Value) (meth : Method) (c : Code) (Y : AM) : Prop :=
  p.tables.exec = Jvm.exec ∧ c.code = Y.2.1 ∧ meth.sig.returnType = Y.2.2.2 ∧ c.maxLocals = Y.2.2.1 ∧ s.vm.findClass Y.1.cls = some m.cls ∧ (∀ w ∈ lw_gd, w.before args s = true) ∧ meth.locks = false ∧ meth.name = Y.1.name ∧ Ex s
def Qc (G : GG) (Q : QP) : Array Value → State → Outcome → State → Prop := fun _ st o t =>
  (∃ (v : Option Value) (n : Nat) (i : IP) (r : RP), o = .returned v ∧ Abs G t t.heap n i r ∧ Q v n i r) ∧ va_F (fun q => G.1 ≤ q) st t
def EN (G : GG) (Y : AM) (D k j : Nat) (lo : List (Option Value)) (n : Nat) (i : IP) (r : RP) (p : Program) (R : Room) (s : State) (m : MethodId) (args : Array Value) (meth : Method) (c : Code) (H : Heap) (locs : List Loc) (cells slots : Nat) (ls : Array Slot) : Prop :=
  Ctx p s m args meth c Y ∧ (D ≤ R.frames ∧ 33 * D ≤ R.locals ∧ cells + k ≤ R.cells ∧ slots + j ≤ R.slots) ∧ Abs G s H n i r ∧ Lcl ls Y.2.2.1 lo ∧ va_S (fun q => G.1 ≤ q) s.heap H locs ∧ G.1 ≤ s.heap.size
def Go (l : Launch) (G : GG) (Y : AM) (D k j pc : Nat) (lo : List (Option Value)) (st : List Value) (n : Nat) (i : IP) (r : RP) (Q : QP) : Prop :=
  ∀ (p : Program) (e : Env) (R : Room) (s : State) (m : MethodId) (args : Array Value) (below : List Frame) (meth : Method) (c : Code) (H : Heap) (locs : List Loc) (cells slots : Nat) (ls : Array Slot),
    EN G Y D k j lo n i r p R s m args meth c H locs cells slots ls →
    W p l e R s m args below meth c H locs cells slots (MQ below (Qc G Q) args s R.cells R.slots (fun q => G.1 ≤ q)) (F0 m pc ls st)
