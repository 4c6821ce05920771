/-! heap rows -/
theorem inT (t : Nat) (ht : t < 7) : ∀ w ∈ u_ws (cT t).1 (cT t).2.1 (cT t).2.2, w ∈ lw_gd := by
  match t, ht with
  | 0, _ => exact inX0
  | 1, _ => exact inX1
  | 2, _ => exact inX2
  | 3, _ => exact inX3
  | 4, _ => exact inX4
  | 5, _ => exact inX5
  | 6, _ => exact inX6
theorem fdT (t : Nat) (ht : t < 7) : ∀ k, k < (cT t).2.2 → parseFieldDescriptor ((cT t).2.1 k).2.2.1 = some (fT t k) := by
  match t, ht with
  | 0, _ => exact tyX0_ok
  | 1, _ => exact tyX1_ok
  | 2, _ => exact tyX2_ok
  | 3, _ => exact tyX3_ok
  | 4, _ => exact tyX4_ok
  | 5, _ => exact tyX5_ok
  | 6, _ => exact tyX6_ok
theorem nmT (t : Nat) (ht : t < 7) : ∀ a, a < (cT t).2.2 → ∀ b, b < (cT t).2.2 → a ≠ b → ((cT t).2.1 a).2.1 ≠ ((cT t).2.1 b).2.1 := by
  match t, ht with
  | 0, _ => exact nmX0
  | 1, _ => exact nmX1
  | 2, _ => exact nmX2
  | 3, _ => exact nmX3
  | 4, _ => exact nmX4
  | 5, _ => exact nmX5
  | 6, _ => exact nmX6
/-- a field by the pool number of the class that names it -/
def FLink (own : String) (idx t k : Nat) : Prop := t < 7 ∧ k < (cT t).2.2 ∧ Cond.fieldLink own idx (cT t).1 ((cT t).2.1 k).2.1 ((cT t).2.1 k).2.2.1 ∈ lw_gd ∧ ((cT t).2.1 k).1 = (cT t).1
theorem vl_i {t k : Nat} {x : Int32} {o : Option Nat} (h : isR (fT t k) = false) : vl t k x o = .int x := by simp [vl, h]
theorem vl_r {t k : Nat} {x : Int32} {o : Option Nat} (h : isR (fT t k) = true) : vl t k x o = va_rf o := by simp [vl, h]
theorem apT {s : State} {args : Array Value} {t : Nat} (ht : t < 7) {cC : ClassId} {iS : Nat → Nat} (hts : ∀ w ∈ lw_gd, w.before args s = true) (hS : u_Kn s (cT t).1 (cT t).2.1 (cT t).2.2 cC iS) : ∀ x y, x < (cT t).2.2 → y < (cT t).2.2 → x ≠ y → iS x ≠ iS y := by
  intro x y hx hy hne
  obtain ⟨_, _, _, fa, hia, ea⟩ := hS.1 x hx
  obtain ⟨_, _, _, fb, hib, eb⟩ := hS.1 y hy
  rw [← ea, ← eb]
  refine u_apart (u_lays hts (inT t ht) hx) (u_lays hts (inT t ht) hy) hia hib ?_
  rw [(State.fieldFound?_type hia (fdT t ht x hx)).1, (State.fieldFound?_type hib (fdT t ht y hy)).1]
  exact nmT t ht x hx y hy hne
theorem fT9 {t : Nat} (h : 9 ≤ t ∧ t ≤ 12) : ∃ C, ∀ k, fT t k = .object C := by
  rcases (show t = 9 ∨ t = 10 ∨ t = 11 ∨ t = 12 by omega) with rfl | rfl | rfl | rfl
  · exact ⟨RX0, fun _ => rfl⟩
  · exact ⟨RX1, fun _ => rfl⟩
  · exact ⟨RX2, fun _ => rfl⟩
  · exact ⟨RX4, fun _ => rfl⟩
theorem fT9r {t : Nat} (h : 9 ≤ t ∧ t ≤ 12) (q : Nat) : isR (fT t q) = true ∧ (fT t 0).isReference = true := by
  obtain ⟨C, hC⟩ := fT9 h
  rw [hC q, hC 0]
  exact ⟨rfl, rfl⟩
section GOHEAP
variable {l : Launch} {G : GG} {Y : AM} {D k j pc z : Nat} {lo : List (Option Value)} {st : List Value} {n : Nat} {i : IP} {r : RP} {Q : QP}
theorem go_getV {idx t f a : Nat} {v : Value} (hd : decode Y.2.1 pc = .ok (.getfield idx, 3)) (hz : pc + 3 = z) (hf : FLink Y.1.cls idx t f) (ha : Ok G n a t) (hv : vl t f (i a f) (r a f) = v) (K : Go l G Y D k j z lo (v :: st) n i r Q) : Go l G Y D k j pc lo (.ref a :: st) n i r Q := by
  subst hz
  intro p e R s m args below meth c H locs cells slots ls E
  have KK := K p e R s m args below meth c H locs cells slots ls E
  obtain ⟨C, B, A, L, S, hb⟩ := E
  obtain ⟨ht, hk, hw, hown⟩ := hf
  obtain ⟨h1, h2, h3⟩ := ha
  obtain ⟨-, hc, -⟩ := A.2.2.1 a h1 h2
  rw [h3] at hc
  obtain ⟨cC, iS, hKn, cell, q1, q2, q3, q4⟩ := hc ht
  obtain ⟨hS, hfc, kC, hkC, hkind⟩ := id hKn
  obtain ⟨cf, kf, fi, fd, hi, hsl⟩ := hS f hk
  have hts := C.2.2.2.2.2.1
  rw [hown] at hi
  have hi' := hi
  refine W.getf C.1 C.2.1 C.2.2.2.2.1 (hts _ hw) hi ?_ q1 (by rw [q3]; exact fun h => by cases h) (v := v) ?_ rfl rfl hd KK
  · rw [← hown] at hi'
    exact (u_facts hfc hkC (u_lays hts (inT t ht) hk) hi').1
  · rw [hsl, q4 f hk]; exact congrArg some hv
theorem go_getI {idx t f a : Nat} (hd : decode Y.2.1 pc = .ok (.getfield idx, 3)) (hz : pc + 3 = z) (hf : FLink Y.1.cls idx t f) (ha : Ok G n a t) (hr : isR (fT t f) = false) (K : Go l G Y D k j z lo (.int (i a f) :: st) n i r Q) : Go l G Y D k j pc lo (.ref a :: st) n i r Q :=
  go_getV hd hz hf ha (vl_i hr) K
theorem go_getR {idx t f a b : Nat} (hd : decode Y.2.1 pc = .ok (.getfield idx, 3)) (hz : pc + 3 = z) (hf : FLink Y.1.cls idx t f) (ha : Ok G n a t) (hr : isR (fT t f) = true) (hv : r a f = some b) (K : Go l G Y D k j z lo (.ref b :: st) n i r Q) : Go l G Y D k j pc lo (.ref a :: st) n i r Q :=
  go_getV hd hz hf ha ((vl_r hr).trans (by rw [hv]; rfl)) K
theorem go_getO {idx t f a : Nat} (hd : decode Y.2.1 pc = .ok (.getfield idx, 3)) (hz : pc + 3 = z) (hf : FLink Y.1.cls idx t f) (ha : Ok G n a t) (hr : isR (fT t f) = true) (K : Go l G Y D k j z lo (va_rf (r a f) :: st) n i r Q) : Go l G Y D k j pc lo (.ref a :: st) n i r Q :=
  go_getV hd hz hf ha (vl_r hr) K
/-- what a place of a small type holds -/
theorem go_narrow {a t f : Nat} (ha : Ok G n a t) (hk : f < nS (G.2.1 a)) (hr : isR (fT t f) = false) (K : narrow (fT t f) (.int (i a f)) = .int (i a f) → Go l G Y D k j pc lo st n i r Q) : Go l G Y D k j pc lo st n i r Q := by
  intro p e R s m args below meth c H locs cells slots ls E
  obtain ⟨h1, h2, h3⟩ := ha
  have h := (E.2.2.1.2.2.1 a h1 h2).1 f hk
  rw [h3] at h
  exact K (h hr) p e R s m args below meth c H locs cells slots ls E
theorem nm_one (x : Int32) : x &&& 1 = 0 ∨ x &&& 1 = 1 := by
  obtain ⟨q, hq, e⟩ := pk_andE x (m := 1) 1 (by decide)
  rcases (show q = 0 ∨ q = 1 by omega) with rfl | rfl
  · exact Or.inl e
  · exact Or.inr e
theorem fits_of {t f : Nat} (ht : t < 7) (hk : f < (cT t).2.2) {x : Int32} (hr : isR (fT t f) = false) (hn : narrow (fT t f) (.int x) = .int x) : fits (fT t f) (.int x) = true := by
  have h : fT t f = .int ∨ fT t f = .boolean := by
    have h0 : ∀ t, t < 7 → ∀ f, f < (cT t).2.2 → isR (fT t f) = false → fT t f = .int ∨ fT t f = .boolean := by decide +kernel
    exact h0 t ht f hk hr
  rcases h with h | h
  · rw [h]; rfl
  · rw [h] at hn ⊢
    have e : x &&& 1 = x := by
      have := hn
      simp only [narrow] at this
      exact Value.int.inj this
    have hx : x = 0 ∨ x = 1 := by
      have h1 := nm_one x
      rw [e] at h1
      exact h1
    rcases hx with rfl | rfl <;> rfl
theorem Abs.upd {G : GG} {U : State} {H H' : Heap} {n a : Nat} {i i' : IP} {r r' : RP} (A : Abs G U H n i r) (hz : H'.size = H.size) (ho : ∀ q, q ≠ a → H'[q]? = H[q]?) (ha : G.1 ≤ a) (hi : ∀ q, q ≠ a → i' q = i q) (hr : ∀ q, q ≠ a → r' q = r q) (hc : Cel U H' a (G.2.1 a) (i' a) (r' a)) : Abs G U H' n i' r' := by
  refine ⟨hz.trans A.1, A.2.1, fun q h1 h2 => ?_, A.2.2.2.1.kept (ho _ (by have := A.2.2.2.2; omega)), A.2.2.2.2⟩
  by_cases hq : q = a
  · subst hq; exact hc
  · rw [hi q hq, hr q hq]
    exact (A.2.2.1 q h1 h2).kept (ho q hq)
theorem go_putV {idx t f a : Nat} {v : Value} {x : Int32} {o : Option Nat} {i' : IP} {r' : RP} (hd : decode Y.2.1 pc = .ok (.putfield idx, 3)) (hz : pc + 3 = z) (hf : FLink Y.1.cls idx t f) (ha : Ok G n a t)
    (hi1 : ∀ q, q ≠ a → i' q = i q) (hr1 : ∀ q, q ≠ a → r' q = r q) (hi2 : ∀ q, q ≠ f → i' a q = i a q) (hr2 : ∀ q, q ≠ f → r' a q = r a q) (hv : vl t f (i' a f) (r' a f) = v)
    (hn : narrow (fT t f) v = v) (hfit : fits (fT t f) v = true) (hfin : ((cT t).2.1 f).2.2.2 = false ∨ (Y.1.name = "<init>" ∧ (cT t).1 = Y.1.cls)) (K : Go l G Y D k j z lo st n i' r' Q) : Go l G Y D k j pc lo (v :: .ref a :: st) n i r Q := by
  subst hz
  intro p e R s m args below meth c H locs cells slots ls ⟨C, B, A, L, S, hb⟩
  obtain ⟨ht, hk, hw, hown⟩ := hf
  obtain ⟨h1, h2, h3⟩ := ha
  obtain ⟨hN, hc, -⟩ := A.2.2.1 a h1 h2
  rw [h3] at hc hN
  obtain ⟨cC, iS, hKn, cell, q1, q2, q3, q4⟩ := hc ht
  obtain ⟨hS, hfc, kC, hkC, hkind⟩ := id hKn
  obtain ⟨cf, kf, fi, fd, hi, hsl⟩ := hS f hk
  have hts := C.2.2.2.2.2.1
  have hap := apT ht hts hKn
  have hfd := fdT t ht f hk
  have hlays := u_lays hts (inT t ht) hk
  have hst := (u_facts hfc hkC hlays hi).1
  have hi' := hi
  rw [hown] at hi'
  have hnS : nS (G.2.1 a) = (cT t).2.2 := by simp [nS, h3, ht]
  have key : ∀ H' : Heap, H'[a]? = some (cell.setSlot fd.slot v) → H'.size = H.size → (∀ q, q ≠ a → H'[q]? = H[q]?) → W p l e R s m args below meth c H' (locs ++ [⟨a, fd.slot⟩]) cells slots (MQ below (Qc G Q) args s R.cells R.slots (fun q => G.1 ≤ q)) (F0 m (pc + 3) ls st) := by
    intro H' e1 e2 e3
    rw [hsl] at e1 ⊢
    refine K p e R s m args below meth c H' _ cells slots ls ⟨C, B, A.upd e2 e3 h1 hi1 hr1 ?_, L, S.put e2 e3 h1, hb⟩
    have h3' : G.2.1 a = (t, (G.2.1 a).2) := Prod.ext h3 rfl
    rw [h3']
    rw [h3'] at hnS
    refine ⟨fun q hq hrq => ?_, fun _ => ⟨cC, iS, hKn, t_OB.to (V := updV (fun k => vl t k (i a k) (r a k)) f v) ⟨_, e1, q2, q3, t_set q4 hap hk v⟩ (fun q _ => ?_)⟩, fun hh => by omega⟩
    · by_cases hqf : q = f
      · subst hqf
        rw [vl_i hrq] at hv
        rw [hv]; exact hn
      · rw [hi2 q hqf]
        have hq' : q < (cT t).2.2 := by rw [← hnS]; exact hq
        exact hN q (by rw [h3', hnS]; exact hq') hrq
    · show updV _ f v q = _
      unfold updV
      by_cases hqf : q = f
      · subst hqf
        rw [if_pos rfl]; exact hv.symm
      · rw [if_neg hqf, hi2 q hqf, hr2 q hqf]
  rcases hfin with hfin | ⟨hini, hcls⟩
  · have hlay := hts _ (inT t ht _ (u_in_lay hk))
    unfold u_lay at hlay
    rw [if_neg (by rw [hfin]; decide)] at hlay
    have h6 := u_store hfc hkC hkind hlay hi hfd hn hfit
    exact W.putK C.1 C.2.1 (f := fd) ⟨C.2.2.2.2.1, hts _ hw, ⟨_, _, _, hi'⟩, hst⟩ (by rw [q2]; exact h6) q1 q3 (by rw [hsl]; exact k2_hasslot (q4 f hk)) rfl rfl hd key
  · by_cases hfin : ((cT t).2.1 f).2.2.2 = true
    · have hlay := hts _ (inT t ht _ (u_in_lay hk))
      unfold u_lay at hlay
      rw [if_pos hfin] at hlay
      have hcf : m.cls = cf := by
        obtain ⟨_, _, c', _, _, _, -, -, hf', -, -, -, hown2, -⟩ := Cond.laysFinal_spec hlay
        have e1 : c' = cf := by have := hi.symm.trans hf'; simp at this; exact this.1.symm
        rw [hown, hcls] at hown2
        rw [← e1]; exact Option.some.inj (C.2.2.2.2.1.symm.trans hown2)
      have h6 := u_fits hfc hkC hkind (Or.inr hlay) hi hfd hn hfit
      exact W.putFinK C.1 C.2.1 C.2.2.2.2.1 (hts _ hw) hi' hst hcf (C.2.2.2.2.2.2.2.1.trans hini) (by rw [q2]; exact h6) q1 q3 (by rw [hsl]; exact k2_hasslot (q4 f hk)) rfl rfl hd key
    · have hfin : ((cT t).2.1 f).2.2.2 = false := by simpa using hfin
      have hlay := hts _ (inT t ht _ (u_in_lay hk))
      unfold u_lay at hlay
      rw [if_neg (by rw [hfin]; decide)] at hlay
      have h6 := u_store hfc hkC hkind hlay hi hfd hn hfit
      exact W.putK C.1 C.2.1 (f := fd) ⟨C.2.2.2.2.1, hts _ hw, ⟨_, _, _, hi'⟩, hst⟩ (by rw [q2]; exact h6) q1 q3 (by rw [hsl]; exact k2_hasslot (q4 f hk)) rfl rfl hd key
theorem go_putI {idx t f a : Nat} {x : Int32} (hd : decode Y.2.1 pc = .ok (.putfield idx, 3)) (hz : pc + 3 = z) (hf : FLink Y.1.cls idx t f) (ha : Ok G n a t) (hr : isR (fT t f) = false) (hfin : ((cT t).2.1 f).2.2.2 = false ∨ (Y.1.name = "<init>" ∧ (cT t).1 = Y.1.cls)) (hn : narrow (fT t f) (.int x) = .int x) (K : Go l G Y D k j z lo st n (ups i a f x) r Q) : Go l G Y D k j pc lo (.int x :: .ref a :: st) n i r Q :=
  go_putV (x := x) (o := none) (i' := ups i a f x) (r' := r) hd hz hf ha (fun q h => ups_row h) (fun _ _ => rfl) (fun q h => ups_k h) (fun _ _ => rfl) (by rw [ups_s]; exact vl_i hr) hn (fits_of hf.1 hf.2.1 hr hn) hfin K
theorem fits_rf {t f : Nat} (hr : isR (fT t f) = true) (o : Option Nat) : narrow (fT t f) (va_rf o) = va_rf o ∧ fits (fT t f) (va_rf o) = true := by
  cases h : fT t f with
  | object C => cases o <;> exact ⟨rfl, rfl⟩
  | array C => cases o <;> exact ⟨rfl, rfl⟩
  | _ => rw [h] at hr; cases hr
theorem go_putO {idx t f a : Nat} {o : Option Nat} (hd : decode Y.2.1 pc = .ok (.putfield idx, 3)) (hz : pc + 3 = z) (hf : FLink Y.1.cls idx t f) (ha : Ok G n a t) (hr : isR (fT t f) = true) (hfin : ((cT t).2.1 f).2.2.2 = false ∨ (Y.1.name = "<init>" ∧ (cT t).1 = Y.1.cls)) (K : Go l G Y D k j z lo st n i (ups r a f o) Q) : Go l G Y D k j pc lo (va_rf o :: .ref a :: st) n i r Q :=
  go_putV (x := 0) (o := o) (i' := i) (r' := ups r a f o) hd hz hf ha (fun _ _ => rfl) (fun q h => ups_row h) (fun _ _ => rfl) (fun q h => ups_k h) (by rw [ups_s]; exact vl_r hr) (fits_rf hr o).1 (fits_rf hr o).2 hfin K
theorem go_putR {idx t f a b : Nat} (hd : decode Y.2.1 pc = .ok (.putfield idx, 3)) (hz : pc + 3 = z) (hf : FLink Y.1.cls idx t f) (ha : Ok G n a t) (hr : isR (fT t f) = true) (hfin : ((cT t).2.1 f).2.2.2 = false ∨ (Y.1.name = "<init>" ∧ (cT t).1 = Y.1.cls)) (K : Go l G Y D k j z lo st n i (ups r a f (some b)) Q) : Go l G Y D k j pc lo (.ref b :: .ref a :: st) n i r Q :=
  go_putO (o := some b) hd hz hf ha hr hfin K
theorem go_putN {idx t f a : Nat} (hd : decode Y.2.1 pc = .ok (.putfield idx, 3)) (hz : pc + 3 = z) (hf : FLink Y.1.cls idx t f) (ha : Ok G n a t) (hr : isR (fT t f) = true) (hfin : ((cT t).2.1 f).2.2.2 = false ∨ (Y.1.name = "<init>" ∧ (cT t).1 = Y.1.cls)) (K : Go l G Y D k j z lo st n i (ups r a f none) Q) : Go l G Y D k j pc lo (.null :: .ref a :: st) n i r Q :=
  go_putO (o := none) hd hz hf ha hr hfin K
/-! arrays -/
def OkA (G : GG) (n a t len : Nat) : Prop := G.1 ≤ a ∧ a < n ∧ G.2.1 a = (t, len)
theorem OkA.mono {G : GG} {n m a t q : Nat} (h : OkA G n a t q) (hm : n ≤ m) : OkA G m a t q := ⟨h.1, Nat.lt_of_lt_of_le h.2.1 hm, h.2.2⟩
theorem ix_in {c len : Nat} {x : Int32} (hx : x = nI c) (hc : c < len) (hl : len < 2 ^ 31) : ¬ (x < 0 ∨ len ≤ x.toNatClampNeg) ∧ x.toNatClampNeg = c := by
  subst hx
  exact ⟨nI_in hc hl, nI_clamp (by omega)⟩
theorem go_alen {a t len : Nat} (ha : OkA G n a t len) (ht : 7 ≤ t) (hd : decode Y.2.1 pc = .ok (.arraylength, 1)) (hz : pc + 1 = z) (K : Go l G Y D k j z lo (.int (nI len) :: st) n i r Q) : Go l G Y D k j pc lo (.ref a :: st) n i r Q := by
  subst hz
  intro p e R s m args below meth c H locs cells slots ls E
  have KK := K p e R s m args below meth c H locs cells slots ls E
  obtain ⟨C, B, A, L, S, hb⟩ := E
  obtain ⟨-, -, hc⟩ := A.2.2.1 a ha.1 ha.2.1
  rw [ha.2.2] at hc
  obtain ⟨cA, e1, e2, e3⟩ := hc ht
  exact W.alen C.1 C.2.1 e1 (e2 len _) (by rw [arrV_size]; rfl) rfl rfl hd KK
theorem go_iald {a len : Nat} {x : Int32} (q : Nat) (ha : OkA G n a 7 len) (hl : len < 2 ^ 31) (hx : x = nI q) (hq : q < len) (hd : decode Y.2.1 pc = .ok (.iaload, 1)) (hz : pc + 1 = z) (K : Go l G Y D k j z lo (.int (i a q) :: st) n i r Q) : Go l G Y D k j pc lo (.int x :: .ref a :: st) n i r Q := by
  subst hz
  intro p e R s m args below meth c H locs cells slots ls E
  have KK := K p e R s m args below meth c H locs cells slots ls E
  obtain ⟨C, B, A, L, S, hb⟩ := E
  obtain ⟨-, -, hc⟩ := A.2.2.1 a ha.1 ha.2.1
  rw [ha.2.2] at hc
  obtain ⟨cA, e1, e2, e3⟩ := hc (show (7:Nat) ≤ _ by omega)
  obtain ⟨g1, g2⟩ := ix_in hx hq hl
  exact W.iald (v := .int (i a q)) C.1 C.2.1 e1 (e2 len _) (fun h => by cases h) (by rw [arrV_size]; exact g1) (by rw [g2, arrV_read _ _ hq]; rfl) rfl rfl hd KK
theorem go_cald {a len : Nat} {x : Int32} (q : Nat) (ha : OkA G n a 8 len) (hl : len < 2 ^ 31) (hx : x = nI q) (hq : q < len) (hd : decode Y.2.1 pc = .ok (.caload, 1)) (hz : pc + 1 = z) (K : Go l G Y D k j z lo (.int (i a q) :: st) n i r Q) : Go l G Y D k j pc lo (.int x :: .ref a :: st) n i r Q := by
  subst hz
  intro p e R s m args below meth c H locs cells slots ls E
  have KK := K p e R s m args below meth c H locs cells slots ls E
  obtain ⟨C, B, A, L, S, hb⟩ := E
  obtain ⟨-, -, hc⟩ := A.2.2.1 a ha.1 ha.2.1
  rw [ha.2.2] at hc
  obtain ⟨cA, e1, e2, e3⟩ := hc (show (7:Nat) ≤ _ by omega)
  obtain ⟨g1, g2⟩ := ix_in hx hq hl
  exact W.cald (v := .int (i a q)) C.1 C.2.1 e1 (e2 len _) (fun h => by cases h) (by rw [arrV_size]; exact g1) (by rw [g2, arrV_read _ _ hq]; rfl) rfl rfl hd KK
theorem go_aald {a t len : Nat} {x : Int32} {o : Option Nat} (q : Nat) (ha : OkA G n a t len) (ht : 9 ≤ t ∧ t ≤ 12) (hl : len < 2 ^ 31) (hx : x = nI q) (hq : q < len) (hv : r a q = o) (hd : decode Y.2.1 pc = .ok (.aaload, 1)) (hz : pc + 1 = z) (K : Go l G Y D k j z lo (va_rf o :: st) n i r Q) : Go l G Y D k j pc lo (.int x :: .ref a :: st) n i r Q := by
  subst hz; subst hv
  intro p e R s m args below meth c H locs cells slots ls E
  have KK := K p e R s m args below meth c H locs cells slots ls E
  obtain ⟨C, B, A, L, S, hb⟩ := E
  obtain ⟨-, -, hc⟩ := A.2.2.1 a ha.1 ha.2.1
  rw [ha.2.2] at hc
  obtain ⟨cA, e1, e2, e3⟩ := hc (show 7 ≤ t by omega)
  obtain ⟨g1, g2⟩ := ix_in hx hq hl
  have hr := fT9r ht q
  exact W.aald (v := va_rf (r a q)) (ty := fT t 0) C.1 C.2.1 e1 (e2 len _) hr.2 (fun h => by cases h) (by rw [arrV_size]; exact g1) (by rw [g2, arrV_read _ _ hq, vl_r hr.1]) rfl rfl hd KK
theorem go_aaldR {a t len b : Nat} {x : Int32} (q : Nat) (ha : OkA G n a t len) (ht : 9 ≤ t ∧ t ≤ 12) (hl : len < 2 ^ 31) (hx : x = nI q) (hq : q < len) (hv : r a q = some b) (hd : decode Y.2.1 pc = .ok (.aaload, 1)) (hz : pc + 1 = z) (K : Go l G Y D k j z lo (.ref b :: st) n i r Q) : Go l G Y D k j pc lo (.int x :: .ref a :: st) n i r Q :=
  go_aald q ha ht hl hx hq hv hd hz K
theorem upd_vl {t len q : Nat} {i : Nat → Int32} {r : Nat → Option Nat} {v : Value} {i' : Nat → Int32} {r' : Nat → Option Nat} (hi : ∀ p, p ≠ q → i' p = i p) (hr : ∀ p, p ≠ q → r' p = r p) (hv : vl t q (i' q) (r' q) = v) (cA : ClassId) : arrV cA len (updV (fun k => vl t k (i k) (r k)) q v) = arrV cA len (fun k => vl t k (i' k) (r' k)) := by
  congr 1
  funext p
  unfold updV
  by_cases h : p = q
  · subst h; rw [if_pos rfl]; exact hv.symm
  · rw [if_neg h, hi p h, hr p h]
theorem go_iast {a len : Nat} {x y : Int32} (q : Nat) (ha : OkA G n a 7 len) (hl : len < 2 ^ 31) (hx : x = nI q) (hq : q < len) (hd : decode Y.2.1 pc = .ok (.iastore, 1)) (hz : pc + 1 = z) (K : Go l G Y D k j z lo st n (ups i a q y) r Q) : Go l G Y D k j pc lo (.int y :: .int x :: .ref a :: st) n i r Q := by
  subst hz
  intro p e R s m args below meth c H locs cells slots ls ⟨C, B, A, L, S, hb⟩
  obtain ⟨-, -, hc⟩ := A.2.2.1 a ha.1 ha.2.1
  rw [ha.2.2] at hc
  obtain ⟨cA, e1, e2, e3⟩ := hc (show (7:Nat) ≤ _ by omega)
  obtain ⟨g1, g2⟩ := ix_in hx hq hl
  refine W.iast C.1 C.2.1 e1 (e2 len _) (fun h => by cases h) (by rw [arrV_size]; exact g1) rfl rfl hd fun H' f1 f2 f3 => ?_
  refine K p e R s m args below meth c H' _ cells slots ls ⟨C, B, A.upd f2 f3 ha.1 (fun _ h => ups_row h) (fun _ _ => rfl) ?_, L, S.put f2 f3 ha.1, hb⟩
  rw [ha.2.2]
  refine ⟨fun _ _ _ => rfl, fun h => absurd (show (7:Nat) ≤ _ by omega) (Nat.not_le.mpr h), fun _ => ⟨cA, ?_, e2, e3⟩⟩
  rw [f1, arrV_store, g2]
  exact congrArg some (upd_vl (fun p h => ups_k h) (fun _ _ => rfl) (by rw [ups_s]; rfl) cA)
theorem go_cast {a len : Nat} {x y w : Int32} (q : Nat) (ha : OkA G n a 8 len) (hl : len < 2 ^ 31) (hx : x = nI q) (hq : q < len) (hw : narrow .char (.int y) = .int w) (hww : narrow .char (.int w) = .int w) (hd : decode Y.2.1 pc = .ok (.castore, 1)) (hz : pc + 1 = z) (K : Go l G Y D k j z lo st n (ups i a q w) r Q) : Go l G Y D k j pc lo (.int y :: .int x :: .ref a :: st) n i r Q := by
  subst hz
  intro p e R s m args below meth c H locs cells slots ls ⟨C, B, A, L, S, hb⟩
  obtain ⟨hN, -, hc⟩ := A.2.2.1 a ha.1 ha.2.1
  rw [ha.2.2] at hc hN
  obtain ⟨cA, e1, e2, e3⟩ := hc (show (7:Nat) ≤ _ by omega)
  obtain ⟨g1, g2⟩ := ix_in hx hq hl
  refine W.cast C.1 C.2.1 e1 (e2 len _) (fun h => by cases h) (by rw [arrV_size]; exact g1) rfl rfl hd fun H' f1 f2 f3 => ?_
  refine K p e R s m args below meth c H' _ cells slots ls ⟨C, B, A.upd f2 f3 ha.1 (fun _ h => ups_row h) (fun _ _ => rfl) ?_, L, S.put f2 f3 ha.1, hb⟩
  rw [ha.2.2]
  refine ⟨fun p hp hr => ?_, fun h => absurd (show (7:Nat) ≤ _ by omega) (Nat.not_le.mpr h), fun _ => ⟨cA, ?_, e2, e3⟩⟩
  · by_cases h : p = q
    · subst h; rw [ups_s]; exact hww
    · rw [ups_k h]; exact hN p hp hr
  · rw [f1, arrV_store, g2, hw]
    exact congrArg some (upd_vl (fun p h => ups_k h) (fun _ _ => rfl) (by rw [ups_s]; rfl) cA)
theorem tag_comp {U : State} {t : Nat} {cA : ClassId} (h9 : 9 ≤ t ∧ t ≤ 12) (h : va_RA U cA (fT t 0)) : ∃ (C : String) (kA : Class) (comp : ClassId), fT t 0 = .object C ∧ U.vm.classes[cA]? = some kA ∧ kA.kind = .array comp (.object C) ∧ U.vm.findClass C = some comp := by
  have hC : ∃ C, fT t 0 = .object C := (fT9 h9).imp fun C h => h 0
  obtain ⟨C, hC⟩ := hC
  rw [hC] at h
  obtain ⟨kA, comp, h1, h2, h3, -⟩ := h
  exact ⟨C, kA, comp, hC, h1, h2, h3⟩
theorem go_aastR {a t len b tb : Nat} {x : Int32} (q : Nat) (ha : OkA G n a t len) (ht : 9 ≤ t ∧ t ≤ 12) (hl : len < 2 ^ 31) (hx : x = nI q) (hq : q < len) (hbk : Ok G n b tb) (htb : tb < 7) (hcc : fT t 0 = .object (cT tb).1) (hd : decode Y.2.1 pc = .ok (.aastore, 1)) (hz : pc + 1 = z) (K : Go l G Y D k j z lo st n i (ups r a q (some b)) Q) : Go l G Y D k j pc lo (.ref b :: .int x :: .ref a :: st) n i r Q := by
  subst hz
  intro p e R s m args below meth c H locs cells slots ls ⟨C, B, A, L, S, hb⟩
  obtain ⟨hN, -, hc⟩ := A.2.2.1 a ha.1 ha.2.1
  rw [ha.2.2] at hc hN
  obtain ⟨cA, e1, e2, e3⟩ := hc (show 7 ≤ t by omega)
  obtain ⟨g1, g2⟩ := ix_in hx hq hl
  obtain ⟨Cn, kA, comp, hCn, k1, k2, k3⟩ := tag_comp ht e3
  have hCe : Cn = (cT tb).1 := by rw [hCn] at hcc; exact FieldType.object.inj hcc
  obtain ⟨-, hcb, -⟩ := A.2.2.1 b hbk.1 hbk.2.1
  rw [hbk.2.2] at hcb
  obtain ⟨cC, iS, hKn, cellB, b1, b2, b3, -⟩ := hcb htb
  have hcls := hKn.2
  obtain ⟨kC, hkC, -⟩ := hcls.2
  have hcomp : comp = cC := by rw [hCe] at k3; exact Option.some.inj (k3.symm.trans hcls.1)
  subst hcomp
  have hr : ∀ q, isR (fT t q) = true := fun q => (fT9r ht q).1
  refine W.aast C.1 C.2.1 e1 (fun q h => by cases h) (fun h => by cases h) k1 k2 rfl hkC ⟨fun h => g1 (Or.inl h), by rw [arrV_size, g2]; exact hq⟩ b1 (fun q h => by rw [b3] at h; cases h) (by rw [b2]; exact hkC) (by rw [b2]; exact va_assign hcls) rfl rfl hd fun H' f1 f2 f3 => ?_
  refine K p e R s m args below meth c H' _ cells slots ls ⟨C, B, A.upd f2 f3 ha.1 (fun _ _ => rfl) (fun _ h => ups_row h) ?_, L, S.put f2 f3 ha.1, hb⟩
  rw [ha.2.2]
  refine ⟨fun p hp hr' => absurd ((hr p).symm.trans hr') (by decide), fun h => absurd h (by show ¬ t < 7; omega), fun _ => ⟨cA, ?_, e2, e3⟩⟩
  rw [f1, arrV_store, g2]
  exact congrArg some (upd_vl (fun _ _ => rfl) (fun p h => ups_k h) (by rw [ups_s]; exact vl_r (hr q)) cA)
/-! the script -/
theorem go_sld {x : Int32} (q : Nat) (hL : G.2.2.2.1 < 2 ^ 31) (hx : x = nI q) (hq : q < G.2.2.2.1) (hd : decode Y.2.1 pc = .ok (.iaload, 1)) (hz : pc + 1 = z) (K : Go l G Y D k j z lo (.int (G.2.2.2.2 q) :: st) n i r Q) : Go l G Y D k j pc lo (.int x :: .ref G.2.2.1 :: st) n i r Q := by
  subst hz
  intro p e R s m args below meth c H locs cells slots ls E
  have KK := K p e R s m args below meth c H locs cells slots ls E
  obtain ⟨C, B, A, L, S, hb⟩ := E
  obtain ⟨scr, h1, h2, h3, h4, h5⟩ := A.2.2.2.1
  obtain ⟨g1, g2⟩ := ix_in hx hq hL
  exact W.iald (v := .int (G.2.2.2.2 q)) C.1 C.2.1 h1 h2 h3 (by rw [h4]; exact g1) (by rw [g2]; exact h5 _ hq) rfl rfl hd KK
theorem go_slen (hd : decode Y.2.1 pc = .ok (.arraylength, 1)) (hz : pc + 1 = z) (K : Go l G Y D k j z lo (.int (nI G.2.2.2.1) :: st) n i r Q) : Go l G Y D k j pc lo (.ref G.2.2.1 :: st) n i r Q := by
  subst hz
  intro p e R s m args below meth c H locs cells slots ls E
  have KK := K p e R s m args below meth c H locs cells slots ls E
  obtain ⟨C, B, A, L, S, hb⟩ := E
  obtain ⟨scr, h1, h2, h3, h4, h5⟩ := A.2.2.2.1
  exact W.alen C.1 C.2.1 h1 h2 (by rw [h4]; rfl) rfl rfl hd KK
end GOHEAP
