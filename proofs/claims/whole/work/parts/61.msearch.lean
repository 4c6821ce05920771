/-! what the reference looks for among its errands -/
def o2i : Option Nat → Int32
  | none => -5
  | some k => nI k
def pickF (s : Nat → Int32) (c : Nat) : Option Nat → Option Nat
  | none => some c
  | some k => if eF s c 3 < eF s k 3 then some c else some k
def fstF (s : Nat → Int32) (x y : Int32) : Nat → Option Nat
  | 0 => none
  | c + 1 => if eF s c 4 = x ∧ eF s c 2 = y then pickF s c (fstF s x y c) else fstF s x y c
theorem fst_lt {s : Nat → Int32} {x y : Int32} (c : Nat) : ∀ k, fstF s x y c = some k → k < c := by
  induction c with
  | zero => intro k h; cases h
  | succ c ih =>
    intro k h
    have e : fstF s x y (c + 1) = if eF s c 4 = x ∧ eF s c 2 = y then pickF s c (fstF s x y c) else fstF s x y c := rfl
    rw [e] at h
    split at h
    · cases hf : fstF s x y c with
      | none =>
        rw [hf] at h
        have := Option.some.inj h
        omega
      | some q =>
        have hq := ih q hf
        rw [hf] at h
        unfold pickF at h
        dsimp only at h
        split at h
        · have := Option.some.inj h
          omega
        · have := Option.some.inj h
          omega
    · have := ih k h
      omega
def cntF (p : Nat → Bool) : Nat → Nat
  | 0 => 0
  | c + 1 => cntF p c + if p c = true then 1 else 0
theorem cnt_le (p : Nat → Bool) (c : Nat) : cntF p c ≤ c := by
  induction c with
  | zero => exact Nat.le_refl _
  | succ c ih =>
    show cntF p c + (if p c = true then 1 else 0) ≤ c + 1
    split <;> omega
theorem o2i_n {k : Nat} (h : k < 2 ^ 31) : ¬ o2i (some k) = -5 := fun q => absurd (show nI k < 0 by rw [show nI k = -5 from q]; decide) (nI_pos h)
section MSEARCH
variable {l : Launch} {G : GG} {n : Nat} {i : IP} {r : RP} {M : Nat} {s : Nat → Int32}
theorem c_mFirst {x y : Int32} (hX : MoX G n M r) : Go l G mX6_first 1 0 0 0 (lentry [.ref M, .int x, .int y] 6) [] n (upr i (M + 1) s) r (RetI (o2i (fstF s x y 80)) n (upr i (M + 1) s) r) := by
  obtain ⟨hM, -, -⟩ := id hX
  have loop : ∀ d c o5, c + d = 80 → Go l G mX6_first 1 0 0 6 [some (.ref M), some (.int x), some (.int y), some (.int (o2i (fstF s x y c))), some (.int (nI c)), o5] [] n (upr i (M + 1) s) r (RetI (o2i (fstF s x y 80)) n (upr i (M + 1) s) r) := by
    intro d
    induction d with
    | zero =>
      intro c o5 hc
      have hc : c = 80 := by omega
      subst hc
      refine go_iload (z := 8) dX6_first_6 rfl rfl ?_
      refine go_bipush (z := 10) (v := 80) dX6_first_8 rfl (by decide) ?_
      refine go_icmp_ge (z := 82) (z2 := 13) dX6_first_10 rfl (by decide) (fun _ => ?_) (fun h => absurd (by decide) h)
      refine go_iload_n (z := 83) dX6_first_82 rfl rfl ?_
      exact go_iret dX6_first_83 rfl ret_ok
    | succ d ih =>
      intro c o5 hc
      have e : fstF s x y (c + 1) = if eF s c 4 = x ∧ eF s c 2 = y then pickF s c (fstF s x y c) else fstF s x y c := rfl
      have step : ∀ o, Go l G mX6_first 1 0 0 76 [some (.ref M), some (.int x), some (.int y), some (.int (o2i (fstF s x y (c + 1)))), some (.int (nI c)), o] [] n (upr i (M + 1) s) r (RetI (o2i (fstF s x y 80)) n (upr i (M + 1) s) r) := by
        intro o
        refine go_iinc (z := 79) dX6_first_76 rfl rfl (nI_1 c) (by decide) ?_
        refine go_goto (z := 6) dX6_first_79 (by decide) ?_
        exact ih (c + 1) o (by omega)
      have keep : fstF s x y (c + 1) = fstF s x y c → ∀ o, Go l G mX6_first 1 0 0 74 [some (.ref M), some (.int x), some (.int y), some (.int (o2i (fstF s x y c))), some (.int (nI c)), o] [] n (upr i (M + 1) s) r (RetI (o2i (fstF s x y 80)) n (upr i (M + 1) s) r) := by
        intro e o
        refine go_iload_n (z := 75) dX6_first_74 rfl rfl ?_
        refine go_istore_n (z := 76) dX6_first_75 rfl (by decide) ?_
        rw [← e]
        exact step o
      have take : fstF s x y (c + 1) = some c → ∀ f o, Go l G mX6_first 1 0 0 69 [some (.ref M), some (.int x), some (.int y), f, some (.int (nI c)), o] [] n (upr i (M + 1) s) r (RetI (o2i (fstF s x y 80)) n (upr i (M + 1) s) r) := by
        intro e f o
        refine go_iload (z := 71) dX6_first_69 rfl rfl ?_
        refine go_goto (z := 75) dX6_first_71 (by decide) ?_
        refine go_istore_n (z := 76) dX6_first_75 rfl (by decide) ?_
        have := step o
        rw [e] at this
        exact this
      have no : ¬ (eF s c 4 = x ∧ eF s c 2 = y) → ∀ o, Go l G mX6_first 1 0 0 39 [some (.ref M), some (.int x), some (.int y), some (.int (o2i (fstF s x y c))), some (.int (nI c)), o] [] n (upr i (M + 1) s) r (RetI (o2i (fstF s x y 80)) n (upr i (M + 1) s) r) := by
        intro h o
        refine go_iconst (z := 40) (v := 0) dX6_first_39 rfl (by decide) ?_
        refine go_istore (z := 42) dX6_first_40 rfl (by decide) ?_
        refine go_iload (z := 44) dX6_first_42 rfl rfl ?_
        refine go_if_eq (z := 74) (z2 := 47) dX6_first_44 rfl (by decide) (fun _ => ?_) (fun h => absurd rfl h)
        exact keep (by rw [e, if_neg h]) _
      refine go_iload (z := 8) dX6_first_6 rfl rfl ?_
      refine go_bipush (z := 10) (v := 80) dX6_first_8 rfl (by decide) ?_
      refine go_icmp_ge (z := 82) (z2 := 13) dX6_first_10 rfl (by decide) (fun h => absurd ((nI_leI (a := 80) (by omega) (by omega)).mp h) (by omega)) (fun _ => ?_)
      refine go_aload_n (z := 14) dX6_first_13 rfl rfl ?_
      refine go_iload (z := 16) dX6_first_14 rfl rfl ?_
      refine go_iconst (z := 17) (v := 4) dX6_first_16 rfl (by decide) ?_
      refine go_callV (z := 20) (t := 6) [.int (nI c), .int (nI 4)] dX6_first_17 rfl mlX6_ofErrand vX6_39 ⟨by decide, rfl⟩ hM rfl rfl (by decide) (cat_i (cat_i cat_nil)) (by simp) (by decide) (by first | decide | omega) (by first | decide | omega) (c_mOfErrand hX (by omega) (by omega)) ?_
      refine ret_elim ?_
      refine go_iload_n (z := 21) dX6_first_20 rfl rfl ?_
      refine go_icmp_ne (z := 39) (z2 := 24) dX6_first_21 rfl (by decide) (fun h1 => no (fun q => h1 q.1) _) (fun h1 => ?_)
      refine go_aload_n (z := 25) dX6_first_24 rfl rfl ?_
      refine go_iload (z := 27) dX6_first_25 rfl rfl ?_
      refine go_iconst (z := 28) (v := 2) dX6_first_27 rfl (by decide) ?_
      refine go_callV (z := 31) (t := 6) [.int (nI c), .int (nI 2)] dX6_first_28 rfl mlX6_ofErrand vX6_39 ⟨by decide, rfl⟩ hM rfl rfl (by decide) (cat_i (cat_i cat_nil)) (by simp) (by decide) (by first | decide | omega) (by first | decide | omega) (c_mOfErrand hX (by omega) (by omega)) ?_
      refine ret_elim ?_
      refine go_iload_n (z := 32) dX6_first_31 rfl rfl ?_
      refine go_icmp_ne (z := 39) (z2 := 35) dX6_first_32 rfl (by decide) (fun h2 => no (fun q => h2 q.2) _) (fun h2 => ?_)
      rw [if_pos ⟨h1, h2⟩] at e
      refine go_iconst (z := 36) (v := 1) dX6_first_35 rfl (by decide) ?_
      refine go_goto (z := 40) dX6_first_36 (by decide) ?_
      refine go_istore (z := 42) dX6_first_40 rfl (by decide) ?_
      refine go_iload (z := 44) dX6_first_42 rfl rfl ?_
      refine go_if_eq (z := 74) (z2 := 47) dX6_first_44 rfl (by decide) (fun h => absurd h (by decide)) (fun _ => ?_)
      refine go_iload_n (z := 48) dX6_first_47 rfl rfl ?_
      refine go_bipush (z := 50) (v := (-5)) dX6_first_48 rfl (by decide) ?_
      cases hf : fstF s x y c with
      | none =>
        rw [hf] at e
        exact go_icmp_eq (z := 69) (z2 := 53) dX6_first_50 rfl (by decide) (fun _ => take e _ _) (fun h => absurd rfl h)
      | some q =>
        have hq := fst_lt c q hf
        rw [hf] at e
        refine go_icmp_eq (z := 69) (z2 := 53) dX6_first_50 rfl (by decide) (fun h => absurd h (o2i_n (by omega))) (fun _ => ?_)
        refine go_aload_n (z := 54) dX6_first_53 rfl rfl ?_
        refine go_iload (z := 56) dX6_first_54 rfl rfl ?_
        refine go_iconst (z := 57) (v := 3) dX6_first_56 rfl (by decide) ?_
        refine go_callV (z := 60) (t := 6) [.int (nI c), .int (nI 3)] dX6_first_57 rfl mlX6_ofErrand vX6_39 ⟨by decide, rfl⟩ hM rfl rfl (by decide) (cat_i (cat_i cat_nil)) (by simp) (by decide) (by first | decide | omega) (by first | decide | omega) (c_mOfErrand hX (by omega) (by omega)) ?_
        refine ret_elim ?_
        refine go_aload_n (z := 61) dX6_first_60 rfl rfl ?_
        refine go_iload_n (z := 62) dX6_first_61 rfl rfl ?_
        refine go_iconst (z := 63) (v := 3) dX6_first_62 rfl (by decide) ?_
        refine go_callV (z := 66) (t := 6) [.int (nI q), .int (nI 3)] dX6_first_63 rfl mlX6_ofErrand vX6_39 ⟨by decide, rfl⟩ hM rfl rfl (by decide) (cat_i (cat_i cat_nil)) (by simp) (by decide) (by first | decide | omega) (by first | decide | omega) (c_mOfErrand hX (by omega) (by omega)) ?_
        refine ret_elim ?_
        refine go_icmp_ge (z := 74) (z2 := 69) dX6_first_66 rfl (by decide) (fun h3 => ?_) (fun h3 => ?_)
        · rw [← hf]
          refine keep ?_ _
          rw [e, hf]
          exact if_neg (Int32.not_lt.mpr h3)
        · refine take ?_ _ _
          rw [e]
          exact if_pos (Int32.not_le.mp h3)
  refine go_bipush (z := 2) (v := (-5)) dX6_first_0 rfl (by decide) ?_
  refine go_istore_n (z := 3) dX6_first_2 rfl (by decide) ?_
  refine go_iconst (z := 4) (v := 0) dX6_first_3 rfl (by decide) ?_
  refine go_istore (z := 6) dX6_first_4 rfl (by decide) ?_
  exact loop 80 0 _ rfl
theorem c_mFirstW {h : Nat} (hX : MoX G n M r) : Go l G mX6_firstWaiting 2 0 0 0 (lentry [.ref M, .int (nI h)] 2) [] n (upr i (M + 1) s) r (RetI (o2i (fstF s (nI (h + 1)) 0 80)) n (upr i (M + 1) s) r) := by
  obtain ⟨hM, -, -⟩ := id hX
  refine go_aload_n (z := 1) dX6_firstWaiting_0 rfl rfl ?_
  refine go_iload_n (z := 2) dX6_firstWaiting_1 rfl rfl ?_
  refine go_iconst (z := 3) (v := 1) dX6_firstWaiting_2 rfl (by decide) ?_
  refine go_iadd (z := 4) dX6_firstWaiting_3 rfl ?_
  refine go_st (st' := [.int (nI (h + 1)), .ref M]) (by rw [← nI_1]) ?_
  refine go_iconst (z := 5) (v := 0) dX6_firstWaiting_4 rfl (by decide) ?_
  refine go_callV (z := 8) (t := 6) [.int (nI (h + 1)), .int 0] dX6_firstWaiting_5 rfl mlX6_first vX6_43 ⟨by decide, rfl⟩ hM rfl rfl (by decide) (cat_i (cat_i cat_nil)) (by simp) (by decide) (by first | decide | omega) (by first | decide | omega) (c_mFirst hX) ?_
  refine ret_elim ?_
  exact go_iret dX6_firstWaiting_8 rfl ret_ok
def atP (s : Nat → Int32) (x y : Int32) (e : Nat) : Bool := decide (eF s e 4 = x ∧ eF s e 2 = y)
theorem c_mCount {x y : Int32} (hX : MoX G n M r) : Go l G mX6_count 1 0 0 0 (lentry [.ref M, .int x, .int y] 5) [] n (upr i (M + 1) s) r (RetI (nI (cntF (atP s x y) 80)) n (upr i (M + 1) s) r) := by
  obtain ⟨hM, -, -⟩ := id hX
  have loop : ∀ d c, c + d = 80 → Go l G mX6_count 1 0 0 5 [some (.ref M), some (.int x), some (.int y), some (.int (nI (cntF (atP s x y) c))), some (.int (nI c))] [] n (upr i (M + 1) s) r (RetI (nI (cntF (atP s x y) 80)) n (upr i (M + 1) s) r) := by
    intro d
    induction d with
    | zero =>
      intro c hc
      have hc : c = 80 := by omega
      subst hc
      refine go_iload (z := 7) dX6_count_5 rfl rfl ?_
      refine go_bipush (z := 9) (v := 80) dX6_count_7 rfl (by decide) ?_
      refine go_icmp_ge (z := 48) (z2 := 12) dX6_count_9 rfl (by decide) (fun _ => ?_) (fun h => absurd (by decide) h)
      refine go_iload_n (z := 49) dX6_count_48 rfl rfl ?_
      exact go_iret dX6_count_49 rfl ret_ok
    | succ d ih =>
      intro c hc
      have e : cntF (atP s x y) (c + 1) = cntF (atP s x y) c + if atP s x y c = true then 1 else 0 := rfl
      have step : ∀ f : Option Value, Go l G mX6_count 1 0 0 41 [some (.ref M), some (.int x), some (.int y), f, some (.int (nI c))] [.int (nI (cntF (atP s x y) (c + 1)))] n (upr i (M + 1) s) r (RetI (nI (cntF (atP s x y) 80)) n (upr i (M + 1) s) r) := by
        intro f
        refine go_istore_n (z := 42) dX6_count_41 rfl (by decide) ?_
        refine go_iinc (z := 45) dX6_count_42 rfl rfl (nI_1 c) (by decide) ?_
        refine go_goto (z := 5) dX6_count_45 (by decide) ?_
        exact ih (c + 1) (by omega)
      have no : ¬ (eF s c 4 = x ∧ eF s c 2 = y) → ∀ f, Go l G mX6_count 1 0 0 39 [some (.ref M), some (.int x), some (.int y), f, some (.int (nI c))] [.int (nI (cntF (atP s x y) c))] n (upr i (M + 1) s) r (RetI (nI (cntF (atP s x y) 80)) n (upr i (M + 1) s) r) := by
        intro h f
        refine go_iconst (z := 40) (v := 0) dX6_count_39 rfl (by decide) ?_
        refine go_iadd (z := 41) dX6_count_40 rfl ?_
        refine go_st ?_ (step f)
        rw [e, show atP s x y c = false from decide_eq_false h, ← nI_add]
        rfl
      refine go_iload (z := 7) dX6_count_5 rfl rfl ?_
      refine go_bipush (z := 9) (v := 80) dX6_count_7 rfl (by decide) ?_
      refine go_icmp_ge (z := 48) (z2 := 12) dX6_count_9 rfl (by decide) (fun h => absurd ((nI_leI (a := 80) (by omega) (by omega)).mp h) (by omega)) (fun _ => ?_)
      refine go_iload_n (z := 13) dX6_count_12 rfl rfl ?_
      refine go_aload_n (z := 14) dX6_count_13 rfl rfl ?_
      refine go_iload (z := 16) dX6_count_14 rfl rfl ?_
      refine go_iconst (z := 17) (v := 4) dX6_count_16 rfl (by decide) ?_
      refine go_callV (z := 20) (t := 6) [.int (nI c), .int (nI 4)] dX6_count_17 rfl mlX6_ofErrand vX6_39 ⟨by decide, rfl⟩ hM rfl rfl (by decide) (cat_i (cat_i cat_nil)) (by simp) (by decide) (by first | decide | omega) (by first | decide | omega) (c_mOfErrand hX (by omega) (by omega)) ?_
      refine ret_elim ?_
      refine go_iload_n (z := 21) dX6_count_20 rfl rfl ?_
      refine go_icmp_ne (z := 39) (z2 := 24) dX6_count_21 rfl (by decide) (fun h1 => no (fun q => h1 q.1) _) (fun h1 => ?_)
      refine go_aload_n (z := 25) dX6_count_24 rfl rfl ?_
      refine go_iload (z := 27) dX6_count_25 rfl rfl ?_
      refine go_iconst (z := 28) (v := 2) dX6_count_27 rfl (by decide) ?_
      refine go_callV (z := 31) (t := 6) [.int (nI c), .int (nI 2)] dX6_count_28 rfl mlX6_ofErrand vX6_39 ⟨by decide, rfl⟩ hM rfl rfl (by decide) (cat_i (cat_i cat_nil)) (by simp) (by decide) (by first | decide | omega) (by first | decide | omega) (c_mOfErrand hX (by omega) (by omega)) ?_
      refine ret_elim ?_
      refine go_iload_n (z := 32) dX6_count_31 rfl rfl ?_
      refine go_icmp_ne (z := 39) (z2 := 35) dX6_count_32 rfl (by decide) (fun h2 => no (fun q => h2 q.2) _) (fun h2 => ?_)
      refine go_iconst (z := 36) (v := 1) dX6_count_35 rfl (by decide) ?_
      refine go_goto (z := 40) dX6_count_36 (by decide) ?_
      refine go_iadd (z := 41) dX6_count_40 rfl ?_
      refine go_st ?_ (step _)
      rw [e, show atP s x y c = true from decide_eq_true ⟨h1, h2⟩, ← nI_add]
      rfl
  refine go_iconst (z := 1) (v := 0) dX6_count_0 rfl (by decide) ?_
  refine go_istore_n (z := 2) dX6_count_1 rfl (by decide) ?_
  refine go_iconst (z := 3) (v := 0) dX6_count_2 rfl (by decide) ?_
  refine go_istore (z := 5) dX6_count_3 rfl (by decide) ?_
  exact loop 80 0 rfl
theorem c_mPartsOf {e : Nat} (hX : MoX G n M r) : Go l G mX6_partsOf 2 0 0 0 (lentry [.ref M, .int (nI e)] 2) [] n (upr i (M + 1) s) r (RetI (nI (cntF (atP s 8 (nI (e + 1))) 80)) n (upr i (M + 1) s) r) := by
  obtain ⟨hM, -, -⟩ := id hX
  refine go_aload_n (z := 1) dX6_partsOf_0 rfl rfl ?_
  refine go_bipush (z := 3) (v := 8) dX6_partsOf_1 rfl (by decide) ?_
  refine go_iload_n (z := 4) dX6_partsOf_3 rfl rfl ?_
  refine go_iconst (z := 5) (v := 1) dX6_partsOf_4 rfl (by decide) ?_
  refine go_iadd (z := 6) dX6_partsOf_5 rfl ?_
  refine go_st (st' := [.int (nI (e + 1)), .int 8, .ref M]) (by rw [← nI_1]) ?_
  refine go_callV (z := 9) (t := 6) [.int 8, .int (nI (e + 1))] dX6_partsOf_6 rfl mlX6_count vX6_46 ⟨by decide, rfl⟩ hM rfl rfl (by decide) (cat_i (cat_i cat_nil)) (by simp) (by decide) (by first | decide | omega) (by first | decide | omega) (c_mCount hX) ?_
  refine ret_elim ?_
  exact go_iret dX6_partsOf_9 rfl ret_ok
/-! within: up + 1 is what is carried on -/
def wthF (s : Nat → Int32) (o : Nat) : Nat → Nat → Bool
  | 0, _ => false
  | f + 1, u => if u = 0 then false else if u - 1 = o then true else wthF s o f (eF s (u - 1) 2).toNatClampNeg
/-- what an errand is a part of came ahead of it -/
def upOk (s : Nat → Int32) : Prop := ∀ e, e < 80 → ∃ w, w ≤ e ∧ eF s e 2 = nI w
def wth (s : Nat → Int32) (o u : Nat) : Bool := wthF s o u u
theorem wthF_eq {s : Nat → Int32} (hU : upOk s) {o : Nat} (f : Nat) : ∀ u, u ≤ 80 → u ≤ f → ∀ g, u ≤ g → wthF s o f u = wthF s o g u := by
  induction f with
  | zero =>
    intro u _ hf g _
    have : u = 0 := by omega
    subst this
    cases g with
    | zero => rfl
    | succ g => show false = (if (0 : Nat) = 0 then false else _); rw [if_pos rfl]
  | succ f ih =>
    intro u h80 hf g hg
    by_cases hu : u = 0
    · subst hu
      show (if (0 : Nat) = 0 then false else _) = _
      rw [if_pos rfl]
      cases g with
      | zero => rfl
      | succ g => show false = (if (0 : Nat) = 0 then false else _); rw [if_pos rfl]
    · obtain ⟨g', rfl⟩ : ∃ g', g = g' + 1 := ⟨g - 1, by omega⟩
      obtain ⟨w, hw, e⟩ := hU (u - 1) (by omega)
      show (if u = 0 then false else if u - 1 = o then true else wthF s o f (eF s (u - 1) 2).toNatClampNeg) = (if u = 0 then false else if u - 1 = o then true else wthF s o g' (eF s (u - 1) 2).toNatClampNeg)
      rw [e, nI_clamp (by omega), ih w (by omega) (by omega) g' (by omega)]
theorem wth_0 {s : Nat → Int32} {o : Nat} : wth s o 0 = false := rfl
theorem wth_s {s : Nat → Int32} (hU : upOk s) {o e w : Nat} (he : e < 80) (hw : eF s e 2 = nI w) (hwe : w ≤ e) : wth s o (e + 1) = if e = o then true else wth s o w := by
  show (if e + 1 = 0 then false else if e + 1 - 1 = o then true else wthF s o e (eF s (e + 1 - 1) 2).toNatClampNeg) = _
  rw [if_neg (by omega), Nat.add_sub_cancel, hw, nI_clamp (by omega), wthF_eq hU e w (by omega) hwe w (Nat.le_refl _)]
  rfl
theorem c_mWithin {e o : Nat} (hX : MoX G n M r) (hU : upOk s) (he : e < 80) (ho : o < 80) : Go l G mX6_isWithin 1 0 0 0 (lentry [.ref M, .int (nI e), .int (nI o)] 4) [] n (upr i (M + 1) s) r (RetI (b2i (wth s o (e + 1))) n (upr i (M + 1) s) r) := by
  obtain ⟨hM, -, -⟩ := id hX
  have loop : ∀ d u, u ≤ d → u ≤ 80 → Go l G mX6_isWithin 1 0 0 2 [some (.ref M), some (.int (nI e)), some (.int (nI o)), some (.int (nI u - 1))] [] n (upr i (M + 1) s) r (RetI (b2i (wth s o u)) n (upr i (M + 1) s) r) := by
    intro d
    induction d with
    | zero =>
      intro u hd hu
      have hc : u = 0 := by omega
      subst hc
      refine go_iload_n (z := 3) dX6_isWithin_2 rfl rfl ?_
      refine go_if_lt (z := 23) (z2 := 6) dX6_isWithin_3 rfl (by decide) (fun _ => ?_) (fun h => absurd (by decide) h)
      refine go_iload_n (z := 24) dX6_isWithin_23 rfl rfl ?_
      refine go_iload_n (z := 25) dX6_isWithin_24 rfl rfl ?_
      refine go_icmp_ne (z := 32) (z2 := 28) dX6_isWithin_25 rfl (by decide) (fun _ => ?_) (fun h => absurd (show nI o < 0 by rw [← h]; decide) (nI_pos (by omega)))
      refine go_iconst (z := 33) (v := 0) dX6_isWithin_32 rfl (by decide) ?_
      exact go_zret dX6_isWithin_33 rfl (congrArg Value.int (by decide)) ret_ok
    | succ d ih =>
      intro u hd hu
      by_cases hu0 : u = 0
      · exact ih u (by omega) hu
      · obtain ⟨q, rfl⟩ : ∃ q, u = q + 1 := ⟨u - 1, by omega⟩
        rw [nI_pred]
        obtain ⟨w, hw, ew⟩ := hU q (by omega)
        have e1 := wth_s hU (o := o) (by omega) ew hw
        refine go_iload_n (z := 3) dX6_isWithin_2 rfl rfl ?_
        refine go_if_lt (z := 23) (z2 := 6) dX6_isWithin_3 rfl (by decide) (fun h => absurd h (nI_pos (by omega))) (fun _ => ?_)
        refine go_iload_n (z := 7) dX6_isWithin_6 rfl rfl ?_
        refine go_iload_n (z := 8) dX6_isWithin_7 rfl rfl ?_
        refine go_icmp_eq (z := 23) (z2 := 11) dX6_isWithin_8 rfl (by decide) (fun h => ?_) (fun h => ?_)
        · have hq : q = o := (nI_eq (by omega) (by omega)).mp h
          refine go_iload_n (z := 24) dX6_isWithin_23 rfl rfl ?_
          refine go_iload_n (z := 25) dX6_isWithin_24 rfl rfl ?_
          refine go_icmp_ne (z := 32) (z2 := 28) dX6_isWithin_25 rfl (by decide) (fun h2 => absurd h h2) (fun _ => ?_)
          refine go_iconst (z := 29) (v := 1) dX6_isWithin_28 rfl (by decide) ?_
          refine go_goto (z := 33) dX6_isWithin_29 (by decide) ?_
          refine go_zret dX6_isWithin_33 rfl (congrArg Value.int (by decide)) ?_
          rw [e1, if_pos hq]
          exact ret_ok
        · have hq : ¬ q = o := fun c => h (by rw [c])
          rw [e1, if_neg hq]
          refine go_aload_n (z := 12) dX6_isWithin_11 rfl rfl ?_
          refine go_iload_n (z := 13) dX6_isWithin_12 rfl rfl ?_
          refine go_iconst (z := 14) (v := 2) dX6_isWithin_13 rfl (by decide) ?_
          refine go_callV (z := 17) (t := 6) [.int (nI q), .int (nI 2)] dX6_isWithin_14 rfl mlX6_ofErrand vX6_39 ⟨by decide, rfl⟩ hM rfl rfl (by decide) (cat_i (cat_i cat_nil)) (by simp) (by decide) (by first | decide | omega) (by first | decide | omega) (c_mOfErrand hX (by omega) (by omega)) ?_
          refine ret_elim ?_
          refine go_iconst (z := 18) (v := 1) dX6_isWithin_17 rfl (by decide) ?_
          refine go_isub (z := 19) dX6_isWithin_18 rfl ?_
          refine go_istore_n (z := 20) dX6_isWithin_19 rfl (by decide) ?_
          refine go_goto (z := 2) dX6_isWithin_20 (by decide) ?_
          rw [ew]
          exact ih w (by omega) (by omega)
  refine go_iload_n (z := 1) dX6_isWithin_0 rfl rfl ?_
  refine go_istore_n (z := 2) dX6_isWithin_1 rfl (by decide) ?_
  refine go_lo ?_ (loop 80 (e + 1) (by omega) (by omega))
  rw [nI_pred]
  rfl
end MSEARCH
