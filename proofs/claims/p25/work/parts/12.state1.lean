/-! the messages' row is put in another order, one of them perhaps written anew -/
theorem Rep.reM {S : Nat} {m : MS} {i i' : IP} {r r' : RP} {mx : Nat → Nat} (hR : Rep S m i r) (hX : RepX S r mx) (s : Nat → Nat) (ms : List Mg) (hs : ∀ j, j < 141 → s j < 141) (hj : ∀ j k, j < 141 → k < 141 → s j = s k → j = k) (hr : ∀ j, j < 141 → r' (S + 3) j = some (mx (s j)))
    (ho : ∀ a, a < S + 16 ∨ S + 157 ≤ a → a ≠ S + 3 → r' a = r a) (hi : ∀ a k, a < S + 16 ∨ S + 157 ≤ a → ¬ (a = S ∧ k = 6) → i' a k = i a k) (h6 : i' S 6 = nI ms.length) (hl : ms.length ≤ 141) (hc : ∀ j x, ms[j]? = some x → (∀ f, f < 5 → i' (mx (s j)) f = x.1 f) ∧ r' (mx (s j)) 5 = x.2) : Rep S (sM m ms) i' r' ∧ Out S i r i' r' := by
  obtain ⟨h1, h2, h3, h4, h5, -⟩ := hR
  refine ⟨⟨⟨?_, ?_, ?_, fun q hq => ⟨?_, ?_⟩⟩, fun k hk => ?_, fun k hk => ?_, fun q hq f hf => ?_, fun q hq => ⟨(h5 q hq).1, (h5 q hq).2.1, fun c a hc' => ?_⟩, fun j => mx (s j), ⟨fun j hj' => ⟨hr j hj', (hX.1 _ (hs j hj')).2⟩, fun j k hj' hk e => hj j k hj' hk (hX.2 _ _ (hs j hj') (hs k hk) e)⟩, hl, h6, hc⟩, fun a ha => ⟨?_, ?_⟩⟩
  · rw [ho S (by omega) (by omega)]; exact h1.1
  · rw [ho S (by omega) (by omega)]; exact h1.2.1
  · rw [ho S (by omega) (by omega)]; exact h1.2.2.1
  · rw [ho _ (by omega) (by omega)]; exact (h1.2.2.2 q hq).1
  · rw [ho _ (by omega) (by omega)]; exact (h1.2.2.2 q hq).2
  · rw [hi S k (by omega) (by omega)]; exact h2 k hk
  · rw [hi _ k (by omega) (by omega)]; exact h3 k hk
  · rw [hi _ f (by omega) (by omega)]; exact h4 q hq f hf
  · rw [ho _ (by omega) (by omega)]; exact (h5 q hq).2.2 c a hc'
  · funext k; exact hi a k (by omega) (by omega)
  · exact ho a (by omega) (by omega)
theorem insPos_le (A : Nat → Int32) (y : Int32) (n : Nat) : insPos A y n ≤ n := by
  induction n with
  | zero => exact Nat.le_refl 0
  | succ n ih =>
    unfold insPos
    split
    · exact Nat.le_refl _
    · omega
theorem ins_get {α : Type} (l : List α) (x : α) {q : Nat} (hq : q ≤ l.length) (j : Nat) : (l.take q ++ x :: l.drop q)[j]? = if j < q then l[j]? else if j = q then some x else l[j - 1]? := by
  have hl : (l.take q).length = q := by simp; omega
  by_cases h1 : j < q
  · rw [if_pos h1, List.getElem?_append_left (by omega), List.getElem?_take, if_pos h1]
  · rw [if_neg h1, List.getElem?_append_right (by omega), hl]
    by_cases h2 : j = q
    · subst h2; simp
    · rw [if_neg h2]
      obtain ⟨d, hd⟩ : ∃ d, j - q = d + 1 := ⟨j - q - 1, by omega⟩
      rw [hd, List.getElem?_cons_succ, List.getElem?_drop]
      congr 1
      omega
theorem lA_some {ms : List Mg} {c : Nat} {x : Mg} (h : ms[c]? = some x) : lA ms c = x.1 4 := by unfold lA; rw [h]
section STATE1
variable {l : Launch} {G : GG} {n : Nat} {i : IP} {r : RP} {S : Nat} {m : MS}
theorem c_post (hL : StL G n S) (hR : Rep S m i r) {k g : Int32} {f t : Nat} {e : Option Nat} (hf : f < 7) (ht : t < 7) (hcap : m.2.2.2.2.length < 141) : Go l G mX4_post 0 0 0 0 (lentry [.ref S, .int k, .int (nI f), .int (nI t), .int g, va_rf e] 9) [] n i r (Chg n S i r (mPost m k f t g e)) := by
  have hR0 := hR
  obtain ⟨h1, h2, h3, h4, h5, mx, hX, hlen, h6, hM⟩ := hR
  generalize hms : m.2.2.2.2 = ms at hcap hlen h6 hM
  have hs := hL.s
  have hw := hL.w
  have hmm := hL.ms
  have e3 := h1.1
  have e5 := h1.2.2.1
  have hway : nI f * 7 + nI t = nI (f * 7 + t) := by rw [← nI_add, ← pk_mul]; rfl
  refine go_iload_n (z := 1) dX4_post_0 rfl rfl ?_
  refine go_bipush (z := 3) (v := 7) dX4_post_1 rfl (by decide) ?_
  refine go_imul (z := 4) dX4_post_3 rfl ?_
  refine go_iload_n (z := 5) dX4_post_4 rfl rfl ?_
  refine go_iadd (z := 6) dX4_post_5 rfl ?_
  refine go_istore (z := 8) dX4_post_6 rfl (by decide) ?_
  refine go_iload (z := 10) dX4_post_8 rfl rfl ?_
  refine go_st (st' := [.int (nI (f * 7 + t))]) (by rw [hway]) ?_
  refine go_if_lt (z := 42) (z2 := 13) dX4_post_10 rfl (by decide) (fun h => absurd h (nI_pos (by omega))) (fun _ => ?_)
  refine go_lo (lo' := [some (.ref S), some (.int k), some (.int (nI f)), some (.int (nI t)), some (.int g), some (va_rf e), some (.int (nI (f * 7 + t))), none, none]) (by rw [← hway]; rfl) ?_
  refine go_iload (z := 15) dX4_post_13 rfl rfl ?_
  refine go_aload_n (z := 16) dX4_post_15 rfl rfl ?_
  refine go_getR (z := 19) dX4_post_16 rfl fX4_18 (by assumption) rfl (by assumption) ?_
  refine go_alen (z := 20) (by assumption) (by decide) dX4_post_19 rfl ?_
  refine go_icmp_ge (z := 42) (z2 := 23) dX4_post_20 rfl (by decide) (fun h => absurd h (nI_ge (by omega) (by omega))) (fun _ => ?_)
  refine go_aload_n (z := 24) dX4_post_23 rfl rfl ?_
  refine go_getI (z := 27) dX4_post_24 rfl fX4_51 (by assumption) rfl ?_
  refine go_if_lt (z := 42) (z2 := 30) dX4_post_27 rfl (by decide) (fun h => absurd h (by rw [h6]; exact nI_pos (by omega))) (fun _ => ?_)
  refine go_aload_n (z := 31) dX4_post_30 rfl rfl ?_
  refine go_getI (z := 34) dX4_post_31 rfl fX4_51 (by assumption) rfl ?_
  refine go_aload_n (z := 35) dX4_post_34 rfl rfl ?_
  refine go_getR (z := 38) dX4_post_35 rfl fX4_30 (by assumption) rfl (by assumption) ?_
  refine go_alen (z := 39) (by assumption) (by decide) dX4_post_38 rfl ?_
  refine go_icmp_lt (z := 43) (z2 := 42) dX4_post_39 rfl (by decide) (fun _ => ?_) (fun h => absurd (by rw [h6]; exact nI_lt hcap (by omega)) h)
  obtain ⟨hx1, hx2, hx3⟩ := hX.1 ms.length hcap
  have hMe := hL.me hx2 hx3
  refine go_aload_n (z := 44) dX4_post_43 rfl rfl ?_
  refine go_getR (z := 47) dX4_post_44 rfl fX4_30 (by assumption) rfl (by assumption) ?_
  refine go_aload_n (z := 48) dX4_post_47 rfl rfl ?_
  refine go_getI (z := 51) dX4_post_48 rfl fX4_51 (by assumption) rfl ?_
  refine go_aaldR (z := 52) ms.length (by assumption) ⟨by decide, by decide⟩ (by decide) h6 (by omega) (by assumption) dX4_post_51 rfl ?_
  refine go_astore (z := 54) dX4_post_52 rfl (by decide) ?_
  refine go_aload (z := 56) dX4_post_54 rfl rfl ?_
  refine go_iload_n (z := 57) dX4_post_56 rfl rfl ?_
  refine go_putI (z := 60) dX4_post_57 rfl fX4_108 hMe rfl (Or.inl rfl) rfl ?_
  refine go_aload (z := 62) dX4_post_60 rfl rfl ?_
  refine go_iload_n (z := 63) dX4_post_62 rfl rfl ?_
  refine go_putI (z := 66) dX4_post_63 rfl fX4_111 hMe rfl (Or.inl rfl) rfl ?_
  refine go_aload (z := 68) dX4_post_66 rfl rfl ?_
  refine go_iload_n (z := 69) dX4_post_68 rfl rfl ?_
  refine go_putI (z := 72) dX4_post_69 rfl fX4_114 hMe rfl (Or.inl rfl) rfl ?_
  refine go_aload (z := 74) dX4_post_72 rfl rfl ?_
  refine go_iload (z := 76) dX4_post_74 rfl rfl ?_
  refine go_putI (z := 79) dX4_post_76 rfl fX4_117 hMe rfl (Or.inl rfl) rfl ?_
  refine go_aload (z := 81) dX4_post_79 rfl rfl ?_
  refine go_aload_n (z := 82) dX4_post_81 rfl rfl ?_
  refine go_getI (z := 85) dX4_post_82 rfl fX4_40 (by assumption) rfl ?_
  refine go_aload_n (z := 86) dX4_post_85 rfl rfl ?_
  refine go_getR (z := 89) dX4_post_86 rfl fX4_18 (by assumption) rfl (by assumption) ?_
  refine go_iload (z := 91) dX4_post_89 rfl rfl ?_
  refine go_iald (z := 92) (f * 7 + t) (by assumption) (by decide) rfl (by omega) dX4_post_91 rfl ?_
  refine go_iadd (z := 93) dX4_post_92 rfl ?_
  refine go_putI (z := 96) dX4_post_93 rfl fX4_120 hMe rfl (Or.inl rfl) rfl ?_
  refine go_aload (z := 98) dX4_post_96 rfl rfl ?_
  refine go_aloadO (z := 100) dX4_post_98 rfl rfl ?_
  refine go_putO (z := 103) dX4_post_100 rfl fX4_123 hMe rfl (Or.inl rfl) ?_
  refine go_aload_n (z := 104) dX4_post_103 rfl rfl ?_
  refine go_getI (z := 107) dX4_post_104 rfl fX4_51 (by assumption) rfl ?_
  refine go_istore (z := 109) dX4_post_107 rfl (by decide) ?_
  generalize hI : ups (ups (ups (ups (ups _ _ _ _) _ _ _) _ _ _) _ _ _) _ _ _ = i1
  generalize hRR : ups r _ _ _ = r1
  have hi1 : ∀ a, a ≠ mx ms.length → i1 a = i a := fun a ha => by rw [← hI]; simp only [ups_row ha]
  have hr1 : ∀ a, a ≠ mx ms.length → r1 a = r a := fun a ha => by rw [← hRR]; exact ups_row ha
  have hi2 : ∀ q, q < 5 → i1 (mx ms.length) q = mg k (nI f) (nI t) g (m.1 0 + m.2.1 (f * 7 + t)) q := fun q hq => by
    have g1 : S ≠ mx ms.length := by omega
    have g2 : S + 1 ≠ mx ms.length := by omega
    rw [← hI]
    simp only [ups_a g1, ups_a g2]
    rcases (show q = 0 ∨ q = 1 ∨ q = 2 ∨ q = 3 ∨ q = 4 by omega) with rfl | rfl | rfl | rfl | rfl
    · simp [ups, mg]
    · simp [ups, mg]
    · simp [ups, mg]
    · simp [ups, mg]
    · rw [ups_s, h2 0 (by omega), h3 _ (by omega)]; rfl
  have hr2 : r1 (mx ms.length) 5 = e := by rw [← hRR]; exact ups_s
  have hi6 : i1 S 6 = nI ms.length := by rw [hi1 S (by omega)]; exact h6
  clear hI hRR
  refine go_lo (lo' := [some (.ref S), some (.int k), some (.int (nI f)), some (.int (nI t)), some (.int g), some (va_rf e), some (.int (nI (f * 7 + t))), some (.ref (mx ms.length)), some (.int (nI ms.length))]) (by rw [← hi6]; rfl) ?_
  generalize hy : m.1 0 + m.2.1 (f * 7 + t) = y at hi2
  have hy4 : i1 (mx ms.length) 4 = y := hi2 4 (by omega)
  have hA : ∀ c, c < ms.length → i1 (mx c) 4 = lA ms c := fun c hc => by
    have hget : ms[c]? = some ms[c] := List.getElem?_eq_getElem hc
    rw [lA_some hget, ← (hM c _ hget).1 4 (by omega), hi1 _ (fun q => by have := hX.2 c ms.length (by omega) hcap q; omega)]
  have fin : ∀ q r2, q ≤ ms.length → q = insPos (lA ms) y ms.length → (∀ a, a ≠ S + 3 → r2 a = r1 a) → (∀ j, j < q → r2 (S + 3) j = r (S + 3) j) → (∀ j, q < j → j ≤ ms.length → r2 (S + 3) j = r (S + 3) (j - 1)) → (∀ j, ms.length < j → r2 (S + 3) j = r (S + 3) j) → Go l G mX4_post 0 0 0 156 [some (.ref S), some (.int k), some (.int (nI f)), some (.int (nI t)), some (.int g), some (va_rf e), some (.int (nI (f * 7 + t))), some (.ref (mx ms.length)), some (.int (nI q))] [] n i1 r2 (Chg n S i r (mPost m k f t g e)) := by
    intro q r2 hq hqe g1 g2 g3 g4
    have e5' : r2 S 5 = some (S + 3) := by rw [g1 S (by omega), hr1 S (by omega)]; exact e5
    refine go_aload_n (z := 157) dX4_post_156 rfl rfl ?_
    refine go_getR (z := 160) dX4_post_157 rfl fX4_30 (by assumption) rfl (by assumption) ?_
    refine go_iload (z := 162) dX4_post_160 rfl rfl ?_
    refine go_aload (z := 164) dX4_post_162 rfl rfl ?_
    refine go_aastR (z := 165) _ (by assumption) ⟨by decide, by decide⟩ (by decide) rfl (by omega) hMe (by decide) rfl dX4_post_164 rfl ?_
    refine go_aload_n (z := 166) dX4_post_165 rfl rfl ?_
    refine go_dup (z := 167) dX4_post_166 rfl rfl ?_
    refine go_getI (z := 170) dX4_post_167 rfl fX4_51 (by assumption) rfl ?_
    refine go_iconst (z := 171) (v := 1) dX4_post_170 rfl (by decide) ?_
    refine go_iadd (z := 172) dX4_post_171 rfl ?_
    refine go_putI (z := 175) dX4_post_172 rfl fX4_51 (by assumption) rfl (Or.inl rfl) rfl ?_
    have key := Rep.reM (i' := ups i1 S 6 (i1 S 6 + 1)) (r' := ups r2 (S + 3) q (some (mx ms.length))) hR0 hX (fun j => if j < q then j else if j = q then ms.length else if j ≤ ms.length then j - 1 else j) (ms.take q ++ (mg k (nI f) (nI t) g y, e) :: ms.drop q) (fun j hj => by split <;> (try split) <;> (try split) <;> omega) (fun a b ha hb hab => by split at hab <;> split at hab <;> (try split at hab) <;> (try split at hab) <;> (try split at hab) <;> (try split at hab) <;> omega) ?_ ?_ ?_ ?_ ?_ ?_
    · refine go_vret dX4_post_175 rfl ⟨rfl, rfl, ?_, key.2⟩
      have : mPost m k f t g e = sM m (ms.take q ++ (mg k (nI f) (nI t) g y, e) :: ms.drop q) := by
        have hqe' : insPos (lA ms) (((mg k (nI f) (nI t) g y, e) : Mg).1 4) ms.length = q := hqe.symm
        unfold mPost ins
        rw [hms, hy, hqe']
      rw [this]
      exact key.1
    · intro j hj
      by_cases a1 : j = q
      · subst a1
        rw [ups_s]
        simp
      · rw [ups_k a1]
        by_cases a2 : j < q
        · rw [if_pos a2, g2 j a2]; exact (hX.1 j hj).1
        · rw [if_neg a2, if_neg a1]
          by_cases a3 : j ≤ ms.length
          · rw [if_pos a3, g3 j (by omega) a3]; exact (hX.1 _ (by omega)).1
          · rw [if_neg a3, g4 j (by omega)]; exact (hX.1 j hj).1
    · intro a ha ha2
      rw [ups_row ha2, g1 a ha2, hr1 a (by omega)]
    · intro a c ha hac
      by_cases a1 : a = S
      · subst a1
        rw [ups_k (fun q => hac ⟨rfl, q⟩), hi1 a (by omega)]
      · rw [ups_a a1, hi1 a (by omega)]
    · rw [ups_s, hi6]
      simp only [List.length_append, List.length_take, List.length_cons, List.length_drop]
      rw [show min q ms.length + (ms.length - q + 1) = ms.length + 1 by omega]
      exact nI_1 _
    · simp only [List.length_append, List.length_take, List.length_cons, List.length_drop]
      omega
    · intro j x hx
      rw [ins_get ms _ hq] at hx
      have hne : ∀ c, c < ms.length → mx c ≠ mx ms.length := fun c hc q => by have := hX.2 c ms.length (by omega) hcap q; omega
      have old : ∀ c, c < ms.length → ms[c]? = some x → (∀ f, f < 5 → ups i1 S 6 (i1 S 6 + 1) (mx c) f = x.1 f) ∧ ups r2 (S + 3) q (some (mx ms.length)) (mx c) 5 = x.2 := by
        intro c hc hcx
        have hb := hX.1 c (by omega)
        refine ⟨fun f hf => ?_, ?_⟩
        · rw [ups_a (by omega), hi1 _ (hne c hc)]; exact (hM c x hcx).1 f hf
        · rw [ups_a (by omega), g1 _ (by omega), hr1 _ (hne c hc)]; exact (hM c x hcx).2
      by_cases a1 : j < q
      · rw [if_pos a1] at hx ⊢
        exact old j (by omega) hx
      · rw [if_neg a1] at hx ⊢
        by_cases a2 : j = q
        · rw [if_pos a2] at hx ⊢
          cases hx
          refine ⟨fun f hf => ?_, ?_⟩
          · rw [ups_a (by omega)]; exact hi2 f hf
          · rw [ups_a (by omega), g1 _ (by omega)]; exact hr2
        · rw [if_neg a2] at hx ⊢
          have hj1 : j - 1 < ms.length := (List.getElem?_eq_some_iff.mp hx).1
          rw [if_pos (by omega)]
          exact old (j - 1) hj1 hx
  have loop : ∀ q r2, q ≤ ms.length → insPos (lA ms) y q = insPos (lA ms) y ms.length → (∀ a, a ≠ S + 3 → r2 a = r1 a) → (∀ j, j ≤ q → r2 (S + 3) j = r (S + 3) j) → (∀ j, q < j → j ≤ ms.length → r2 (S + 3) j = r (S + 3) (j - 1)) → (∀ j, ms.length < j → r2 (S + 3) j = r (S + 3) j) → Go l G mX4_post 0 0 0 109 [some (.ref S), some (.int k), some (.int (nI f)), some (.int (nI t)), some (.int g), some (va_rf e), some (.int (nI (f * 7 + t))), some (.ref (mx ms.length)), some (.int (nI q))] [] n i1 r2 (Chg n S i r (mPost m k f t g e)) := by
    intro q
    induction q with
    | zero =>
      intro r2 hq hp g1 g2 g3 g4
      refine go_iload (z := 111) dX4_post_109 rfl rfl ?_
      refine go_if_le (z := 156) (z2 := 114) dX4_post_111 rfl (by decide) (fun _ => ?_) (fun h => absurd (by decide) h)
      exact fin 0 r2 hq hp g1 (fun j hj => g2 j (by omega)) g3 g4
    | succ q ih =>
      intro r2 hq hp g1 g2 g3 g4
      have e5' : r2 S 5 = some (S + 3) := by rw [g1 S (by omega), hr1 S (by omega)]; exact e5
      have hbq := hX.1 q (by omega)
      have hq1 : r2 (S + 3) q = some (mx q) := by rw [g2 q (by omega)]; exact hbq.1
      have hMq := hL.me hbq.2.1 hbq.2.2
      refine go_iload (z := 111) dX4_post_109 rfl rfl ?_
      refine go_if_le (z := 156) (z2 := 114) dX4_post_111 rfl (by decide) (fun h => absurd h (nI_nle (by omega) (by omega))) (fun _ => ?_)
      refine go_aload_n (z := 115) dX4_post_114 rfl rfl ?_
      refine go_getR (z := 118) dX4_post_115 rfl fX4_30 (by assumption) rfl (by assumption) ?_
      refine go_iload (z := 120) dX4_post_118 rfl rfl ?_
      refine go_iconst (z := 121) (v := 1) dX4_post_120 rfl (by decide) ?_
      refine go_isub (z := 122) dX4_post_121 rfl ?_
      refine go_aaldR (z := 123) q (by assumption) ⟨by decide, by decide⟩ (by decide) (nI_pred q) (by omega) (by assumption) dX4_post_122 rfl ?_
      refine go_getI (z := 126) dX4_post_123 rfl fX4_120 hMq rfl ?_
      refine go_aload (z := 128) dX4_post_126 rfl rfl ?_
      refine go_getI (z := 131) dX4_post_128 rfl fX4_120 hMe rfl ?_
      refine go_icmp_le (z := 156) (z2 := 134) dX4_post_131 rfl (by decide) (fun h => ?_) (fun h => ?_)
      · rw [hA q (by omega), hy4] at h
        refine fin (q + 1) r2 hq (hp ▸ ?_) g1 (fun j hj => g2 j (by omega)) g3 g4
        unfold insPos
        rw [if_pos h]
      · rw [hA q (by omega), hy4] at h
        refine go_aload_n (z := 135) dX4_post_134 rfl rfl ?_
        refine go_getR (z := 138) dX4_post_135 rfl fX4_30 (by assumption) rfl (by assumption) ?_
        refine go_iload (z := 140) dX4_post_138 rfl rfl ?_
        refine go_aload_n (z := 141) dX4_post_140 rfl rfl ?_
        refine go_getR (z := 144) dX4_post_141 rfl fX4_30 (by assumption) rfl (by assumption) ?_
        refine go_iload (z := 146) dX4_post_144 rfl rfl ?_
        refine go_iconst (z := 147) (v := 1) dX4_post_146 rfl (by decide) ?_
        refine go_isub (z := 148) dX4_post_147 rfl ?_
        refine go_aaldR (z := 149) q (by assumption) ⟨by decide, by decide⟩ (by decide) (nI_pred q) (by omega) (by assumption) dX4_post_148 rfl ?_
        refine go_aastR (z := 150) _ (by assumption) ⟨by decide, by decide⟩ (by decide) rfl (by omega) hMq (by decide) rfl dX4_post_149 rfl ?_
        refine go_iinc (z := 153) dX4_post_150 rfl rfl (pk_m1 q) (by decide) ?_
        refine go_goto (z := 109) dX4_post_153 (by decide) ?_
        refine go_lo (lo' := [some (.ref S), some (.int k), some (.int (nI f)), some (.int (nI t)), some (.int g), some (va_rf e), some (.int (nI (f * 7 + t))), some (.ref (mx ms.length)), some (.int (nI q))]) rfl (ih _ (by omega) (hp ▸ ?_) (fun a ha => (ups_row ha).trans (g1 a ha)) (fun j hj => (ups_k (by omega)).trans (g2 j (by omega))) (fun j hj1 hj2 => ?_) (fun j hj => (ups_k (by omega)).trans (g4 j hj)))
        · show insPos (lA ms) y q = insPos (lA ms) y (q + 1)
          conv => rhs; unfold insPos
          rw [if_neg h]
        · by_cases a1 : j = q + 1
          · subst a1; rw [ups_s]; exact (hX.1 q (by omega)).1.symm
          · exact (ups_k a1).trans (g3 j (by omega) hj2)
  refine loop ms.length r1 (Nat.le_refl _) rfl (fun _ _ => rfl) (fun j _ => by rw [hr1 _ (by omega)]) (fun j a b => absurd b (by omega)) (fun j _ => by rw [hr1 _ (by omega)])
end STATE1
