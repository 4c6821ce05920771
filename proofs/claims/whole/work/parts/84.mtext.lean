/-! a text is read at the reference -/
def RtQ (M n len : Nat) (R : Sum Nat RS) (i : IP) (r : RP) : QP := fun v n' i' r' => v = some (.int (o2i (errOf len R))) ∧ n' = n ∧ r' = r ∧ OutX M i i' ∧ (∀ p, errOf len R = some p → p ≤ 60) ∧ (errOf len R = none → ∃ L d due p, R = .inr (L, d, due) ∧ RdS M p d L i' ∧ RInv (L, d, due) len)
section MTEXT
variable {l : Launch} {G : GG} {n : Nat} {i i0 : IP} {r : RP} {M : Nat} {tx : Nat → Int32} {len p d due : Nat} {L : List RN} {R : Sum Nat RS}
theorem rs34 {x : Int32} (h : due = 3 ∨ due = 4) (h40 : due = 3 → x ≠ 40) (hd : ¬ (48 ≤ x ∧ x ≤ 57)) : rstep (L, d, due) x = rAfter (L, d, due) x := by
  rcases h with e | e
  · subst e
    show (if x = 40 then some (L, d + 1, 0) else if 48 ≤ x ∧ x ≤ 57 then (if lastW L = 0 then none else rDigit (L, d, 3) x) else rAfter (L, d, 3) x) = _
    rw [if_neg (h40 rfl), if_neg hd]
  · subst e
    rfl
theorem rt_fail {p' : Nat} {i' : IP} (h1 : OutX M i0 i') (h3 : p' ≤ len) (hl : len ≤ 60) (h4 : errOf len R = some p') : RtQ M n len R i0 r (some (.int (nI p'))) n i' r := ⟨by rw [h4]; rfl, rfl, rfl, h1, fun p hp => by rw [h4] at hp; have := Option.some.inj hp; omega, fun hn => by rw [h4] at hn; cases hn⟩
theorem hd_elim {P : Option Value → Nat → IP → RP → Prop} {i : IP} (K1 : ∀ i' p' g w, OutX M i i' → p < p' → RdS M p' d (L ++ [(g, w, d)]) i' → p' ≤ len → R = rgo tx (L ++ [(g, w, d)], d, 3) p' (len - p') → RInv (L ++ [(g, w, d)], d, 3) p' → (p' < len → 48 ≤ tx p' → tx p' ≤ 57 → rstep (L ++ [(g, w, d)], d, 3) (tx p') = none) → P (some (.int 1)) n i' r) (K2 : ∀ i' p', OutX M i i' → i' M 10 = nI p' → p' ≤ len → errOf len R = some p' → P (some (.int 0)) n i' r) : ∀ v n' i' r', HdQ M n p d L tx len R i r v n' i' r' → P v n' i' r' := by
  rintro v n' i' r' ⟨h1, h2, h3, h4⟩
  rw [h1, h2]
  rcases h4 with ⟨h5, p', g, w, h6, h7, h8, h9, h10, h11⟩ | ⟨h5, p', h6, h7, h8⟩
  · rw [h5]
    exact K1 i' p' g w h3 h6 h7 h8 h9 h10 h11
  · rw [h5]
    exact K2 i' p' h3 h6 h7 h8
theorem c_mTextLoop (hY : MoY G n M r) (k : Nat) : ∀ (p d : Nat) (L : List RN) (due : Nat) (i : IP) (o2 : Option Value), len - p ≤ k → p ≤ len → (due = 3 ∨ due = 4) → RdC M len tx i → RdS M p d L i → OutX M i0 i → R = rgo tx (L, d, due) p (len - p) → RInv (L, d, due) p → (due = 3 → p < len → 48 ≤ tx p → tx p ≤ 57 → rstep (L, d, due) (tx p) = none) → Go l G mX6_readText 4 0 0 29 [some (.ref M), some (.int (b2i (decide (due = 3)))), o2] [] n i r (RtQ M n len R i0 r) := by
  obtain ⟨⟨hM, hr0, hs⟩, ⟨hr1, hr3, hr5, hr6, hr8, hr12⟩, hA2, hA3, hA4, hA5, hA6, hA7⟩ := id hY
  induction k with
  | zero =>
    intro p d L due i o2 hk hp hdue hC hS ho hG hI hX
    have hpl : p = len := by omega
    subst hpl
    rw [rgo_e] at hG
    refine go_aload_n (z := 30) dX6_readText_29 rfl rfl ?_
    refine go_getI (z := 33) dX6_readText_30 rfl fX6_113 (by assumption) rfl ?_
    refine go_aload_n (z := 34) dX6_readText_33 rfl rfl ?_
    refine go_getI (z := 37) dX6_readText_34 rfl fX6_110 (by assumption) rfl ?_
    rw [hS.1, hC.1]
    refine go_icmp_ge (z := 146) (z2 := 40) dX6_readText_37 rfl (by decide) (fun _ => ?_) (fun h => absurd (Int32.le_refl _) h)
    refine go_aload_n (z := 147) dX6_readText_146 rfl rfl ?_
    refine go_getI (z := 150) dX6_readText_147 rfl fX6_125 (by assumption) rfl ?_
    rw [hS.2.2.1]
    have hd60 : d < 2 ^ 31 := by
      have h3 := hI.2.2
      have hl := hC.2.1
      have hm : mL L ≤ L.length := hI.1.2.2.2.2.2.2.2.2.2.2.2.2
      rcases h3 with q | q | q | q | q
      · have := q.2.1; have := q.2.2; dsimp only at *; omega
      · have := q.2.1; have := q.2.2; dsimp only at *; omega
      · have := q.2.1; have := q.2.2; dsimp only at *; omega
      · have := q.2.1; have := q.2.2; dsimp only at *; omega
      · have := q.2.1; have := q.2.2; dsimp only at *; omega
    refine go_if_ne (z := 158) (z2 := 153) dX6_readText_150 rfl (by decide) (fun hd => ?_) (fun hd => ?_)
    · have hd0 : d ≠ 0 := fun q => hd (by rw [q]; rfl)
      refine go_aload_n (z := 159) dX6_readText_158 rfl rfl ?_
      refine go_getI (z := 162) dX6_readText_159 rfl fX6_113 (by assumption) rfl ?_
      rw [hS.1]
      refine go_iret dX6_readText_162 rfl (rt_fail ho (Nat.le_refl _) hC.2.1 ?_)
      rw [hG]
      show (if rdOk (L, d, due) = true then none else some p) = some p
      rw [show rdOk (L, d, due) = false from decide_eq_false (fun q => hd0 q.1), if_neg (by decide)]
    · have hd0 : d = 0 := by
        have := (nI_eq (b := 0) hd60 (by omega)).mp hd
        exact this
      have he : errOf p R = none := by
        rw [hG]
        show (if rdOk (L, d, due) = true then none else some p) = none
        rw [show rdOk (L, d, due) = true from decide_eq_true ⟨hd0, hdue⟩, if_pos rfl]
      refine go_bipush (z := 155) (v := (-5)) dX6_readText_153 rfl (by decide) ?_
      refine go_goto (z := 162) dX6_readText_155 (by decide) ?_
      refine go_iret dX6_readText_162 rfl ⟨by rw [he]; rfl, rfl, rfl, ho, fun p hp => (by rw [he] at hp; cases hp), fun _ => ⟨L, d, due, _, hG, hS, hI⟩⟩
  | succ k ih =>
    intro p d L due i o2 hk hp hdue hC hS ho hG hI hX
    by_cases hpl : p = len
    · exact ih p d L due i o2 (by omega) hp hdue hC hS ho hG hI hX
    have hlt : p < len := by omega
    have hl60 := hC.2.1
    have hd60 : d < 60 := by
      have h3 := hI.2.2
      have hm : mL L ≤ L.length := hI.1.2.2.2.2.2.2.2.2.2.2.2.2
      rcases h3 with q | q | q | q | q
      · have := q.2.1; have := q.2.2; dsimp only at *; omega
      · have := q.2.1; have := q.2.2; dsimp only at *; omega
      · have := q.2.1; have := q.2.2; dsimp only at *; omega
      · have := q.2.1; have := q.2.2; dsimp only at *; omega
      · have := q.2.1; have := q.2.2; dsimp only at *; omega
    have right : ∀ (i1 : IP) (p1 d1 : Nat) (L1 : List RN) (due1 : Nat), p < p1 → p1 ≤ len → (due1 = 3 ∨ due1 = 4) → RdS M p1 d1 L1 i1 → OutX M i0 i1 → RdC M len tx i1 → R = rgo tx (L1, d1, due1) p1 (len - p1) → RInv (L1, d1, due1) p1 → (due1 = 3 → p1 < len → 48 ≤ tx p1 → tx p1 ≤ 57 → rstep (L1, d1, due1) (tx p1) = none) → Go l G mX6_readText 4 0 0 134 [some (.ref M), some (.int (b2i (decide (due1 = 3)))), some (.int 1)] [] n i1 r (RtQ M n len R i0 r) := by
      intro i1 p1 d1 L1 due1 h1 h2 h3 h4 h5 h6 h7 h8 h9
      refine go_iload_n (z := 135) dX6_readText_134 rfl rfl ?_
      refine go_if_ne (z := 143) (z2 := 138) dX6_readText_135 rfl (by decide) (fun _ => ?_) (fun h => absurd h (by decide))
      refine go_goto (z := 29) dX6_readText_143 (by decide) ?_
      exact ih p1 d1 L1 due1 i1 (some (.int 1)) (by omega) h2 h3 h6 h4 h5 h7 h8 h9
    have wrong : ∀ (i1 : IP) (p1 : Nat) (x : Int32), i1 M 10 = nI p1 → p1 ≤ len → OutX M i0 i1 → errOf len R = some p1 → Go l G mX6_readText 4 0 0 134 [some (.ref M), some (.int x), some (.int 0)] [] n i1 r (RtQ M n len R i0 r) := by
      intro i1 p1 x h1 h2 h3 h4
      refine go_iload_n (z := 135) dX6_readText_134 rfl rfl ?_
      refine go_if_ne (z := 143) (z2 := 138) dX6_readText_135 rfl (by decide) (fun h => absurd rfl h) (fun _ => ?_)
      refine go_aload_n (z := 139) dX6_readText_138 rfl rfl ?_
      refine go_getI (z := 142) dX6_readText_139 rfl fX6_113 (by assumption) rfl ?_
      rw [h1]
      exact go_iret dX6_readText_142 rfl (rt_fail h3 h2 hl60 h4)
    have here : rstep (L, d, due) (tx p) = none → errOf len R = some p := fun h => by
      rw [hG, rgo_n hlt h]
      rfl
    have t41 : (41 : Int32) ≠ 40 := by decide
    -- a sign between, or one that closes
    have mid : ∀ i1, RdS M p d L i1 → RdC M len tx i1 → OutX M i0 i1 → (due = 3 → tx p ≠ 40) → Go l G mX6_readText 4 0 0 73 [some (.ref M), some (.int (b2i (decide (due = 3)))), some (.int 0)] [] n i1 r (RtQ M n len R i0 r) := by
      intro i1 hS1 hC1 ho1 h40
      have close : ∀ i1, RdS M p d L i1 → RdC M len tx i1 → OutX M i0 i1 → ¬ ((d = 0 ∧ tx p = 59) ∨ (¬ d = 0 ∧ tx p = 44)) → Go l G mX6_readText 4 0 0 104 [some (.ref M), some (.int (b2i (decide (due = 3)))), some (.int 0)] [] n i1 r (RtQ M n len R i0 r) := by
        intro i1 hS1 hC1 ho1 hsep
        have none_of : ¬ (tx p = 41 ∧ 0 < d) → rstep (L, d, due) (tx p) = none := fun h41 => by
          by_cases hdg : 48 ≤ tx p ∧ tx p ≤ 57
          · rcases hdue with e | e
            · exact hX e hlt hdg.1 hdg.2
            · subst e
              show rAfter (L, d, 4) (tx p) = none
              unfold rAfter
              dsimp only
              rw [if_neg h41, if_neg hsep]
          · rw [rs34 hdue h40 hdg]
            unfold rAfter
            dsimp only
            rw [if_neg h41, if_neg hsep]
        refine go_aload_n (z := 105) dX6_readText_104 rfl rfl ?_
        refine go_getI (z := 108) dX6_readText_105 rfl fX6_125 (by assumption) rfl ?_
        rw [hS1.2.2.1]
        refine go_if_le (z := 134) (z2 := 111) dX6_readText_108 rfl (by decide) (fun hd => ?_) (fun hd => ?_)
        · have hd0 : d = 0 := by
            have := (nI_leI (b := 0) (by omega) (by omega)).mp hd
            omega
          exact wrong i1 p _ hS1.1 hp ho1 (here (none_of (fun q => by omega)))
        · have hd0 : 0 < d := by
            rcases Nat.lt_or_ge 0 d with q | q
            · exact q
            · exact absurd ((nI_leI (b := 0) (by omega) (by omega)).mpr q) hd
          refine go_aload_n (z := 112) dX6_readText_111 rfl rfl ?_
          refine go_bipush (z := 114) (v := 41) dX6_readText_112 rfl (by decide) ?_
          refine go_callV (z := 117) (t := 6) [.int 41] dX6_readText_114 rfl mlX6_takes vX6_119 ⟨by decide, rfl⟩ hM rfl rfl (by decide) (cat_i cat_nil) (by simp) (by decide) (by first | decide | omega) (by first | decide | omega) (c_mTakes (p := p) hY hC1 hS1.1 hp) ?_
          refine ret_elim ?_
          refine go_if_eq (z := 134) (z2 := 120) dX6_readText_117 rfl (by decide) (fun hb => ?_) (fun hb => ?_)
          · have hf := b2i_eq hb
            rw [hf]
            exact wrong _ p _ (hS1.place (p' := p + b2n false)).1 hp (ho1.tr (OutX.pf (Or.inr (Or.inl rfl)))) (here (none_of (fun q => by rw [isN_eq.mpr ⟨hlt, q.1⟩] at hf; cases hf)))
          · have ht := b2i_ne hb
            rw [ht]
            obtain ⟨-, hx⟩ := isN_eq.mp ht
            have hst : rstep (L, d, due) (tx p) = some (L, d - 1, 4) := by
              rw [rs34 hdue h40 (fun q => by rw [hx] at q; exact absurd q.1 (by decide))]
              unfold rAfter
              dsimp only
              rw [if_pos ⟨hx, hd0⟩]
            have hS2 := hS1.place (p' := p + b2n true)
            have ho2 : OutX M i0 (ups i1 M 10 (nI (p + b2n true))) := ho1.tr (OutX.pf (Or.inr (Or.inl rfl)))
            have hC2 : RdC M len tx (ups i1 M 10 (nI (p + b2n true))) := hC1.out (OutX.pf (Or.inr (Or.inl rfl)))
            rw [show p + b2n true = p + 1 from rfl] at hS2 ho2 hC2 ⊢
            generalize ups i1 M 10 (nI (p + 1)) = i2 at hS2 ho2 hC2
            refine go_aload_n (z := 121) dX6_readText_120 rfl rfl ?_
            refine go_dup (z := 122) dX6_readText_121 rfl rfl ?_
            refine go_getI (z := 125) dX6_readText_122 rfl fX6_125 (by assumption) rfl ?_
            rw [hS2.2.2.1]
            obtain ⟨d', hd'⟩ : ∃ d', d = d' + 1 := ⟨d - 1, by omega⟩
            subst hd'
            refine go_iconst (z := 126) (v := 1) dX6_readText_125 rfl (by decide) ?_
            refine go_isub (z := 127) dX6_readText_126 rfl ?_
            rw [nI_pred]
            refine go_putI (z := 130) dX6_readText_127 rfl fX6_125 (by assumption) rfl (Or.inl rfl) rfl ?_
            refine go_iconst (z := 131) (v := 0) dX6_readText_130 rfl (by decide) ?_
            refine go_istore_n (z := 132) dX6_readText_131 rfl (by decide) ?_
            refine go_iconst (z := 133) (v := 1) dX6_readText_132 rfl (by decide) ?_
            refine go_istore_n (z := 134) dX6_readText_133 rfl (by decide) ?_
            exact right _ (p + 1) d' L 4 (by omega) (by omega) (Or.inr rfl) ⟨(ups_k (by decide)).trans hS2.1, (ups_k (by decide)).trans hS2.2.1, ups_s, fun k y hy => by rw [ups_row (by omega)]; exact hS2.2.2.2 k y hy⟩ (ho2.tr (OutX.pf (Or.inr (Or.inr rfl)))) (hC2.out (OutX.pf (Or.inr (Or.inr rfl)))) (hG.trans (rgo_s hlt hst)) (rstep_inv hI hst) (fun q => by omega)
      have sep : ∀ ch : Int32, ch = (if d = 0 then 59 else 44) → Go l G mX6_readText 4 0 0 88 [some (.ref M), some (.int (b2i (decide (due = 3)))), some (.int 0)] [.int ch, .ref M] n i1 r (RtQ M n len R i0 r) := by
        intro ch hch
        have hch2 : ¬ (48 ≤ ch ∧ ch ≤ 57) := by
          rw [hch]
          split <;> decide
        refine go_callV (z := 91) (t := 6) [.int ch] dX6_readText_88 rfl mlX6_takes vX6_119 ⟨by decide, rfl⟩ hM rfl rfl (by decide) (cat_i cat_nil) (by simp) (by decide) (by first | decide | omega) (by first | decide | omega) (c_mTakes (p := p) hY hC1 hS1.1 hp) ?_
        refine ret_elim ?_
        refine go_if_eq (z := 104) (z2 := 94) dX6_readText_91 rfl (by decide) (fun hb => ?_) (fun hb => ?_)
        · have hf := b2i_eq hb
          rw [hf]
          refine close _ (hS1.place (p' := p)) (hC1.out (OutX.pf (Or.inr (Or.inl rfl)))) (ho1.tr (OutX.pf (Or.inr (Or.inl rfl)))) (fun q => ?_)
          have : tx p = ch := by
            rw [hch]
            rcases q with q | q
            · rw [if_pos q.1]; exact q.2
            · rw [if_neg q.1]; exact q.2
          rw [isN_eq.mpr ⟨hlt, this⟩] at hf
          cases hf
        · have ht := b2i_ne hb
          rw [ht]
          obtain ⟨-, hx⟩ := isN_eq.mp ht
          have hst : rstep (L, d, due) (tx p) = some (L, d, 0) := by
            rw [rs34 hdue h40 (by rw [hx]; exact hch2)]
            unfold rAfter
            dsimp only
            rw [hx, if_neg (fun q => by
              have q1 := q.1
              rw [hch] at q1
              split at q1
              · exact absurd q1 (by decide)
              · exact absurd q1 (by decide)), if_pos (by
              rw [hch]
              by_cases hd0 : d = 0
              · rw [if_pos hd0]; exact Or.inl ⟨hd0, rfl⟩
              · rw [if_neg hd0]; exact Or.inr ⟨hd0, rfl⟩)]
          have hS2 := hS1.place (p' := p + b2n true)
          have ho2 : OutX M i0 (ups i1 M 10 (nI (p + b2n true))) := ho1.tr (OutX.pf (Or.inr (Or.inl rfl)))
          have hC2 : RdC M len tx (ups i1 M 10 (nI (p + b2n true))) := hC1.out (OutX.pf (Or.inr (Or.inl rfl)))
          rw [show p + b2n true = p + 1 from rfl] at hS2 ho2 hC2 ⊢
          generalize ups i1 M 10 (nI (p + 1)) = i2 at hS2 ho2 hC2
          refine go_iconst (z := 95) (v := 1) dX6_readText_94 rfl (by decide) ?_
          refine go_istore_n (z := 96) dX6_readText_95 rfl (by decide) ?_
          refine go_aload_n (z := 97) dX6_readText_96 rfl rfl ?_
          refine go_callV (z := 100) (t := 6) [] dX6_readText_97 rfl mlX6_readHead vX6_128 ⟨by decide, rfl⟩ hM rfl rfl (by decide) cat_nil (by simp) (by decide) (by first | decide | omega) (by first | decide | omega) (c_mReadHead hY hC2 hS2 (by omega) (hG.trans (rgo_s hlt hst)) (rstep_inv hI hst)) ?_
          refine hd_elim (fun i' p' g w k1 k2 k3 k4 k5 k6 k7 => ?_) (fun i' p' k1 k2 k3 k4 => ?_)
          · refine go_istore_n (z := 101) dX6_readText_100 rfl (by decide) ?_
            refine go_goto (z := 134) dX6_readText_101 (by decide) ?_
            exact right i' p' d _ 3 (by omega) k4 (Or.inl rfl) k3 (ho2.tr k1) (hC2.out k1) k5 k6 (fun _ => k7)
          · refine go_istore_n (z := 101) dX6_readText_100 rfl (by decide) ?_
            refine go_goto (z := 134) dX6_readText_101 (by decide) ?_
            exact wrong i' p' _ k2 k3 (ho2.tr k1) k4
      refine go_aload_n (z := 74) dX6_readText_73 rfl rfl ?_
      refine go_aload_n (z := 75) dX6_readText_74 rfl rfl ?_
      refine go_getI (z := 78) dX6_readText_75 rfl fX6_125 (by assumption) rfl ?_
      rw [hS1.2.2.1]
      refine go_if_ne (z := 86) (z2 := 81) dX6_readText_78 rfl (by decide) (fun hd => ?_) (fun hd => ?_)
      · have hd0 : d ≠ 0 := fun q => hd (by rw [q]; rfl)
        refine go_bipush (z := 88) (v := 44) dX6_readText_86 rfl (by decide) ?_
        exact sep 44 (by rw [if_neg hd0])
      · have hd0 : d = 0 := (nI_eq (b := 0) (by omega) (by omega)).mp hd
        refine go_bipush (z := 83) (v := 59) dX6_readText_81 rfl (by decide) ?_
        refine go_goto (z := 88) dX6_readText_83 (by decide) ?_
        exact sep 59 (by rw [if_pos hd0])
    refine go_aload_n (z := 30) dX6_readText_29 rfl rfl ?_
    refine go_getI (z := 33) dX6_readText_30 rfl fX6_113 (by assumption) rfl ?_
    refine go_aload_n (z := 34) dX6_readText_33 rfl rfl ?_
    refine go_getI (z := 37) dX6_readText_34 rfl fX6_110 (by assumption) rfl ?_
    rw [hS.1, hC.1]
    refine go_icmp_ge (z := 146) (z2 := 40) dX6_readText_37 rfl (by decide) (fun h => absurd ((nI_leI (by omega) (by omega)).mp h) (by omega)) (fun _ => ?_)
    refine go_iconst (z := 41) (v := 0) dX6_readText_40 rfl (by decide) ?_
    refine go_istore_n (z := 42) dX6_readText_41 rfl (by decide) ?_
    refine go_iload_n (z := 43) dX6_readText_42 rfl rfl ?_
    rcases hdue with e | e
    · subst e
      refine go_if_eq (z := 73) (z2 := 46) dX6_readText_43 rfl (by decide) (fun h => absurd h (by decide)) (fun _ => ?_)
      refine go_aload_n (z := 47) dX6_readText_46 rfl rfl ?_
      refine go_bipush (z := 49) (v := 40) dX6_readText_47 rfl (by decide) ?_
      refine go_callV (z := 52) (t := 6) [.int 40] dX6_readText_49 rfl mlX6_takes vX6_119 ⟨by decide, rfl⟩ hM rfl rfl (by decide) (cat_i cat_nil) (by simp) (by decide) (by first | decide | omega) (by first | decide | omega) (c_mTakes (p := p) hY hC hS.1 hp) ?_
      refine ret_elim ?_
      refine go_if_eq (z := 73) (z2 := 55) dX6_readText_52 rfl (by decide) (fun hb => ?_) (fun hb => ?_)
      · have hf := b2i_eq hb
        rw [hf]
        exact mid _ (hS.place (p' := p)) (hC.out (OutX.pf (Or.inr (Or.inl rfl)))) (ho.tr (OutX.pf (Or.inr (Or.inl rfl)))) (fun _ q => by rw [isN_eq.mpr ⟨hlt, q⟩] at hf; cases hf)
      · have ht := b2i_ne hb
        rw [ht]
        obtain ⟨-, hx⟩ := isN_eq.mp ht
        have hst : rstep (L, d, 3) (tx p) = some (L, d + 1, 0) := by
          show (if tx p = 40 then some (L, d + 1, 0) else _) = _
          rw [if_pos hx]
        have hS2 := hS.place (p' := p + b2n true)
        have ho2 : OutX M i0 (ups i M 10 (nI (p + b2n true))) := ho.tr (OutX.pf (Or.inr (Or.inl rfl)))
        have hC2 : RdC M len tx (ups i M 10 (nI (p + b2n true))) := hC.out (OutX.pf (Or.inr (Or.inl rfl)))
        rw [show p + b2n true = p + 1 from rfl] at hS2 ho2 hC2 ⊢
        generalize ups i M 10 (nI (p + 1)) = i2 at hS2 ho2 hC2
        refine go_aload_n (z := 56) dX6_readText_55 rfl rfl ?_
        refine go_dup (z := 57) dX6_readText_56 rfl rfl ?_
        refine go_getI (z := 60) dX6_readText_57 rfl fX6_125 (by assumption) rfl ?_
        rw [hS2.2.2.1]
        refine go_iconst (z := 61) (v := 1) dX6_readText_60 rfl (by decide) ?_
        refine go_iadd (z := 62) dX6_readText_61 rfl ?_
        rw [nI_1]
        have hS3 : RdS M (p + 1) (d + 1) L (ups i2 M 11 (nI (d + 1))) := ⟨(ups_k (by decide)).trans hS2.1, (ups_k (by decide)).trans hS2.2.1, ups_s, fun k y hy => by rw [ups_row (by omega)]; exact hS2.2.2.2 k y hy⟩
        have ho3 : OutX M i0 (ups i2 M 11 (nI (d + 1))) := ho2.tr (OutX.pf (Or.inr (Or.inr rfl)))
        have hC3 : RdC M len tx (ups i2 M 11 (nI (d + 1))) := hC2.out (OutX.pf (Or.inr (Or.inr rfl)))
        refine go_putI (z := 65) dX6_readText_62 rfl fX6_125 (by assumption) rfl (Or.inl rfl) rfl ?_
        refine go_aload_n (z := 66) dX6_readText_65 rfl rfl ?_
        refine go_callV (z := 69) (t := 6) [] dX6_readText_66 rfl mlX6_readHead vX6_128 ⟨by decide, rfl⟩ hM rfl rfl (by decide) cat_nil (by simp) (by decide) (by first | decide | omega) (by first | decide | omega) (c_mReadHead hY hC3 hS3 (by omega) (hG.trans (rgo_s hlt hst)) (rstep_inv hI hst)) ?_
        refine hd_elim (fun i' p' g w k1 k2 k3 k4 k5 k6 k7 => ?_) (fun i' p' k1 k2 k3 k4 => ?_)
        · refine go_istore_n (z := 70) dX6_readText_69 rfl (by decide) ?_
          refine go_goto (z := 134) dX6_readText_70 (by decide) ?_
          exact right i' p' (d + 1) _ 3 (by omega) k4 (Or.inl rfl) k3 (ho3.tr k1) (hC3.out k1) k5 k6 (fun _ => k7)
        · refine go_istore_n (z := 70) dX6_readText_69 rfl (by decide) ?_
          refine go_goto (z := 134) dX6_readText_70 (by decide) ?_
          exact wrong i' p' _ k2 k3 (ho3.tr k1) k4
    · subst e
      refine go_if_eq (z := 73) (z2 := 46) dX6_readText_43 rfl (by decide) (fun _ => ?_) (fun h => absurd rfl h)
      exact mid _ hS hC ho (fun q => by omega)
end MTEXT
