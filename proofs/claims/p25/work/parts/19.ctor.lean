def fW (a b : Nat) : Int32 := if a = b then 1 else if a = 6 ∨ b = 6 then 3 else 2
def z0 (k : Nat) : Int32 := if k = 1 then 8 else if k = 2 then 1 else 0
def m0 : MS := (z0, fun k => fW (k / 7) (k % 7), fun _ _ => 0, fun _ => [], [])
section CTOR
variable {l : Launch} {G : GG} {n : Nat} {i : IP} {r : RP} {S : Nat}
theorem c_firstWay {a b : Nat} (ha : a < 7) (hb : b < 7) : Go l G mX4_firstWay 0 0 0 0 (lentry [.int (nI a), .int (nI b)] 2) [] n i r (RetI (fW a b) n i r) := by
  have e1 : nI a = nI b ↔ a = b := nI_eq (by omega) (by omega)
  have e2 : nI a = 6 ↔ a = 6 := nI_eq (b := 6) (by omega) (by omega)
  have e3 : nI b = 6 ↔ b = 6 := nI_eq (b := 6) (by omega) (by omega)
  refine go_iload_n (z := 1) dX4_firstWay_0 rfl rfl ?_
  refine go_iload_n (z := 2) dX4_firstWay_1 rfl rfl ?_
  refine go_icmp_ne (z := 7) (z2 := 5) dX4_firstWay_2 rfl (by decide) (fun h2 => ?_) (fun h2 => ?_)
  · refine go_iload_n (z := 8) dX4_firstWay_7 rfl rfl ?_
    refine go_bipush (z := 10) (v := 6) dX4_firstWay_8 rfl (by decide) ?_
    refine go_icmp_eq (z := 19) (z2 := 13) dX4_firstWay_10 rfl (by decide) (fun h10 => ?_) (fun h10 => ?_)
    · refine go_iconst (z := 20) (v := 3) dX4_firstWay_19 rfl (by decide) ?_
      refine go_goto (z := 24) dX4_firstWay_20 (by decide) ?_
      refine go_iret dX4_firstWay_24 rfl ?_
      exact ⟨by unfold fW; first | (rw [if_pos (e1.mp (by assumption))]; done) | (rw [if_neg (fun q => absurd (e1.mpr q) (by assumption)), if_pos (Or.inl (e2.mp (by assumption)))]; done) | (rw [if_neg (fun q => absurd (e1.mpr q) (by assumption)), if_pos (Or.inr (e3.mp (by assumption)))]; done) | (rw [if_neg (fun q => absurd (e1.mpr q) (by assumption)), if_neg (fun q => q.elim (fun q => absurd (e2.mpr q) (by assumption)) (fun q => absurd (e3.mpr q) (by assumption)))]; done), rfl, rfl, rfl⟩
    · refine go_iload_n (z := 14) dX4_firstWay_13 rfl rfl ?_
      refine go_bipush (z := 16) (v := 6) dX4_firstWay_14 rfl (by decide) ?_
      refine go_icmp_ne (z := 23) (z2 := 19) dX4_firstWay_16 rfl (by decide) (fun h16 => ?_) (fun h16 => ?_)
      · refine go_iconst (z := 24) (v := 2) dX4_firstWay_23 rfl (by decide) ?_
        refine go_iret dX4_firstWay_24 rfl ?_
        exact ⟨by unfold fW; first | (rw [if_pos (e1.mp (by assumption))]; done) | (rw [if_neg (fun q => absurd (e1.mpr q) (by assumption)), if_pos (Or.inl (e2.mp (by assumption)))]; done) | (rw [if_neg (fun q => absurd (e1.mpr q) (by assumption)), if_pos (Or.inr (e3.mp (by assumption)))]; done) | (rw [if_neg (fun q => absurd (e1.mpr q) (by assumption)), if_neg (fun q => q.elim (fun q => absurd (e2.mpr q) (by assumption)) (fun q => absurd (e3.mpr q) (by assumption)))]; done), rfl, rfl, rfl⟩
      · refine go_iconst (z := 20) (v := 3) dX4_firstWay_19 rfl (by decide) ?_
        refine go_goto (z := 24) dX4_firstWay_20 (by decide) ?_
        refine go_iret dX4_firstWay_24 rfl ?_
        exact ⟨by unfold fW; first | (rw [if_pos (e1.mp (by assumption))]; done) | (rw [if_neg (fun q => absurd (e1.mpr q) (by assumption)), if_pos (Or.inl (e2.mp (by assumption)))]; done) | (rw [if_neg (fun q => absurd (e1.mpr q) (by assumption)), if_pos (Or.inr (e3.mp (by assumption)))]; done) | (rw [if_neg (fun q => absurd (e1.mpr q) (by assumption)), if_neg (fun q => q.elim (fun q => absurd (e2.mpr q) (by assumption)) (fun q => absurd (e3.mpr q) (by assumption)))]; done), rfl, rfl, rfl⟩
  · refine go_iconst (z := 6) (v := 1) dX4_firstWay_5 rfl (by decide) ?_
    refine go_iret dX4_firstWay_6 rfl ?_
    exact ⟨by unfold fW; first | (rw [if_pos (e1.mp (by assumption))]; done) | (rw [if_neg (fun q => absurd (e1.mpr q) (by assumption)), if_pos (Or.inl (e2.mp (by assumption)))]; done) | (rw [if_neg (fun q => absurd (e1.mpr q) (by assumption)), if_pos (Or.inr (e3.mp (by assumption)))]; done) | (rw [if_neg (fun q => absurd (e1.mpr q) (by assumption)), if_neg (fun q => q.elim (fun q => absurd (e2.mpr q) (by assumption)) (fun q => absurd (e3.mpr q) (by assumption)))]; done), rfl, rfl, rfl⟩
theorem c_House_init {a : Nat} (ha : Ok G n a 1) (hg : G.2.1 n = (9, 80)) : Go l G mX1_init 1 1 80 0 (lentry [.ref a] 1) [] n i r (fun v n' i' r' => v = none ∧ n' = n + 1 ∧ i' = upa i n 0 ∧ r' = ups (upa r n none) a 10 (some n)) := by
  have ha' := ha.mono (Nat.le_succ n)
  refine go_aload_n (z := 1) dX1_init_0 rfl rfl ?_
  refine go_objinit (z := 4) dX1_init_1 rfl oX1_3 (by decide) (by decide) ?_
  refine go_aload_n (z := 5) dX1_init_4 rfl rfl ?_
  refine go_bipush (z := 7) (v := 80) dX1_init_5 rfl (by decide) ?_
  refine go_anewa (z := 10) (t := 9) (tb := 0) 80 dX1_init_7 rfl cX1_9 ovX0 ⟨by decide, by decide⟩ (fun _ => rfl) rfl (by decide) (by first | decide | omega) (by first | decide | omega) hg ?_
  refine go_putR (z := 13) dX1_init_10 rfl fX1_11 ha' rfl (Or.inr ⟨rfl, rfl⟩) ?_
  refine go_vret dX1_init_13 rfl ?_
  exact ⟨rfl, rfl, rfl, rfl⟩
theorem c_Reader_init {a : Nat} (ha : Ok G n a 3) (hg1 : G.2.1 n = (9, 15)) (hg2 : G.2.1 (n + 1) = (9, 15)) : Go l G mX3_init 1 2 30 0 (lentry [.ref a] 1) [] n i r (fun v n' i' r' => v = none ∧ n' = n + 2 ∧ i' = upa (upa i n 0) (n + 1) 0 ∧ r' = ups (upa (ups (upa r n none) a 0 (some n)) (n + 1) none) a 2 (some (n + 1))) := by
  have ha' := ha.mono (Nat.le_succ n)
  have ha'' := ha.mono (Nat.le_add_right n 2)
  refine go_aload_n (z := 1) dX3_init_0 rfl rfl ?_
  refine go_objinit (z := 4) dX3_init_1 rfl oX3_3 (by decide) (by decide) ?_
  refine go_aload_n (z := 5) dX3_init_4 rfl rfl ?_
  refine go_bipush (z := 7) (v := 15) dX3_init_5 rfl (by decide) ?_
  refine go_anewa (z := 10) (t := 9) (tb := 0) 15 dX3_init_7 rfl cX3_9 ovX0 ⟨by decide, by decide⟩ (fun _ => rfl) rfl (by decide) (by first | decide | omega) (by first | decide | omega) hg1 ?_
  refine go_putR (z := 13) dX3_init_10 rfl fX3_11 ha' rfl (Or.inr ⟨rfl, rfl⟩) ?_
  refine go_aload_n (z := 14) dX3_init_13 rfl rfl ?_
  refine go_bipush (z := 16) (v := 15) dX3_init_14 rfl (by decide) ?_
  refine go_anewa (z := 19) (t := 9) (tb := 0) 15 dX3_init_16 rfl cX3_9 ovX0 ⟨by decide, by decide⟩ (fun _ => rfl) rfl (by decide) (by first | decide | omega) (by first | decide | omega) hg2 ?_
  refine go_putR (z := 22) dX3_init_19 rfl fX3_17 ha'' rfl (Or.inr ⟨rfl, rfl⟩) ?_
  refine go_vret dX3_init_22 rfl ?_
  exact ⟨rfl, rfl, rfl, rfl⟩
def Bs (S : Nat) (i : IP) (r : RP) (i' : IP) (r' : RP) : Prop := (∀ k, k < 14 → i' S k = z0 k) ∧ r' S 3 = some (S + 1) ∧ r' S 4 = some (S + 2) ∧ r' S 5 = some (S + 3) ∧ ∀ a, a < S ∨ S + 157 ≤ a → i' a = i a ∧ r' a = r a
def InitQ (n S : Nat) (i : IP) (r : RP) : QP := fun v n' i' r' => v = none ∧ n' = n ∧ Rep S m0 i' r' ∧ Out S i r i' r'
theorem c_State_init (hL : StL G (S + 157) S) (hz : ∀ k, i S k = 0) : Go l G mX4_init 2 156 1588 0 (lentry [.ref S] 3) [] (S + 1) i r (InitQ (S + 157) S i r) := by
  have hb := hL.1
  have t0 := hL.2.2.1
  have t1 := hL.2.2.2.1
  have t2 := hL.2.2.2.2.1
  have t3 := hL.2.2.2.2.2.1
  have th := hL.2.2.2.2.2.2.1
  have tm := hL.2.2.2.2.2.2.2
  have okS : ∀ q, S < q → Ok G q S 4 := fun q hq => ⟨hb, hq, t0⟩
  have okW : ∀ q, S + 1 < q → OkA G q (S + 1) 7 49 := fun q hq => ⟨by omega, hq, t1⟩
  have okH : ∀ q, S + 2 < q → OkA G q (S + 2) 10 6 := fun q hq => ⟨by omega, hq, t2⟩
  have okM : ∀ q, S + 3 < q → OkA G q (S + 3) 11 141 := fun q hq => ⟨by omega, hq, t3⟩
  have mess : ∀ (d c : Nat) (lo2 : Option Value) (i' : IP) (r' : RP), c + d = 141 → Bs S i r i' r' → (∀ k, k < 49 → i' (S + 1) k = fW (k / 7) (k % 7)) → (∀ q, q < 6 → (∀ f, i' (S + 4 + 2 * q) f = 0) ∧ r' (S + 2) q = some (S + 4 + 2 * q) ∧ r' (S + 4 + 2 * q) 10 = some (S + 5 + 2 * q)) → (∀ j, j < c → r' (S + 3) j = some (S + 16 + j)) → Go l G mX4_init 2 d (6 * d) 118 [some (.ref S), some (.int (nI c)), lo2] [] (S + 16 + c) i' r' (InitQ (S + 157) S i r) := by
    intro d
    induction d with
    | zero =>
      intro c lo2 i' r' hc hB hw hh hm
      obtain ⟨b1, b3, b4, b5, b6⟩ := hB
      have hc : c = 141 := by omega
      subst hc
      have o1 := okS (S + 16 + 141) (by omega)
      have o2 := okM (S + 16 + 141) (by omega)
      refine go_iload_n (z := 119) dX4_init_118 rfl rfl ?_
      refine go_aload_n (z := 120) dX4_init_119 rfl rfl ?_
      refine go_getR (z := 123) dX4_init_120 rfl fX4_30 (by assumption) rfl (by assumption) ?_
      refine go_alen (z := 124) (by assumption) (by decide) dX4_init_123 rfl ?_
      refine go_icmp_ge (z := 146) (z2 := 127) dX4_init_124 rfl (by decide) (fun _ => ?_) (fun h => absurd (by decide) h)
      refine go_vret dX4_init_146 rfl ⟨rfl, rfl, ⟨⟨b3, b4, b5, fun q hq => ⟨(hh q hq).2.1, (hh q hq).2.2⟩⟩, fun k hk => b1 k (by omega), hw, fun q hq f hf => (hh q hq).1 f, fun q hq => ⟨rfl, by show (0:Nat) ≤ 80; omega, fun c e he => by simp [m0] at he⟩, fun j => S + 16 + j, ⟨fun j hj => ⟨hm j hj, by show S + 16 ≤ S + 16 + j; omega, by show S + 16 + j < S + 157; omega⟩, fun j k hj hk e => by have e : S + 16 + j = S + 16 + k := e; omega⟩, by show (0:Nat) ≤ 141; omega, b1 6 (by omega), fun j x hx => by simp [m0] at hx⟩, b6⟩
    | succ d ih =>
      intro c lo2 i' r' hc hB hw hh hm
      obtain ⟨b1, b3, b4, b5, b6⟩ := hB
      have o1 := okS (S + 16 + c) (by omega)
      have o2 := okM (S + 16 + c) (by omega)
      refine go_iload_n (z := 119) dX4_init_118 rfl rfl ?_
      refine go_aload_n (z := 120) dX4_init_119 rfl rfl ?_
      refine go_getR (z := 123) dX4_init_120 rfl fX4_30 (by assumption) rfl (by assumption) ?_
      refine go_alen (z := 124) (by assumption) (by decide) dX4_init_123 rfl ?_
      refine go_icmp_ge (z := 146) (z2 := 127) dX4_init_124 rfl (by decide) (fun h => absurd h (nI_ge (by omega) (by omega))) (fun _ => ?_)
      have o3 : Ok G (S + 16 + c + 1) (S + 16 + c) 2 := ⟨by omega, by omega, tm _ (by omega) (by omega)⟩
      have o4 := okM (S + 16 + c + 1) (by omega)
      refine go_aload_n (z := 128) dX4_init_127 rfl rfl ?_
      refine go_getR (z := 131) dX4_init_128 rfl fX4_30 (by assumption) rfl (by assumption) ?_
      refine go_iload_n (z := 132) dX4_init_131 rfl rfl ?_
      refine go_new (z := 135) (t := 2) dX4_init_132 rfl (by decide) cX4_28 ibX2 inX2z (by first | decide | omega) (by have e : (cT 2).2.2 = 6 := rfl; omega) (tm _ (by omega) (by omega)) ?_
      refine go_dup (z := 136) dX4_init_135 rfl rfl ?_
      refine go_callIN (z := 139) [] dX4_init_136 rfl mlX2_init rfl iX4_39 rfl rfl (by decide) cat_nil (by simp) (by decide) (by first | decide | omega) (by first | decide | omega) (c_Message_init) ?_
      intro v n2 i2 r2 hp
      obtain ⟨p1, p2, p3, p4⟩ := hp
      rw [p1, p2, p3, p4]
      refine go_aastR (z := 140) c (by assumption) ⟨by decide, by decide⟩ (by decide) rfl (by omega) o3 (by decide) rfl dX4_init_139 rfl ?_
      refine go_iinc (z := 143) dX4_init_140 rfl rfl (nI_1 c) (by decide) ?_
      refine go_goto (z := 118) dX4_init_143 (by decide) ?_
      have e6 : (cT 2).2.2 = 6 := rfl
      refine go_less (D' := 2) (k' := d) (j' := 6 * d) (go_lo (lo' := [some (.ref S), some (.int (nI (c + 1))), lo2]) rfl (ih (c + 1) lo2 _ _ (by omega) ⟨fun k hk => ?_, ?_, ?_, ?_, fun a ha => ⟨?_, ?_⟩⟩ (fun k hk => ?_) (fun q hq => ⟨fun f => ?_, ?_, ?_⟩) (fun j hj => ?_))) (Nat.le_refl _) (by omega) (by omega)
      · rw [upa_a (by omega)]; exact b1 k hk
      · rw [ups_a (by omega), upa_a (by omega)]; exact b3
      · rw [ups_a (by omega), upa_a (by omega)]; exact b4
      · rw [ups_a (by omega), upa_a (by omega)]; exact b5
      · rw [upa_row (by omega)]; exact (b6 a ha).1
      · rw [ups_row (by omega), upa_row (by omega)]; exact (b6 a ha).2
      · rw [upa_a (by omega)]; exact hw k hk
      · rw [upa_a (by omega)]; exact (hh q hq).1 f
      · rw [ups_a (by omega), upa_a (by omega)]; exact (hh q hq).2.1
      · rw [ups_a (by omega), upa_a (by omega)]; exact (hh q hq).2.2
      · by_cases e : j = c
        · subst e; exact ups_s
        · rw [ups_k e, upa_a (by omega)]; exact hm j (by omega)
  have hous : ∀ (d h : Nat) (lo2 : Option Value) (i' : IP) (r' : RP), h + d = 6 → Bs S i r i' r' → (∀ k, k < 49 → i' (S + 1) k = fW (k / 7) (k % 7)) → (∀ q, q < h → (∀ f, i' (S + 4 + 2 * q) f = 0) ∧ r' (S + 2) q = some (S + 4 + 2 * q) ∧ r' (S + 4 + 2 * q) 10 = some (S + 5 + 2 * q)) → Go l G mX4_init 2 (2 * d + 141) (91 * d + 846) 88 [some (.ref S), some (.int (nI h)), lo2] [] (S + 4 + 2 * h) i' r' (InitQ (S + 157) S i r) := by
    intro d
    induction d with
    | zero =>
      intro h lo2 i' r' hc hB hw hh
      have hB0 := hB
      obtain ⟨b1, b3, b4, b5, b6⟩ := hB
      have hc : h = 6 := by omega
      subst hc
      have o1 := okS (S + 4 + 2 * 6) (by omega)
      have o2 := okH (S + 4 + 2 * 6) (by omega)
      refine go_iload_n (z := 89) dX4_init_88 rfl rfl ?_
      refine go_aload_n (z := 90) dX4_init_89 rfl rfl ?_
      refine go_getR (z := 93) dX4_init_90 rfl fX4_24 (by assumption) rfl (by assumption) ?_
      refine go_alen (z := 94) (by assumption) (by decide) dX4_init_93 rfl ?_
      refine go_icmp_ge (z := 116) (z2 := 97) dX4_init_94 rfl (by decide) (fun _ => ?_) (fun h => absurd (by decide) h)
      refine go_iconst (z := 117) (v := 0) dX4_init_116 rfl (by decide) ?_
      refine go_istore_n (z := 118) dX4_init_117 rfl (by decide) ?_
      exact go_less (go_lo (lo' := [some (.ref S), some (.int (nI 0)), lo2]) rfl (mess 141 0 lo2 i' r' (by omega) hB0 hw hh (fun j hj => absurd hj (Nat.not_lt_zero j)))) (Nat.le_refl _) (by omega) (by omega)
    | succ d ih =>
      intro h lo2 i' r' hc hB hw hh
      obtain ⟨b1, b3, b4, b5, b6⟩ := hB
      have hh6 : h < 6 := by omega
      have o1 := okS (S + 4 + 2 * h) (by omega)
      have o2 := okH (S + 4 + 2 * h) (by omega)
      refine go_iload_n (z := 89) dX4_init_88 rfl rfl ?_
      refine go_aload_n (z := 90) dX4_init_89 rfl rfl ?_
      refine go_getR (z := 93) dX4_init_90 rfl fX4_24 (by assumption) rfl (by assumption) ?_
      refine go_alen (z := 94) (by assumption) (by decide) dX4_init_93 rfl ?_
      refine go_icmp_ge (z := 116) (z2 := 97) dX4_init_94 rfl (by decide) (fun h => absurd h (nI_ge (by omega) (by omega))) (fun _ => ?_)
      have tl : G.2.1 (S + 4 + 2 * h + 1) = (9, 80) := by rw [show S + 4 + 2 * h + 1 = S + 5 + 2 * h by omega]; exact (th h hh6).2
      have o3 : Ok G (S + 4 + 2 * h + 1) (S + 4 + 2 * h) 1 := ⟨by omega, by omega, (th h hh6).1⟩
      have o5 : Ok G (S + 4 + 2 * h + 1 + 1) (S + 4 + 2 * h) 1 := ⟨by omega, by omega, (th h hh6).1⟩
      have o4 := okH (S + 4 + 2 * h + 1 + 1) (by omega)
      have e11 : (cT 1).2.2 = 11 := rfl
      refine go_aload_n (z := 98) dX4_init_97 rfl rfl ?_
      refine go_getR (z := 101) dX4_init_98 rfl fX4_24 (by assumption) rfl (by assumption) ?_
      refine go_iload_n (z := 102) dX4_init_101 rfl rfl ?_
      refine go_new (z := 105) (t := 1) dX4_init_102 rfl (by decide) cX4_22 ibX1 inX1z (by first | decide | omega) (by have e : (cT 1).2.2 = 11 := rfl; omega) (th h hh6).1 ?_
      refine go_dup (z := 106) dX4_init_105 rfl rfl ?_
      refine go_callIN (z := 109) [] dX4_init_106 rfl mlX1_init rfl iX4_38 rfl rfl (by decide) cat_nil (by simp) (by decide) (by first | decide | omega) (by first | decide | omega) (c_House_init o3 tl) ?_
      intro v n2 i2 r2 hp
      obtain ⟨p1, p2, p3, p4⟩ := hp
      rw [p1, p2, p3, p4]
      refine go_aastR (z := 110) h (by assumption) ⟨by decide, by decide⟩ (by decide) rfl (by omega) o5 (by decide) rfl dX4_init_109 rfl ?_
      refine go_iinc (z := 113) dX4_init_110 rfl rfl (nI_1 h) (by decide) ?_
      refine go_goto (z := 88) dX4_init_113 (by decide) ?_
      rw [show S + 4 + 2 * h + 1 + 1 = S + 4 + 2 * (h + 1) by omega]
      refine go_less (D' := 2) (k' := 2 * d + 141) (j' := 91 * d + 846) (go_lo (lo' := [some (.ref S), some (.int (nI (h + 1))), lo2]) rfl (ih (h + 1) lo2 _ _ (by omega) ⟨fun k hk => ?_, ?_, ?_, ?_, fun a ha => ⟨?_, ?_⟩⟩ (fun k hk => ?_) (fun q hq => ⟨fun f => ?_, ?_, ?_⟩))) (Nat.le_refl _) (by omega) (by omega)
      · rw [upa_a (by omega), upa_a (by omega)]; exact b1 k hk
      · rw [ups_a (by omega), ups_a (by omega), upa_a (by omega), upa_a (by omega)]; exact b3
      · rw [ups_a (by omega), ups_a (by omega), upa_a (by omega), upa_a (by omega)]; exact b4
      · rw [ups_a (by omega), ups_a (by omega), upa_a (by omega), upa_a (by omega)]; exact b5
      · rw [upa_row (by omega), upa_row (by omega)]; exact (b6 a ha).1
      · rw [ups_row (by omega), ups_row (by omega), upa_row (by omega), upa_row (by omega)]; exact (b6 a ha).2
      · rw [upa_a (by omega), upa_a (by omega)]; exact hw k hk
      · by_cases e : q = h
        · subst e; rw [upa_a (by omega), upa_s]
        · rw [upa_a (by omega), upa_a (by omega)]; exact (hh q (by omega)).1 f
      · by_cases e : q = h
        · subst e; exact ups_s
        · rw [ups_k e, ups_a (by omega), upa_a (by omega), upa_a (by omega)]; exact (hh q (by omega)).2.1
      · by_cases e : q = h
        · subst e
          rw [ups_a (by omega), ups_s]
          congr 1
          omega
        · rw [ups_a (by omega), ups_a (by omega), upa_a (by omega), upa_a (by omega)]; exact (hh q (by omega)).2.2
  have ways : ∀ (d one : Nat) (lo2 : Option Value) (i' : IP) (r' : RP), one + d = 7 → Bs S i r i' r' → (∀ k, k < one * 7 → i' (S + 1) k = fW (k / 7) (k % 7)) → Go l G mX4_init 2 153 1392 44 [some (.ref S), some (.int (nI one)), lo2] [] (S + 4) i' r' (InitQ (S + 157) S i r) := by
    intro d
    induction d with
    | zero =>
      intro one lo2 i' r' hc hB hw
      have hc : one = 7 := by omega
      subst hc
      refine go_iload_n (z := 45) dX4_init_44 rfl rfl ?_
      refine go_bipush (z := 47) (v := 7) dX4_init_45 rfl (by decide) ?_
      refine go_icmp_ge (z := 86) (z2 := 50) dX4_init_47 rfl (by decide) (fun _ => ?_) (fun h => absurd (by decide) h)
      refine go_iconst (z := 87) (v := 0) dX4_init_86 rfl (by decide) ?_
      refine go_istore_n (z := 88) dX4_init_87 rfl (by decide) ?_
      exact go_less (go_lo (lo' := [some (.ref S), some (.int (nI 0)), lo2]) rfl (hous 6 0 lo2 i' r' (by omega) hB hw (fun j hj => absurd hj (Nat.not_lt_zero j)))) (Nat.le_refl _) (by omega) (by omega)
    | succ d ih =>
      intro one lo2 i' r' hc hB hw
      have h17 : one < 7 := by omega
      refine go_iload_n (z := 45) dX4_init_44 rfl rfl ?_
      refine go_bipush (z := 47) (v := 7) dX4_init_45 rfl (by decide) ?_
      refine go_icmp_ge (z := 86) (z2 := 50) dX4_init_47 rfl (by decide) (fun h => absurd h (nI_ge (b := 7) (by omega) (by omega))) (fun _ => ?_)
      refine go_iconst (z := 51) (v := 0) dX4_init_50 rfl (by decide) ?_
      refine go_istore_n (z := 52) dX4_init_51 rfl (by decide) ?_
      have inner : ∀ (e other : Nat) (i2 : IP), other + e = 7 → Bs S i r i2 r' → (∀ k, k < one * 7 + other → i2 (S + 1) k = fW (k / 7) (k % 7)) → Go l G mX4_init 2 153 1392 52 [some (.ref S), some (.int (nI one)), some (.int (nI other))] [] (S + 4) i2 r' (InitQ (S + 157) S i r) := by
        intro e
        induction e with
        | zero =>
          intro other i2 hc2 hB2 hw2
          have hc2 : other = 7 := by omega
          subst hc2
          refine go_iload_n (z := 53) dX4_init_52 rfl rfl ?_
          refine go_bipush (z := 55) (v := 7) dX4_init_53 rfl (by decide) ?_
          refine go_icmp_ge (z := 80) (z2 := 58) dX4_init_55 rfl (by decide) (fun _ => ?_) (fun h => absurd (by decide) h)
          refine go_iinc (z := 83) dX4_init_80 rfl rfl (nI_1 one) (by decide) ?_
          refine go_goto (z := 44) dX4_init_83 (by decide) ?_
          exact go_lo (lo' := [some (.ref S), some (.int (nI (one + 1))), some (.int (nI 7))]) rfl (ih (one + 1) _ i2 r' (by omega) hB2 (fun k hk => hw2 k (by omega)))
        | succ e ihe =>
          intro other i2 hc2 hB2 hw2
          obtain ⟨b1, b3, b4, b5, b6⟩ := hB2
          have h27 : other < 7 := by omega
          have o1 := okS (S + 4) (by omega)
          have o2 := okW (S + 4) (by omega)
          refine go_iload_n (z := 53) dX4_init_52 rfl rfl ?_
          refine go_bipush (z := 55) (v := 7) dX4_init_53 rfl (by decide) ?_
          refine go_icmp_ge (z := 80) (z2 := 58) dX4_init_55 rfl (by decide) (fun h => absurd h (nI_ge (b := 7) (by omega) (by omega))) (fun _ => ?_)
          have hway : nI one * 7 + nI other = nI (one * 7 + other) := by rw [← nI_add, ← pk_mul]; rfl
          refine go_aload_n (z := 59) dX4_init_58 rfl rfl ?_
          refine go_getR (z := 62) dX4_init_59 rfl fX4_18 (by assumption) rfl (by assumption) ?_
          refine go_iload_n (z := 63) dX4_init_62 rfl rfl ?_
          refine go_bipush (z := 65) (v := 7) dX4_init_63 rfl (by decide) ?_
          refine go_imul (z := 66) dX4_init_65 rfl ?_
          refine go_iload_n (z := 67) dX4_init_66 rfl rfl ?_
          refine go_iadd (z := 68) dX4_init_67 rfl ?_
          refine go_iload_n (z := 69) dX4_init_68 rfl rfl ?_
          refine go_iload_n (z := 70) dX4_init_69 rfl rfl ?_
          refine go_callS (z := 73) [.int (nI one), .int (nI other)] dX4_init_70 rfl mlX4_firstWay sX4_34 rfl rfl (by decide) (cat_i (cat_i cat_nil)) (by simp) (by decide) (by first | decide | omega) (by first | decide | omega) (c_firstWay h17 h27) ?_
          refine ret_elim ?_
          refine go_iast (z := 74) (one * 7 + other) (by assumption) (by decide) hway (by omega) dX4_init_73 rfl ?_
          refine go_iinc (z := 77) dX4_init_74 rfl rfl (nI_1 other) (by decide) ?_
          refine go_goto (z := 52) dX4_init_77 (by decide) ?_
          refine go_lo (lo' := [some (.ref S), some (.int (nI one)), some (.int (nI (other + 1)))]) rfl (ihe (other + 1) _ (by omega) ⟨fun k hk => ?_, b3, b4, b5, fun a ha => ⟨?_, (b6 a ha).2⟩⟩ (fun k hk => ?_))
          · rw [ups_a (by omega)]; exact b1 k hk
          · rw [ups_row (by omega)]; exact (b6 a ha).1
          · by_cases e1 : k = one * 7 + other
            · subst e1
              rw [ups_s, show (one * 7 + other) / 7 = one by omega, show (one * 7 + other) % 7 = other by omega]
            · rw [ups_k e1]; exact hw2 k (by omega)
      exact go_lo (lo' := [some (.ref S), some (.int (nI one)), some (.int (nI 0))]) rfl (inner 7 0 i' (by omega) hB (fun k hk => hw k (by omega)))
  have o1 := okS (S + 1) (by omega)
  have o2 := okS (S + 1 + 1) (by omega)
  have o3 := okS (S + 1 + 1 + 1) (by omega)
  have o4 := okS (S + 1 + 1 + 1 + 1) (by omega)
  refine go_aload_n (z := 1) dX4_init_0 rfl rfl ?_
  refine go_objinit (z := 4) dX4_init_1 rfl oX4_3 (by decide) (by decide) ?_
  refine go_aload_n (z := 5) dX4_init_4 rfl rfl ?_
  refine go_bipush (z := 7) (v := 8) dX4_init_5 rfl (by decide) ?_
  refine go_putI (z := 10) dX4_init_7 rfl fX4_9 (by assumption) rfl (Or.inl rfl) rfl ?_
  refine go_aload_n (z := 11) dX4_init_10 rfl rfl ?_
  refine go_iconst (z := 12) (v := 1) dX4_init_11 rfl (by decide) ?_
  refine go_putI (z := 15) dX4_init_12 rfl fX4_15 (by assumption) rfl (Or.inl rfl) rfl ?_
  refine go_aload_n (z := 16) dX4_init_15 rfl rfl ?_
  refine go_bipush (z := 18) (v := 49) dX4_init_16 rfl (by decide) ?_
  refine go_newa (z := 20) (t := 7) 49 dX4_init_18 rfl ac_int (by first | exact Or.inl ⟨rfl, rfl⟩ | exact Or.inr ⟨rfl, rfl⟩) rfl (by decide) (by first | decide | omega) (by first | decide | omega) t1 ?_
  refine go_putR (z := 23) dX4_init_20 rfl fX4_18 o2 rfl (Or.inr ⟨rfl, rfl⟩) ?_
  refine go_aload_n (z := 24) dX4_init_23 rfl rfl ?_
  refine go_bipush (z := 26) (v := 6) dX4_init_24 rfl (by decide) ?_
  refine go_anewa (z := 29) (t := 10) (tb := 1) 6 dX4_init_26 rfl cX4_22 ovX1 ⟨by decide, by decide⟩ (fun _ => rfl) rfl (by decide) (by first | decide | omega) (by first | decide | omega) t2 ?_
  refine go_putR (z := 32) dX4_init_29 rfl fX4_24 o3 rfl (Or.inr ⟨rfl, rfl⟩) ?_
  refine go_aload_n (z := 33) dX4_init_32 rfl rfl ?_
  refine go_sipush (z := 36) (v := 141) dX4_init_33 rfl (by decide) ?_
  refine go_anewa (z := 39) (t := 11) (tb := 2) 141 dX4_init_36 rfl cX4_28 ovX2 ⟨by decide, by decide⟩ (fun _ => rfl) rfl (by decide) (by first | decide | omega) (by first | decide | omega) t3 ?_
  refine go_putR (z := 42) dX4_init_39 rfl fX4_30 o4 rfl (Or.inr ⟨rfl, rfl⟩) ?_
  refine go_iconst (z := 43) (v := 0) dX4_init_42 rfl (by decide) ?_
  refine go_istore_n (z := 44) dX4_init_43 rfl (by decide) ?_
  refine go_less (D' := 2) (k' := 153) (j' := 1392) (go_lo (lo' := [some (.ref S), some (.int (nI 0)), none]) rfl (ways 7 0 none _ _ (by omega) ⟨fun k hk => ?_, ?_, ?_, ?_, fun a ha => ⟨?_, ?_⟩⟩ (fun k hk => absurd hk (by omega)))) (Nat.le_refl _) (by omega) (by omega)
  · rw [upa_a (by omega), upa_a (by omega), upa_a (by omega)]
    by_cases e1 : k = 1
    · subst e1; rw [ups_k (by decide), ups_s]; rfl
    · by_cases e2 : k = 2
      · subst e2; rw [ups_s]; rfl
      · rw [ups_k e2, ups_k e1, hz k]; simp [z0, e1, e2]
  · rw [ups_k (by decide), upa_a (by omega), ups_k (by decide), upa_a (by omega), ups_s]
  · rw [ups_k (by decide), upa_a (by omega), ups_s]
  · rw [ups_s]
  · rw [upa_row (by omega), upa_row (by omega), upa_row (by omega), ups_row (by omega), ups_row (by omega)]
  · rw [ups_row (by omega), upa_row (by omega), ups_row (by omega), upa_row (by omega), ups_row (by omega), upa_row (by omega)]
end CTOR
