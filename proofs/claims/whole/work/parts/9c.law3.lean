/-! the law's loop, and all of it -/
def tyS (k : Nat) : Nat × Nat := if k = 0 then (4, 0) else if k = 1 then (7, 49) else if k = 2 then (10, 6) else if k = 3 then (11, 141) else if k < 16 then (if k % 2 = 0 then (1, 0) else (9, 80)) else (2, 0)
def tyC (k : Nat) : Nat × Nat := if k = 0 then (5, 0) else if k < 472 then tyS ((k - 1) % 157) else if k = 472 then (12, 4) else if k = 473 then (8, 60) else if k = 474 then (3, 0) else if k < 477 then (9, 15) else if k < 1105 then tyS ((k - 477) % 157) else if k = 1105 then (6, 0) else if k = 1106 then (7, 1372) else if k = 1107 then (7, 5488) else if k = 1108 then (7, 1372) else if k = 1109 then (7, 1372) else if k = 1110 then (7, 60) else if k = 1111 then (7, 48) else if k = 1112 then (7, 16) else (0, 0)
theorem stL_of {G : GG} {n S : Nat} (h1 : G.1 ≤ S) (h2 : S + 157 ≤ n) (h : ∀ x, x < 157 → G.2.1 (S + x) = tyS x) : StL G n S := by
  have h0 := h 0 (by omega)
  rw [Nat.add_zero] at h0
  refine ⟨h1, h2, by rw [h0]; rfl, (h 1 (by omega)).trans rfl, (h 2 (by omega)).trans rfl, (h 3 (by omega)).trans rfl, fun q hq => ⟨?_, ?_⟩, fun a a1 a2 => ?_⟩
  · rw [Nat.add_assoc, h (4 + 2 * q) (by omega)]
    unfold tyS
    rw [if_neg (by omega), if_neg (by omega), if_neg (by omega), if_neg (by omega), if_pos (by omega), if_pos (by omega)]
  · rw [Nat.add_assoc, h (5 + 2 * q) (by omega)]
    unfold tyS
    rw [if_neg (by omega), if_neg (by omega), if_neg (by omega), if_neg (by omega), if_pos (by omega), if_neg (by omega)]
  · rw [show a = S + (a - S) by omega, h (a - S) (by omega)]
    unfold tyS
    rw [if_neg (by omega), if_neg (by omega), if_neg (by omega), if_neg (by omega), if_neg (by omega)]
section LAW3
variable {l : Launch} {C b L n : Nat} {xs : Nat → Int32} {nm : String}
abbrev gLw (C b L : Nat) (xs : Nat → Int32) : GG := (C, fun a => tyC (a - C), b, L, xs)
theorem ly_ty {k : Nat} : (gLw C b L xs).2.1 (C + k) = tyC k := by
  show tyC (C + k - C) = tyC k
  rw [Nat.add_sub_cancel_left]
theorem ly_C (hn : C + 1105 ≤ n) : CeL (gLw C b L xs) n C := by
  have st : ∀ S, (S = 1 ∨ S = 158 ∨ S = 315 ∨ ∃ j, j < 4 ∧ S = 477 + 157 * j) → StL (gLw C b L xs) n (C + S) := by
    intro S hS
    refine stL_of (Nat.le_add_right C S) ?_ (fun x hx => ?_)
    · rcases hS with h | h | h | ⟨j, hj, h⟩ <;> omega
    · rw [Nat.add_assoc, ly_ty]
      unfold tyC
      rcases hS with h | h | h | ⟨j, hj, h⟩
      · rw [if_neg (by omega), if_pos (by omega)]
        exact congrArg tyS (by omega)
      · rw [if_neg (by omega), if_pos (by omega)]
        exact congrArg tyS (by omega)
      · rw [if_neg (by omega), if_pos (by omega)]
        exact congrArg tyS (by omega)
      · rw [if_neg (by omega), if_neg (by omega), if_neg (by omega), if_neg (by omega), if_neg (by omega), if_neg (by omega), if_pos (by omega)]
        exact congrArg tyS (by omega)
  refine ⟨⟨Nat.le_refl _, by omega, ?_⟩, st 1 (Or.inl rfl), st 158 (Or.inr (Or.inl rfl)), st 315 (Or.inr (Or.inr (Or.inl rfl))), ⟨Nat.le_add_right C _, by omega, ?_⟩, ⟨Nat.le_add_right C _, by omega, ?_⟩, ⟨Nat.le_add_right C _, by omega, ?_⟩, ⟨Nat.le_add_right C _, by omega, ?_⟩, ⟨Nat.le_add_right C _, by omega, ?_⟩, fun j hj => ?_⟩
  · show (tyC (C - C)).1 = 5
    rw [Nat.sub_self]
    rfl
  · exact ly_ty.trans rfl
  · exact ly_ty.trans rfl
  · rw [ly_ty]; rfl
  · exact ly_ty.trans rfl
  · exact ly_ty.trans rfl
  · have := st (477 + 157 * j) (Or.inr (Or.inr (Or.inr ⟨j, hj, rfl⟩)))
    rw [← Nat.add_assoc] at this
    exact this
theorem ly_M : MoL (gLw C b L xs) (C + 1105) := by
  refine ⟨Nat.le_add_right C _, ?_, ?_, ?_, ?_, ?_, ?_, ?_, ?_⟩
  · rw [ly_ty]; rfl
  · rw [Nat.add_assoc]; exact ly_ty.trans rfl
  · rw [Nat.add_assoc]; exact ly_ty.trans rfl
  · rw [Nat.add_assoc]; exact ly_ty.trans rfl
  · rw [Nat.add_assoc]; exact ly_ty.trans rfl
  · rw [Nat.add_assoc]; exact ly_ty.trans rfl
  · rw [Nat.add_assoc]; exact ly_ty.trans rfl
  · rw [Nat.add_assoc]; exact ly_ty.trans rfl
theorem ly_0 : ∀ a, C + 1113 ≤ a → ((gLw C b L xs).2.1 a).1 = 0 := fun a ha => by
  show (tyC (a - C)).1 = 0
  unfold tyC
  rw [if_neg (by omega), if_neg (by omega), if_neg (by omega), if_neg (by omega), if_neg (by omega), if_neg (by omega), if_neg (by omega), if_neg (by omega), if_neg (by omega), if_neg (by omega), if_neg (by omega), if_neg (by omega), if_neg (by omega), if_neg (by omega), if_neg (by omega)]
theorem lw_cmp {L q : Nat} (hl : L ≤ 2048) (hq : q ≤ 512) : nI L - 4 < nI (4 * q) ↔ L < 4 * q + 4 := by
  rw [Int32.lt_iff_toInt_lt, nI_toInt (show 4 * q < 2 ^ 31 by omega), show (4 : Int32) = nI 4 from rfl, pk_sub_toInt (by omega) (by omega)]
  omega
def lwQ : QP := fun v _ _ _ => v = some (.int 1)
theorem lw_out {G : GG} {k j q : Nat} {i : IP} {r : RP} : Go l G (mLw nm) 11 k j 650 (lwLo G C q) [] n i r lwQ := by
  refine go_iconst (z := 651) (v := 1) dL_law_650 rfl (by decide) ?_
  exact go_zret dL_law_651 rfl (congrArg Value.int (by decide)) rfl
theorem lw_loop {G : GG} (hl : G.2.2.2.1 ≤ 2048) (d : Nat) : ∀ (q : Nat) (E : EE) (Gd : Nat → Prop) (A : AP) (n : Nat) (i : IP) (r : RP), q + d = 512 → LwS G C (1188 + 1969350 * q) (216000 * q) E Gd A n i r → Go l G (mLw nm) 11 (60 * d) (420 * d) 18 (lwLo G C q) [] n i r lwQ := by
  induction d with
  | zero =>
    intro q E Gd A n i r hq hS
    refine go_iload_n (z := 19) dL_law_18 rfl rfl ?_
    refine go_aload_n (z := 20) dL_law_19 rfl rfl ?_
    refine go_slen (z := 21) dL_law_20 rfl ?_
    refine go_iconst (z := 22) (v := 4) dL_law_21 rfl (by decide) ?_
    refine go_isub (z := 23) dL_law_22 rfl ?_
    refine go_icmp_gt (z := 650) (z2 := 26) dL_law_23 rfl (by decide) (fun _ => lw_out) (fun h => absurd ((lw_cmp hl (by omega)).mpr (by omega)) h)
  | succ d ih =>
    intro q E Gd A n i r hq hS
    refine go_iload_n (z := 19) dL_law_18 rfl rfl ?_
    refine go_aload_n (z := 20) dL_law_19 rfl rfl ?_
    refine go_slen (z := 21) dL_law_20 rfl ?_
    refine go_iconst (z := 22) (v := 4) dL_law_21 rfl (by decide) ?_
    refine go_isub (z := 23) dL_law_22 rfl ?_
    refine go_icmp_gt (z := 650) (z2 := 26) dL_law_23 rfl (by decide) (fun _ => lw_out) (fun h => ?_)
    have hq4 : 4 * q + 4 ≤ G.2.2.2.1 := by
      have h2 : ¬ G.2.2.2.1 < 4 * q + 4 := fun c => h ((lw_cmp hl (by omega)).mpr c)
      omega
    have next : LwN l G nm C (1188 + 1969350 * q) (216000 * q) (60 * (d + 1) - 60) (420 * (d + 1) - 420) q lwQ := by
      intro E Gd A n i r hS
      refine go_iinc (z := 647) dL_law_644 rfl rfl (show nI (4 * q) + 4 = nI (4 * (q + 1)) from nI_add (4 * q) 4) (by show _ < 4; decide) ?_
      refine go_goto (z := 18) dL_law_647 (by decide) ?_
      exact go_less (ih (q + 1) E Gd A n i r (by omega) (hS.more (by omega) (by omega))) (Nat.le_refl _) (by omega) (by omega)
    have hK : 1188 + 1969350 * q + 1969350 ≤ 2 ^ 30 := by omega
    have hO : 216000 * q + 2500000 < 2 ^ 31 := by omega
    have hk : 60 ≤ 60 * (d + 1) := by omega
    have hj : 420 ≤ 420 * (d + 1) := by omega
    refine go_aload_n (z := 27) dL_law_26 rfl rfl ?_
    refine go_iload_n (z := 28) dL_law_27 rfl rfl ?_
    refine go_sld (z := 29) (4 * q) (by omega) rfl (by omega) dL_law_28 rfl ?_
    refine go_bipush (z := 31) (v := 31) dL_law_29 rfl (by decide) ?_
    refine go_iand (z := 32) dL_law_31 rfl ?_
    refine go_tabS (z := 644) dL_law_32 (by decide) (fun _ => go_less (next E Gd A n i r (hS.more (by omega) (by omega))) (Nat.le_refl _) (by omega) (by omega)) (fun t ht ha hb => ?_)
    rcases (show t = 0 ∨ t = 1 ∨ t = 2 ∨ t = 3 ∨ t = 4 ∨ t = 5 ∨ t = 6 ∨ t = 7 ∨ t = 8 ∨ t = 9 ∨ t = 10 ∨ t = 11 ∨ t = 12 ∨ t = 13 ∨ t = 14 ∨ t = 15 ∨ t = 16 ∨ t = 17 ∨ t = 18 ∨ t = 19 ∨ t = 20 ∨ t = 21 by omega) with rfl | rfl | rfl | rfl | rfl | rfl | rfl | rfl | rfl | rfl | rfl | rfl | rfl | rfl | rfl | rfl | rfl | rfl | rfl | rfl | rfl | rfl
    · refine go_tabIn (z := 136) 0 dL_law_32 ht (by decide) (by decide) rfl (by decide) ?_
      exact lw_c_time0 hS hl hq4 hK hO hk hj next
    · refine go_tabIn (z := 179) 1 dL_law_32 ht (by decide) (by decide) rfl (by decide) ?_
      exact lw_c_bank0 hS hl hq4 hK hO hk hj next
    · refine go_tabIn (z := 212) 2 dL_law_32 ht (by decide) (by decide) rfl (by decide) ?_
      exact lw_c_set hS hl hq4 hK hO hk hj next
    · refine go_tabIn (z := 245) 3 dL_law_32 ht (by decide) (by decide) rfl (by decide) ?_
      exact lw_c_launch hS hl hq4 hK hO hk hj next
    · refine go_tabIn (z := 258) 4 dL_law_32 ht (by decide) (by decide) rfl (by decide) ?_
      exact lw_c_pass hS hl hq4 hK hO hk hj next
    · refine go_tabIn (z := 281) 5 dL_law_32 ht (by decide) (by decide) rfl (by decide) ?_
      exact lw_c_lose hS hl hq4 hK hO hk hj next
    · refine go_tabIn (z := 304) 6 dL_law_32 ht (by decide) (by decide) rfl (by decide) ?_
      exact lw_c_good hS hl hq4 hK hO hk hj next
    · refine go_tabIn (z := 317) 7 dL_law_32 ht (by decide) (by decide) rfl (by decide) ?_
      exact lw_c_type hS hl hq4 hK hO hk hj next
    · refine go_tabIn (z := 342) 8 dL_law_32 ht (by decide) (by decide) rfl (by decide) ?_
      exact lw_c_clear hS hl hq4 hK hO hk hj next
    · refine go_tabIn (z := 355) 9 dL_law_32 ht (by decide) (by decide) rfl (by decide) ?_
      exact lw_c_undo hS hl hq4 hK hO hk hj next
    · refine go_tabIn (z := 368) 10 dL_law_32 ht (by decide) (by decide) rfl (by decide) ?_
      exact lw_c_keep hS hl hq4 hK hO hk hj next
    · refine go_tabIn (z := 381) 11 dL_law_32 ht (by decide) (by decide) rfl (by decide) ?_
      exact lw_c_rest hS hl hq4 hK hO hk hj next
    · refine go_tabIn (z := 394) 12 dL_law_32 ht (by decide) (by decide) rfl (by decide) ?_
      exact lw_c_timeR hS hl hq4 hK hO hk hj next
    · refine go_tabIn (z := 427) 13 dL_law_32 ht (by decide) (by decide) rfl (by decide) ?_
      exact lw_c_bankR hS hl hq4 hK hO hk hj next
    · refine go_tabIn (z := 450) 14 dL_law_32 ht (by decide) (by decide) rfl (by decide) ?_
      exact lw_c_houseR hS hl hq4 hK hO hk hj next
    · refine go_tabIn (z := 483) 15 dL_law_32 ht (by decide) (by decide) rfl (by decide) ?_
      exact lw_c_waitR hS hl hq4 hK hO hk hj next
    · refine go_tabIn (z := 526) 16 dL_law_32 ht (by decide) (by decide) rfl (by decide) ?_
      exact lw_c_msgR hS hl hq4 hK hO hk hj next
    · refine go_tabIn (z := 559) 17 dL_law_32 ht (by decide) (by decide) rfl (by decide) ?_
      exact lw_c_totR hS hl hq4 hK hO hk hj next
    · refine go_tabIn (z := 582) 18 dL_law_32 ht (by decide) (by decide) rfl (by decide) ?_
      exact lw_c_runQuiet hS hl hq4 hK hO hk hj next
    · refine go_tabIn (z := 595) 19 dL_law_32 ht (by decide) (by decide) rfl (by decide) ?_
      exact lw_c_runIdle hS hl hq4 hK hO hk hj next
    · refine go_tabIn (z := 608) 20 dL_law_32 ht (by decide) (by decide) rfl (by decide) ?_
      exact lw_c_plan hS hl hq4 hK hO hk hj next
    · refine go_tabIn (z := 631) 21 dL_law_32 ht (by decide) (by decide) rfl (by decide) ?_
      exact lw_c_least hS hl hq4 hK hO hk hj next
theorem lw_body {i : IP} {r : RP} (hl : L ≤ 2048) : Go l (gLw C b L xs) (mLw nm) 11 31833 236190 0 (lentry [.ref b] 4) [] C i r lwQ := by
  have g5 : ((gLw C b L xs).2.1 C).1 = 5 := (ly_C (b := b) (L := L) (xs := xs) (Nat.le_refl _)).1.2.2
  have g6 : ((gLw C b L xs).2.1 (C + 1105)).1 = 6 := (ly_M (b := b) (L := L) (xs := xs)).2.1
  have e5 : (cT 5).2.2 = 9 := rfl
  have e6 : (cT 6).2.2 = 13 := rfl
  refine go_new (z := 3) (t := 5) dL_law_0 rfl (by decide) cL_7 ibX5 inX5z (by first | decide | omega) (by have e : (cT 5).2.2 = 9 := rfl; omega) (by assumption) ?_
  refine go_dup (z := 4) dL_law_3 rfl rfl ?_
  refine go_callI (z := 7) [] dL_law_4 rfl mlX5_init rfl iL_9 rfl rfl (by decide) cat_nil (by simp) (by decide) (by first | decide | omega) (by first | decide | omega) (c_ceInit (ly_C (Nat.le_refl _)) (fun k => upa_s)) ?_
  rintro v n1 i1 r1 ⟨p1, p2, hC1, -⟩
  rw [p1, p2]
  refine go_astore_n (z := 8) dL_law_7 rfl (by show _ < 4; decide) ?_
  refine go_new (z := 11) (t := 6) dL_law_8 rfl (by decide) cL_10 ibX6 inX6z (by first | decide | omega) (by have e : (cT 6).2.2 = 13 := rfl; omega) (by assumption) ?_
  refine go_dup (z := 12) dL_law_11 rfl rfl ?_
  refine go_callI (z := 15) [] dL_law_12 rfl mlX6_init rfl iL_12 rfl rfl (by decide) cat_nil (by simp) (by decide) (by first | decide | omega) (by first | decide | omega) (c_mInit (M := C + 1105) (E := (fun _ => 0, fun _ => 0, fun _ => 0, fun _ => [])) (Gd := fun _ => False) ly_M (fun k => upa_s)) ?_
  rintro v n2 i2 r2 ⟨q1, q2, hY2, hR2, ho2⟩
  rw [q1, show n2 = C + 1113 by omega]
  refine go_astore_n (z := 16) dL_law_15 rfl (by show _ < 4; decide) ?_
  refine go_iconst (z := 17) (v := 0) dL_law_16 rfl (by decide) ?_
  refine go_istore_n (z := 18) dL_law_17 rfl (by show _ < 4; decide) ?_
  have hS : LwS (gLw C b L xs) C (1188 + 1969350 * 0) (216000 * 0) (fun _ => 0, fun _ => 0, fun _ => 0, fun _ => []) (fun _ => False) A0 (C + 1113) i2 r2 := by
    have hI : SInv ((fun _ => 0, fun _ => 0, fun _ => 0, fun _ => []) : EE) (fun _ => False) m0 := ⟨0, Nat.zero_le _, Inv.m0⟩
    refine ⟨⟨ly_C (by omega), Nat.le_refl _, ly_0, Nat.le_add_right C _⟩, ⟨hC1.same (fun a a1 a2 => ?_), fun a ha => ha.elim, fun a ha => ha.elim⟩, ⟨?_, hR2⟩, fun a ha => ha.elim, ⟨hI, fun m hm => (by cases hm), hI⟩, ⟨PI_m0, fun m hm => (by cases hm), PI_m0⟩⟩
    · obtain ⟨o1, o2⟩ := ho2 a (by omega)
      exact ⟨o1.trans (upa_row (by omega)), o2.trans (upa_row (by omega))⟩
    · rw [show C + 1105 + 8 = C + 1113 by omega] at hY2
      exact hY2
  exact go_less (lw_loop (nm := nm) hl 512 0 _ _ _ _ _ _ rfl hS) (Nat.le_refl _) (by omega) (by omega)
end LAW3
