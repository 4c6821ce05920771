/-! a new reference -/
def MoL (G : GG) (M : Nat) : Prop := G.1 ≤ M ∧ (G.2.1 M).1 = 6 ∧ G.2.1 (M + 1) = (7, 1372) ∧ G.2.1 (M + 2) = (7, 5488) ∧ G.2.1 (M + 3) = (7, 1372) ∧ G.2.1 (M + 4) = (7, 1372) ∧ G.2.1 (M + 5) = (7, 60) ∧ G.2.1 (M + 6) = (7, 48) ∧ G.2.1 (M + 7) = (7, 16)
def iW (k : Nat) : Int32 := if k / 6 = k % 6 then 1 else 2
def in1 (s : Nat → Int32) (q : Nat) : Nat → Int32 := fun k => if 12 ≤ k ∧ k < 12 + q then iW (k - 12) else s k
def in2 (s : Nat → Int32) (q : Nat) : Nat → Int32 := fun k => if 48 ≤ k ∧ k < 48 + q then 3 else s k
theorem in1_0 {s : Nat → Int32} : in1 s 0 = s := by
  funext k
  unfold in1
  rw [if_neg (by omega)]
theorem in2_0 {s : Nat → Int32} : in2 s 0 = s := by
  funext k
  unfold in2
  rw [if_neg (by omega)]
theorem in1_s {s : Nat → Int32} {q : Nat} : up1 (in1 s q) (12 + q) (iW q) = in1 s (q + 1) := by
  funext k
  by_cases e : k = 12 + q
  · subst e
    rw [up1_s]
    unfold in1
    rw [if_pos (by omega)]
    congr 1
    omega
  · rw [up1_n e]
    unfold in1
    by_cases e2 : 12 ≤ k ∧ k < 12 + q
    · rw [if_pos e2, if_pos (by omega)]
    · rw [if_neg e2, if_neg (by omega)]
theorem in2_s {s : Nat → Int32} {q : Nat} : up1 (in2 s q) (48 + q) 3 = in2 s (q + 1) := by
  funext k
  by_cases e : k = 48 + q
  · subst e
    rw [up1_s]
    unfold in2
    rw [if_pos (by omega)]
  · rw [up1_n e]
    unfold in2
    by_cases e2 : 48 ≤ k ∧ k < 48 + q
    · rw [if_pos e2, if_pos (by omega)]
    · rw [if_neg e2, if_neg (by omega)]
def inS (s : Nat → Int32) : Nat → Int32 := in2 (in1 (up1 (up1 s 8 8) 9 1) 36) 6
theorem new_m0 : mNew m0 8 = m0 := by
  unfold mNew m0
  refine Prod.ext (funext fun k => ?_) rfl
  show (if k = 1 then (8 : Int32) else if k = 2 then z0 2 else 0) = z0 k
  unfold z0
  rfl
theorem inS_w {s : Nat → Int32} : WaR m0 (inS s) := by
  refine ⟨fun a b ha hb => ?_, fun h hh => ?_⟩
  · have e1 : inS s (12 + 6 * a + b) = iW (6 * a + b) := by
      unfold inS in2
      rw [if_neg (by omega)]
      unfold in1
      rw [if_pos (by omega)]
      congr 1
      omega
    rw [e1]
    show (if (6 * a + b) / 6 = (6 * a + b) % 6 then (1 : Int32) else 2) = fW ((a * 7 + b) / 7) ((a * 7 + b) % 7)
    rw [show (6 * a + b) / 6 = a by omega, show (6 * a + b) % 6 = b by omega, show (a * 7 + b) / 7 = a by omega, show (a * 7 + b) % 7 = b by omega]
    unfold fW
    rw [if_neg (show ¬ (a = 6 ∨ b = 6) by omega)]
  · have e1 : inS s (48 + h) = 3 := by
      unfold inS in2
      rw [if_pos (by omega)]
    rw [e1]
    constructor
    · show (3 : Int32) = fW ((h * 7 + 6) / 7) ((h * 7 + 6) % 7)
      rw [show (h * 7 + 6) / 7 = h by omega, show (h * 7 + 6) % 7 = 6 by omega]
      unfold fW
      rw [if_neg (by omega), if_pos (Or.inr rfl)]
    · show (3 : Int32) = fW ((6 * 7 + h) / 7) ((6 * 7 + h) % 7)
      rw [show (6 * 7 + h) / 7 = 6 by omega, show (6 * 7 + h) % 7 = h by omega]
      unfold fW
      rw [if_neg (by omega), if_pos (Or.inl rfl)]
theorem inS_rel {E : EE} {Gd : Nat → Prop} {s : Nat → Int32} (hz : ∀ k, s k = 0) : RelS E Gd 0 [] m0 (inS s) := by
  have h := RelS.anew (E := E) (Gd := Gd) (mo := m0) (s := inS s) (x := 8) inS_w (by
    unfold inS in2
    rw [if_neg (by omega)]
    unfold in1
    rw [if_neg (by omega), up1_s]
    rfl)
  rw [new_m0] at h
  refine h.congr (fun k hk => ?_)
  by_cases h1 : 12 ≤ k ∧ k ≤ 53
  · exact (bgn_w h1.1 h1.2).symm
  · by_cases h8 : k = 8
    · subst h8
      unfold bgn
      rw [up1_s]
      unfold inS in2
      rw [if_neg (by omega)]
      unfold in1
      rw [if_neg (by omega), up1_n (by decide), up1_s]
    · by_cases h9 : k = 9
      · subst h9
        unfold bgn
        rw [up1_n (by decide), up1_s]
      · rw [bgn_z hk h1 h8 h9]
        unfold inS in2
        rw [if_neg (by omega)]
        unfold in1
        rw [if_neg (by omega), up1_n h9, up1_n h8]
        exact hz k
theorem ini_dv : ∀ k, k < 36 → ((nI k / 6 = nI k - nI k / 6 * 6) ↔ k / 6 = k % 6) := by decide +kernel
section MINIT
variable {l : Launch} {G : GG} {n : Nat} {i : IP} {r : RP} {M : Nat}
theorem c_mInitB {o1 : Option Value} (hX : MoX G n M r) : Go l G mX6_init 0 0 0 64 [some (.ref M), o1] [] n i r (Ret none n (upr i (M + 1) (inS (i (M + 1)))) r) := by
  obtain ⟨hM, hr0, hs⟩ := id hX
  have loop2 : ∀ d q, q + d = 6 → ∀ s, Go l G mX6_init 0 0 0 122 [some (.ref M), some (.int (nI q))] [] n (upr i (M + 1) (in2 s q)) r (Ret none n (upr i (M + 1) (in2 s 6)) r) := by
    intro d
    induction d with
    | zero =>
      intro q hq s
      have hq : q = 6 := by omega
      subst hq
      refine go_iload_n (z := 123) dX6_init_122 rfl rfl ?_
      refine go_bipush (z := 125) (v := 6) dX6_init_123 rfl (by decide) ?_
      refine go_icmp_ge (z := 144) (z2 := 128) dX6_init_125 rfl (by decide) (fun _ => ?_) (fun h => absurd (by decide) h)
      exact go_vret dX6_init_144 rfl ret_ok
    | succ d ih =>
      intro q hq s
      refine go_iload_n (z := 123) dX6_init_122 rfl rfl ?_
      refine go_bipush (z := 125) (v := 6) dX6_init_123 rfl (by decide) ?_
      refine go_icmp_ge (z := 144) (z2 := 128) dX6_init_125 rfl (by decide) (fun h => absurd ((nI_leI (a := 6) (by omega) (by omega)).mp h) (by omega)) (fun _ => ?_)
      refine go_aload_n (z := 129) dX6_init_128 rfl rfl ?_
      refine go_getR (z := 132) dX6_init_129 rfl fX6_7 (by assumption) rfl (by assumption) ?_
      refine go_bipush (z := 134) (v := 48) dX6_init_132 rfl (by decide) ?_
      refine go_iload_n (z := 135) dX6_init_134 rfl rfl ?_
      refine go_iadd (z := 136) dX6_init_135 rfl ?_
      refine go_iconst (z := 137) (v := 3) dX6_init_136 rfl (by decide) ?_
      refine go_iastM (z := 138) (48 + q) (by assumption) (by decide) (nI_add 48 q) (by omega) dX6_init_137 rfl ?_
      refine go_iinc (z := 141) dX6_init_138 rfl rfl (nI_1 q) (by decide) ?_
      refine go_goto (z := 122) dX6_init_141 (by decide) ?_
      rw [in2_s]
      exact ih (q + 1) (by omega) s
  have loop1 : ∀ d q, q + d = 36 → ∀ s, Go l G mX6_init 0 0 0 83 [some (.ref M), some (.int (nI q))] [] n (upr i (M + 1) (in1 s q)) r (Ret none n (upr i (M + 1) (in2 (in1 s 36) 6)) r) := by
    intro d
    induction d with
    | zero =>
      intro q hq s
      have hq : q = 36 := by omega
      subst hq
      refine go_iload_n (z := 84) dX6_init_83 rfl rfl ?_
      refine go_bipush (z := 86) (v := 36) dX6_init_84 rfl (by decide) ?_
      refine go_icmp_ge (z := 120) (z2 := 89) dX6_init_86 rfl (by decide) (fun _ => ?_) (fun h => absurd (by decide) h)
      refine go_iconst (z := 121) (v := 0) dX6_init_120 rfl (by decide) ?_
      refine go_istore_n (z := 122) dX6_init_121 rfl (by decide) ?_
      have := loop2 6 0 rfl (in1 s 36)
      rw [in2_0] at this
      exact this
    | succ d ih =>
      intro q hq s
      have next : Go l G mX6_init 0 0 0 113 [some (.ref M), some (.int (nI q))] [.int (iW q), .int (nI 12 + nI q), .ref (M + 1)] n (upr i (M + 1) (in1 s q)) r (Ret none n (upr i (M + 1) (in2 (in1 s 36) 6)) r) := by
        refine go_iastM (z := 114) (12 + q) (by assumption) (by decide) (nI_add 12 q) (by omega) dX6_init_113 rfl ?_
        refine go_iinc (z := 117) dX6_init_114 rfl rfl (nI_1 q) (by decide) ?_
        refine go_goto (z := 83) dX6_init_117 (by decide) ?_
        rw [in1_s]
        exact ih (q + 1) (by omega) s
      have dv := ini_dv q (by omega)
      refine go_iload_n (z := 84) dX6_init_83 rfl rfl ?_
      refine go_bipush (z := 86) (v := 36) dX6_init_84 rfl (by decide) ?_
      refine go_icmp_ge (z := 120) (z2 := 89) dX6_init_86 rfl (by decide) (fun h => absurd ((nI_leI (a := 36) (by omega) (by omega)).mp h) (by omega)) (fun _ => ?_)
      refine go_aload_n (z := 90) dX6_init_89 rfl rfl ?_
      refine go_getR (z := 93) dX6_init_90 rfl fX6_7 (by assumption) rfl (by assumption) ?_
      refine go_bipush (z := 95) (v := 12) dX6_init_93 rfl (by decide) ?_
      refine go_iload_n (z := 96) dX6_init_95 rfl rfl ?_
      refine go_iadd (z := 97) dX6_init_96 rfl ?_
      refine go_iload_n (z := 98) dX6_init_97 rfl rfl ?_
      refine go_bipush (z := 100) (v := 6) dX6_init_98 rfl (by decide) ?_
      refine go_idiv (z := 101) dX6_init_100 rfl (by decide) ?_
      refine go_iload_n (z := 102) dX6_init_101 rfl rfl ?_
      refine go_bipush (z := 104) (v := 6) dX6_init_102 rfl (by decide) ?_
      refine go_irem (z := 105) dX6_init_104 rfl (by decide) rfl ?_
      refine go_icmp_ne (z := 112) (z2 := 108) dX6_init_105 rfl (by decide) (fun h => ?_) (fun h => ?_)
      · refine go_iconst (z := 113) (v := 2) dX6_init_112 rfl (by decide) ?_
        rw [show iW q = 2 from if_neg (fun c => h (dv.mpr c))] at next
        exact next
      · refine go_iconst (z := 109) (v := 1) dX6_init_108 rfl (by decide) ?_
        refine go_goto (z := 113) dX6_init_109 (by decide) ?_
        rw [show iW q = 1 from if_pos (dv.mp h)] at next
        exact next
  refine go_aload_n (z := 65) dX6_init_64 rfl rfl ?_
  refine go_getR (z := 68) dX6_init_65 rfl fX6_7 (by assumption) rfl (by assumption) ?_
  refine go_i (i' := upr i (M + 1) (i (M + 1))) upr_id.symm ?_
  refine go_bipush (z := 70) (v := 8) dX6_init_68 rfl (by decide) ?_
  refine go_bipush (z := 72) (v := 8) dX6_init_70 rfl (by decide) ?_
  refine go_iastM (z := 73) 8 (by assumption) (by decide) rfl (by omega) dX6_init_72 rfl ?_
  refine go_aload_n (z := 74) dX6_init_73 rfl rfl ?_
  refine go_getR (z := 77) dX6_init_74 rfl fX6_7 (by assumption) rfl (by assumption) ?_
  refine go_bipush (z := 79) (v := 9) dX6_init_77 rfl (by decide) ?_
  refine go_iconst (z := 80) (v := 1) dX6_init_79 rfl (by decide) ?_
  refine go_iastM (z := 81) 9 (by assumption) (by decide) rfl (by omega) dX6_init_80 rfl ?_
  refine go_iconst (z := 82) (v := 0) dX6_init_81 rfl (by decide) ?_
  refine go_istore_n (z := 83) dX6_init_82 rfl (by decide) ?_
  have := loop1 36 0 rfl (up1 (up1 (i (M + 1)) 8 8) 9 1)
  rw [in1_0] at this
  exact this
theorem c_mInit {E : EE} {Gd : Nat → Prop} (hL : MoL G M) (hz : ∀ k, i M k = 0) : Go l G mX6_init 1 7 9728 0 (lentry [.ref M] 2) [] (M + 1) i r (fun v n' i' r' => v = none ∧ n' = M + 8 ∧ MoY G (M + 8) M r' ∧ RefR E Gd 0 A0 M i' ∧ ∀ a, a < M → i' a = i a ∧ r' a = r a) := by
  obtain ⟨L0, L1, L2, L3, L4, L5, L6, L7, L8⟩ := hL
  have okM : ∀ q, M < q → Ok G q M 6 := fun q hq => ⟨L0, hq, L1⟩
  have o1 := okM (M + 1) (by omega)
  have o2 := okM (M + 1 + 1) (by omega)
  have o3 := okM (M + 1 + 1 + 1) (by omega)
  have o4 := okM (M + 1 + 1 + 1 + 1) (by omega)
  have o5 := okM (M + 1 + 1 + 1 + 1 + 1) (by omega)
  have o6 := okM (M + 1 + 1 + 1 + 1 + 1 + 1) (by omega)
  have o7 := okM (M + 1 + 1 + 1 + 1 + 1 + 1 + 1) (by omega)
  have o8 := okM (M + 1 + 1 + 1 + 1 + 1 + 1 + 1 + 1) (by omega)
  refine go_aload_n (z := 1) dX6_init_0 rfl rfl ?_
  refine go_objinit (z := 4) dX6_init_1 rfl oX6_1 (by decide) (by decide) ?_
  refine go_aload_n (z := 5) dX6_init_4 rfl rfl ?_
  refine go_sipush (z := 8) (v := 1372) dX6_init_5 rfl (by decide) ?_
  refine go_newa (z := 10) (t := 7) 1372 dX6_init_8 rfl ac_int (by first | exact Or.inl ⟨rfl, rfl⟩ | exact Or.inr ⟨rfl, rfl⟩) rfl (by decide) (by first | decide | omega) (by first | decide | omega) L2 ?_
  refine go_putR (z := 13) dX6_init_10 rfl fX6_7 (by assumption) rfl (Or.inr ⟨rfl, rfl⟩) ?_
  refine go_aload_n (z := 14) dX6_init_13 rfl rfl ?_
  refine go_sipush (z := 17) (v := 5488) dX6_init_14 rfl (by decide) ?_
  refine go_newa (z := 19) (t := 7) 5488 dX6_init_17 rfl ac_int (by first | exact Or.inl ⟨rfl, rfl⟩ | exact Or.inr ⟨rfl, rfl⟩) rfl (by decide) (by first | decide | omega) (by first | decide | omega) L3 ?_
  refine go_putR (z := 22) dX6_init_19 rfl fX6_13 (by assumption) rfl (Or.inr ⟨rfl, rfl⟩) ?_
  refine go_aload_n (z := 23) dX6_init_22 rfl rfl ?_
  refine go_sipush (z := 26) (v := 1372) dX6_init_23 rfl (by decide) ?_
  refine go_newa (z := 28) (t := 7) 1372 dX6_init_26 rfl ac_int (by first | exact Or.inl ⟨rfl, rfl⟩ | exact Or.inr ⟨rfl, rfl⟩) rfl (by decide) (by first | decide | omega) (by first | decide | omega) L4 ?_
  refine go_putR (z := 31) dX6_init_28 rfl fX6_16 (by assumption) rfl (Or.inr ⟨rfl, rfl⟩) ?_
  refine go_aload_n (z := 32) dX6_init_31 rfl rfl ?_
  refine go_sipush (z := 35) (v := 1372) dX6_init_32 rfl (by decide) ?_
  refine go_newa (z := 37) (t := 7) 1372 dX6_init_35 rfl ac_int (by first | exact Or.inl ⟨rfl, rfl⟩ | exact Or.inr ⟨rfl, rfl⟩) rfl (by decide) (by first | decide | omega) (by first | decide | omega) L5 ?_
  refine go_putR (z := 40) dX6_init_37 rfl fX6_19 (by assumption) rfl (Or.inr ⟨rfl, rfl⟩) ?_
  refine go_aload_n (z := 41) dX6_init_40 rfl rfl ?_
  refine go_bipush (z := 43) (v := 60) dX6_init_41 rfl (by decide) ?_
  refine go_newa (z := 45) (t := 7) 60 dX6_init_43 rfl ac_int (by first | exact Or.inl ⟨rfl, rfl⟩ | exact Or.inr ⟨rfl, rfl⟩) rfl (by decide) (by first | decide | omega) (by first | decide | omega) L6 ?_
  refine go_putR (z := 48) dX6_init_45 rfl fX6_22 (by assumption) rfl (Or.inr ⟨rfl, rfl⟩) ?_
  refine go_aload_n (z := 49) dX6_init_48 rfl rfl ?_
  refine go_bipush (z := 51) (v := 48) dX6_init_49 rfl (by decide) ?_
  refine go_newa (z := 53) (t := 7) 48 dX6_init_51 rfl ac_int (by first | exact Or.inl ⟨rfl, rfl⟩ | exact Or.inr ⟨rfl, rfl⟩) rfl (by decide) (by first | decide | omega) (by first | decide | omega) L7 ?_
  refine go_putR (z := 56) dX6_init_53 rfl fX6_25 (by assumption) rfl (Or.inr ⟨rfl, rfl⟩) ?_
  refine go_aload_n (z := 57) dX6_init_56 rfl rfl ?_
  refine go_bipush (z := 59) (v := 16) dX6_init_57 rfl (by decide) ?_
  refine go_newa (z := 61) (t := 7) 16 dX6_init_59 rfl ac_int (by first | exact Or.inl ⟨rfl, rfl⟩ | exact Or.inr ⟨rfl, rfl⟩) rfl (by decide) (by first | decide | omega) (by first | decide | omega) L8 ?_
  refine go_putR (z := 64) dX6_init_61 rfl fX6_28 (by assumption) rfl (Or.inr ⟨rfl, rfl⟩) ?_
  have hlo : ∀ q, q < 8 → G.1 ≤ M + q ∧ M + q < M + 8 := fun q hq => ⟨by omega, by omega⟩
  have oa : ∀ q len, q < 8 → G.2.1 (M + q) = (7, len) → OkA G (M + 8) (M + q) 7 len := fun q len hq h => ⟨by omega, by omega, h⟩
  have hY : MoY G (M + 8) M (ups (upa (ups (upa (ups (upa (ups (upa (ups (upa (ups (upa (ups (upa r (M + 1) none) M 0 (some (M + 1))) (M + 1 + 1) none) M 1 (some (M + 1 + 1))) (M + 1 + 1 + 1) none) M 3 (some (M + 1 + 1 + 1))) (M + 1 + 1 + 1 + 1) none) M 5 (some (M + 1 + 1 + 1 + 1))) (M + 1 + 1 + 1 + 1 + 1) none) M 6 (some (M + 1 + 1 + 1 + 1 + 1))) (M + 1 + 1 + 1 + 1 + 1 + 1) none) M 8 (some (M + 1 + 1 + 1 + 1 + 1 + 1))) (M + 1 + 1 + 1 + 1 + 1 + 1 + 1) none) M 12 (some (M + 1 + 1 + 1 + 1 + 1 + 1 + 1))) := by
    refine ⟨⟨okM _ (by omega), ?_, oa 1 _ (by omega) L2⟩, ⟨?_, ?_, ?_, ?_, ?_, ups_s⟩, oa 2 _ (by omega) L3, oa 3 _ (by omega) L4, oa 4 _ (by omega) L5, oa 5 _ (by omega) L6, oa 6 _ (by omega) L7, oa 7 _ (by omega) L8⟩
    · rw [ups_k (by decide), upa_a (by omega), ups_k (by decide), upa_a (by omega), ups_k (by decide), upa_a (by omega), ups_k (by decide), upa_a (by omega), ups_k (by decide), upa_a (by omega), ups_k (by decide), upa_a (by omega), ups_s]
    · rw [ups_k (by decide), upa_a (by omega), ups_k (by decide), upa_a (by omega), ups_k (by decide), upa_a (by omega), ups_k (by decide), upa_a (by omega), ups_k (by decide), upa_a (by omega), ups_s]
    · rw [ups_k (by decide), upa_a (by omega), ups_k (by decide), upa_a (by omega), ups_k (by decide), upa_a (by omega), ups_k (by decide), upa_a (by omega), ups_s]
    · rw [ups_k (by decide), upa_a (by omega), ups_k (by decide), upa_a (by omega), ups_k (by decide), upa_a (by omega), ups_s]
    · rw [ups_k (by decide), upa_a (by omega), ups_k (by decide), upa_a (by omega), ups_s]
    · rw [ups_k (by decide), upa_a (by omega), ups_s]
  have hr' : ∀ a, a < M → (ups (upa (ups (upa (ups (upa (ups (upa (ups (upa (ups (upa (ups (upa r (M + 1) none) M 0 (some (M + 1))) (M + 1 + 1) none) M 1 (some (M + 1 + 1))) (M + 1 + 1 + 1) none) M 3 (some (M + 1 + 1 + 1))) (M + 1 + 1 + 1 + 1) none) M 5 (some (M + 1 + 1 + 1 + 1))) (M + 1 + 1 + 1 + 1 + 1) none) M 6 (some (M + 1 + 1 + 1 + 1 + 1))) (M + 1 + 1 + 1 + 1 + 1 + 1) none) M 8 (some (M + 1 + 1 + 1 + 1 + 1 + 1))) (M + 1 + 1 + 1 + 1 + 1 + 1 + 1) none) M 12 (some (M + 1 + 1 + 1 + 1 + 1 + 1 + 1))) a = r a := fun a ha => by
    rw [ups_row (by omega), upa_row (by omega), ups_row (by omega), upa_row (by omega), ups_row (by omega), upa_row (by omega), ups_row (by omega), upa_row (by omega), ups_row (by omega), upa_row (by omega), ups_row (by omega), upa_row (by omega), ups_row (by omega), upa_row (by omega)]
  generalize ups (upa (ups (upa (ups (upa (ups (upa (ups (upa (ups (upa (ups (upa r (M + 1) none) M 0 (some (M + 1))) (M + 1 + 1) none) M 1 (some (M + 1 + 1))) (M + 1 + 1 + 1) none) M 3 (some (M + 1 + 1 + 1))) (M + 1 + 1 + 1 + 1) none) M 5 (some (M + 1 + 1 + 1 + 1))) (M + 1 + 1 + 1 + 1 + 1) none) M 6 (some (M + 1 + 1 + 1 + 1 + 1))) (M + 1 + 1 + 1 + 1 + 1 + 1) none) M 8 (some (M + 1 + 1 + 1 + 1 + 1 + 1))) (M + 1 + 1 + 1 + 1 + 1 + 1 + 1) none) M 12 (some (M + 1 + 1 + 1 + 1 + 1 + 1 + 1)) = rr at hY hr' ⊢
  have hi' : ∀ a, a ≤ M → (upa (upa (upa (upa (upa (upa (upa i (M + 1) 0) (M + 1 + 1) 0) (M + 1 + 1 + 1) 0) (M + 1 + 1 + 1 + 1) 0) (M + 1 + 1 + 1 + 1 + 1) 0) (M + 1 + 1 + 1 + 1 + 1 + 1) 0) (M + 1 + 1 + 1 + 1 + 1 + 1 + 1) 0) a = i a := fun a ha => by
    rw [upa_row (by omega), upa_row (by omega), upa_row (by omega), upa_row (by omega), upa_row (by omega), upa_row (by omega), upa_row (by omega)]
  have hi0 : ∀ k, (upa (upa (upa (upa (upa (upa (upa i (M + 1) 0) (M + 1 + 1) 0) (M + 1 + 1 + 1) 0) (M + 1 + 1 + 1 + 1) 0) (M + 1 + 1 + 1 + 1 + 1) 0) (M + 1 + 1 + 1 + 1 + 1 + 1) 0) (M + 1 + 1 + 1 + 1 + 1 + 1 + 1) 0) (M + 1) k = 0 := fun k => by
    rw [upa_a (by omega), upa_a (by omega), upa_a (by omega), upa_a (by omega), upa_a (by omega), upa_a (by omega), upa_s]
  have hi5 : ∀ k, (upa (upa (upa (upa (upa (upa (upa i (M + 1) 0) (M + 1 + 1) 0) (M + 1 + 1 + 1) 0) (M + 1 + 1 + 1 + 1) 0) (M + 1 + 1 + 1 + 1 + 1) 0) (M + 1 + 1 + 1 + 1 + 1 + 1) 0) (M + 1 + 1 + 1 + 1 + 1 + 1 + 1) 0) (M + 5) k = 0 := fun k => by
    rw [upa_a (by omega), upa_a (by omega)]
    exact upa_s
  generalize upa (upa (upa (upa (upa (upa (upa i (M + 1) 0) (M + 1 + 1) 0) (M + 1 + 1 + 1) 0) (M + 1 + 1 + 1 + 1) 0) (M + 1 + 1 + 1 + 1 + 1) 0) (M + 1 + 1 + 1 + 1 + 1 + 1) 0) (M + 1 + 1 + 1 + 1 + 1 + 1 + 1) 0 = ii at hi' hi0 hi5 ⊢
  refine go_less (go_post (c_mInitB hY.1) (fun v n' i' r' hp => ?_)) (Nat.zero_le _) (Nat.zero_le _) (Nat.zero_le _)
  obtain ⟨p1, p2, p3, p4⟩ := hp
  subst p3 p4
  refine ⟨p1, p2, hY, ⟨?_, ⟨?_, Nat.zero_le _, fun j m hj => (by cases hj)⟩, ?_, fun q => (by cases q), ?_, Nat.zero_le _, fun k hk => ?_⟩, fun a ha => ⟨?_, hr' a ha⟩⟩
  · rw [upr_s]
    exact inS_rel hi0
  · rw [upr_n (by omega), hi' M (Nat.le_refl _)]; exact hz 2
  · rw [upr_n (by omega), hi' M (Nat.le_refl _)]; exact hz 4
  · rw [upr_n (by omega), hi' M (Nat.le_refl _)]; exact hz 7
  · rw [upr_n (by omega)]; exact hi5 k
  · rw [upr_n (by omega)]; exact hi' a (by omega)
end MINIT
