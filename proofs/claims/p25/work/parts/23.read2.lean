theorem RdRep.lt {G : GG} {n0 Rd : Nat} {s : RS} {n : Nat} {i : IP} {r : RP} (h : RdRep G n0 Rd s n i r) : Rd + 2 < n0 := by
  obtain ⟨-, ⟨-, -, hlt, -⟩, h2, -⟩ := h
  rcases Nat.lt_or_ge (Rd + 2) n0 with q | q
  · exact q
  · have := h2 _ q
    rw [hlt.2.2] at this
    exact absurd this (by decide)
theorem mxP_root (f : FB) (c : Nat) : mxP (addN f c 0) (c + 1) = mxP f c := by
  unfold mxP
  rw [List.range_succ, List.map_append, List.foldl_append]
  have e : (List.range c).map (fun q => ((addN f c 0).2.1 q).length) = (List.range c).map (fun q => (f.2.1 q).length) := by
    refine List.map_congr_left (fun q hq => ?_)
    have hqc : q ≠ c := by have := List.mem_range.mp hq; omega
    show (if q = c then [] else if (0:Nat) ≠ 0 ∧ q = _ then _ else f.2.1 q).length = _
    rw [if_neg hqc, if_neg (fun h => h.1 rfl)]
  rw [e]
  show max _ (if c = c then [] else _).length = _
  rw [if_pos rfl]
  simp
theorem mxP_part {f : FB} {c m d : Nat} (h : FI f c m) (hd : d ≤ m) (h0 : 0 < d) : mxP (addN f c d) (c + 1) = max (mxP f c) ((f.2.1 (f.2.2.2 (d - 1))).length + 1) := by
  have hp : f.2.2.2 (d - 1) < c := h.1 _ (by omega)
  have hk : ∀ q, q < c → ((addN f c d).2.1 q).length = if q = f.2.2.2 (d - 1) then (f.2.1 q).length + 1 else (f.2.1 q).length := by
    intro q hq
    show (if q = c then [] else if d ≠ 0 ∧ q = f.2.2.2 (d - 1) then f.2.1 q ++ [c] else f.2.1 q).length = _
    rw [if_neg (by omega)]
    by_cases e : q = f.2.2.2 (d - 1)
    · rw [if_pos ⟨by omega, e⟩, if_pos e, List.length_append]; rfl
    · rw [if_neg (fun w => e w.2), if_neg e]
  have hkc : ((addN f c d).2.1 c).length = 0 := by
    show (if c = c then [] else _).length = 0
    rw [if_pos rfl]; rfl
  have old : ∀ q, q < c → (f.2.1 q).length ≤ mxP f c := fun q hq => fmax_le _ 0 _ (List.mem_map.mpr ⟨q, List.mem_range.mpr hq, rfl⟩)
  refine fmax_eq (fun x hx => ?_) (Or.inr ?_)
  · obtain ⟨q, hq, rfl⟩ := List.mem_map.mp hx
    have hq := List.mem_range.mp hq
    by_cases e : q = c
    · subst e; rw [hkc]; omega
    · rw [hk q (by omega)]
      by_cases e2 : q = f.2.2.2 (d - 1)
      · rw [if_pos e2, e2]; omega
      · rw [if_neg e2]; have := old q (by omega); omega
  · rcases Nat.le_total (mxP f c) ((f.2.1 (f.2.2.2 (d - 1))).length + 1) with w | w
    · rw [Nat.max_eq_right w]
      exact List.mem_map.mpr ⟨_, List.mem_range.mpr (show f.2.2.2 (d - 1) < c + 1 by omega), by rw [hk _ hp, if_pos rfl]⟩
    · rw [Nat.max_eq_left w]
      have hm := fmax_mem ((List.range c).map (fun q => (f.2.1 q).length)) 0
      have hm : mxP f c = 0 ∨ mxP f c ∈ (List.range c).map (fun q => (f.2.1 q).length) := hm
      rcases hm with q | q
      · omega
      · obtain ⟨q, hq, e⟩ := List.mem_map.mp q
        have hq := List.mem_range.mp hq
        have hne : q ≠ f.2.2.2 (d - 1) := fun e2 => by rw [e2] at e; omega
        exact List.mem_map.mpr ⟨q, List.mem_range.mpr (by omega), by rw [hk q hq, if_neg hne]; exact e⟩
theorem swk_snoc0 (L : List RN) (a b : Nat) : swk (L ++ [(a, 0, b)]) = swk L := by unfold swk; rw [List.map_append, List.sum_append]; simp
section READ2
variable {l : Launch} {G : GG} {n : Nat} {i : IP} {r : RP} {Rd n0 : Nat}
theorem c_takeHouse {L : List RN} {d : Nat} {x : Int32} (hR : RdRep G n0 Rd (L, d, 0) n i r) (hF : FI (fbL L) L.length (mL L)) (hd : d ≤ mL L) (hc : L.length ≤ 14) (hdep : ∀ y ∈ L, y.2.2 < L.length) : Go l G mX3_takeHouse 2 1 7 0 (lentry [.ref Rd, .int x] 3) [] n i r (fun v n' i' r' => (48 ≤ x ∧ x < 54 ∧ v = some (.int 1) ∧ RdRep G n0 Rd (L ++ [((x - 48).toNatClampNeg, 0, d)], d, 1) n' i' r' ∧ OutR n0 Rd i r i' r') ∨ (¬ (48 ≤ x ∧ x < 54) ∧ v = some (.int 0) ∧ n' = n ∧ i' = i ∧ r' = r)) := by
  have hlt := hR.lt
  obtain ⟨hn, hL, htag, hG, ⟨f1, f3, f4, f5, f6, f7, f8⟩, hroots, hlat, hnode⟩ := hR
  have hL0 := hL
  obtain ⟨hRd, hhd, hltr, e0, e2⟩ := hL
  have hmc := hF.2.2.2.2.2.2.2.2.2.2.2.2
  have hn : n = n0 + L.length := hn
  have f3 : i Rd 3 = nI d := f3
  have hrl : (fbL L).1.length ≤ L.length := by
    have h8 := hF.2.2.2.2.2.2.2.1
    have h9 := hF.2.2.2.2.2.2.2.2.1
    have hnd : (fbL L).1.Nodup := h9.imp (fun h => Nat.ne_of_lt h)
    have := hnd.length_le_of_subset (l₂ := List.range L.length) (fun k hk => List.mem_range.mpr (h8 k hk))
    rw [List.length_range] at this
    exact this
  refine go_iload_n (z := 1) dX3_takeHouse_0 rfl rfl ?_
  refine go_bipush (z := 3) (v := 48) dX3_takeHouse_1 rfl (by decide) ?_
  refine go_icmp_lt (z := 24) (z2 := 6) dX3_takeHouse_3 rfl (by decide) (fun h => ?_) (fun h1 => ?_)
  · refine go_iconst (z := 25) (v := 0) dX3_takeHouse_24 rfl (by decide) ?_
    refine go_zret dX3_takeHouse_25 rfl (congrArg Value.int (by decide)) ?_
    exact Or.inr ⟨fun q => absurd h (Int32.not_lt.mpr q.1), rfl, rfl, rfl, rfl⟩
  refine go_iload_n (z := 7) dX3_takeHouse_6 rfl rfl ?_
  refine go_bipush (z := 9) (v := 54) dX3_takeHouse_7 rfl (by decide) ?_
  refine go_icmp_ge (z := 24) (z2 := 12) dX3_takeHouse_9 rfl (by decide) (fun h => ?_) (fun h2 => ?_)
  · refine go_iconst (z := 25) (v := 0) dX3_takeHouse_24 rfl (by decide) ?_
    refine go_zret dX3_takeHouse_25 rfl (congrArg Value.int (by decide)) ?_
    exact Or.inr ⟨fun q => absurd q.2 (Int32.not_lt.mpr h), rfl, rfl, rfl, rfl⟩
  have hx1 : 48 ≤ x := Int32.not_lt.mp h1
  have hx2 : x < 54 := Int32.not_le.mp h2
  obtain ⟨c, g1, g2, g3, g4, g5⟩ := dig_of (b := 53) hx1 (by
    have := hx2
    rw [Int32.lt_iff_toInt_lt] at this
    rw [Int32.le_iff_toInt_le]
    have e1 : (54 : Int32).toInt = 54 := by decide
    have e2 : (nI 53).toInt = 53 := by decide
    omega) (by omega)
  refine go_aload_n (z := 13) dX3_takeHouse_12 rfl rfl ?_
  refine go_getI (z := 16) dX3_takeHouse_13 rfl fX3_24 (by assumption) rfl ?_
  refine go_aload_n (z := 17) dX3_takeHouse_16 rfl rfl ?_
  refine go_getR (z := 20) dX3_takeHouse_17 rfl fX3_17 (by assumption) rfl (by assumption) ?_
  refine go_alen (z := 21) (by assumption) (by decide) dX3_takeHouse_20 rfl ?_
  rw [f3]
  refine go_icmp_lt (z := 26) (z2 := 24) dX3_takeHouse_21 rfl (by decide) (fun _ => ?_) (fun h => absurd (nI_lt (b := 15) (by omega) (by omega)) h)
  have hNt : (G.2.1 n).1 = 0 := htag n (by omega)
  have hN : Ok G (n + 1) n 0 := ⟨by omega, by omega, hNt⟩
  refine go_new (z := 29) (t := 0) dX3_takeHouse_26 rfl (by decide) cX3_9 ibX0 inX0z (by first | decide | omega) (by have e : (cT 0).2.2 = 7 := rfl; omega) hNt ?_
  refine go_dup (z := 30) dX3_takeHouse_29 rfl rfl ?_
  refine go_iload_n (z := 31) dX3_takeHouse_30 rfl rfl ?_
  refine go_bipush (z := 33) (v := 48) dX3_takeHouse_31 rfl (by decide) ?_
  refine go_isub (z := 34) dX3_takeHouse_33 rfl ?_
  refine go_callI (z := 37) [.int (x - 48)] dX3_takeHouse_34 rfl mlX0_init rfl iX3_58 rfl rfl (by decide) (cat_i cat_nil) (by simp) (by decide) (by first | decide | omega) (by first | decide | omega) (c_Errand_init hN) ?_
  intro v n2 i1 r1 hp
  obtain ⟨p1, p2, p3, p4⟩ := hp
  rw [p1, p2, p4]
  have hi1 : ∀ a, a ≠ n → i1 a = i a := fun a ha => by rw [p3, ups_row ha, ups_row ha, upa_row ha]
  have hi1n : ∀ k, i1 n k = if k = 0 then x - 48 else if k = 3 then 1 else 0 := fun k => by
    rw [p3]
    by_cases k0 : k = 0
    · subst k0; rw [ups_s]; rfl
    · rw [ups_k k0, if_neg k0]
      by_cases k3 : k = 3
      · subst k3; rw [ups_s]; rfl
      · rw [ups_k k3, upa_s, if_neg k3]
  clear p3
  have hr1 : ∀ a, a ≠ n → upa r n none a = r a := fun a ha => upa_row ha
  have hr1n : ∀ k, upa r n none n k = none := fun k => upa_s
  generalize upa r n none = r1 at hr1 hr1n ⊢
  have hL1 : RdL G (n + 1) Rd r1 := ⟨hRd.mono (by omega), hhd.mono (by omega), hltr.mono (by omega), by rw [hr1 Rd (by omega)]; exact e0, by rw [hr1 Rd (by omega)]; exact e2⟩
  have tail : ∀ (i3 : IP) (r3 : RP), (∀ a, a < n0 → a ≠ Rd → i3 a = i a) → (∀ a, a < n0 → a ≠ Rd + 1 → r3 a = r a) → i3 Rd 3 = nI d → i3 Rd 1 = nI (addN (fbL L) L.length d).1.length → i3 Rd 5 = nI L.length → i3 Rd 6 = nI (swk L) → i3 Rd 7 = nI (mxd L) → i3 Rd 8 = nI (mxP (addN (fbL L) L.length d) (L.length + 1)) →
      (∀ (k a : Nat), (addN (fbL L) L.length d).1[k]? = some a → r3 (Rd + 1) k = some (n0 + a)) → (∀ q y, (L ++ [((x - 48).toNatClampNeg, 0, d)])[q]? = some y → Node n0 (addN (fbL L) L.length d) i3 r3 q y) →
      Go l G mX3_takeHouse 2 0 0 48 [some (.ref Rd), some (.int x), some (.ref n)] [] (n + 1) i3 r3 (fun v n' i' r' => (48 ≤ x ∧ x < 54 ∧ v = some (.int 1) ∧ RdRep G n0 Rd (L ++ [((x - 48).toNatClampNeg, 0, d)], d, 1) n' i' r' ∧ OutR n0 Rd i r i' r') ∨ (¬ (48 ≤ x ∧ x < 54) ∧ v = some (.int 0) ∧ n' = n ∧ i' = i ∧ r' = r)) := by
    intro i3 r3 k1 k2 k3 k4 k5 k6 k7 k8 k9 k10
    have a0 : r3 Rd 0 = some (Rd + 1) := by rw [k2 Rd (by omega) (by omega)]; exact e0
    have a2 : r3 Rd 2 = some (Rd + 2) := by rw [k2 Rd (by omega) (by omega)]; exact e2
    have o1 := hL1.1
    have o2 := hL1.2.1
    have o3 := hL1.2.2.1
    refine go_aload_n (z := 49) dX3_takeHouse_48 rfl rfl ?_
    refine go_getR (z := 52) dX3_takeHouse_49 rfl fX3_17 (by assumption) rfl (by assumption) ?_
    refine go_aload_n (z := 53) dX3_takeHouse_52 rfl rfl ?_
    refine go_getI (z := 56) dX3_takeHouse_53 rfl fX3_24 (by assumption) rfl ?_
    refine go_aload_n (z := 57) dX3_takeHouse_56 rfl rfl ?_
    rw [k3]
    refine go_aastR (z := 58) d o3 ⟨by decide, by decide⟩ (by decide) rfl (by omega) hN (by decide) rfl dX3_takeHouse_57 rfl ?_
    refine go_aload_n (z := 59) dX3_takeHouse_58 rfl rfl ?_
    refine go_dup (z := 60) dX3_takeHouse_59 rfl rfl ?_
    refine go_getI (z := 63) dX3_takeHouse_60 rfl fX3_30 (by assumption) rfl ?_
    refine go_iconst (z := 64) (v := 1) dX3_takeHouse_63 rfl (by decide) ?_
    refine go_iadd (z := 65) dX3_takeHouse_64 rfl ?_
    refine go_putI (z := 68) dX3_takeHouse_65 rfl fX3_30 (by assumption) rfl (Or.inl rfl) rfl ?_
    refine go_aload_n (z := 69) dX3_takeHouse_68 rfl rfl ?_
    refine go_aload_n (z := 70) dX3_takeHouse_69 rfl rfl ?_
    refine go_getI (z := 73) dX3_takeHouse_70 rfl fX3_36 (by assumption) rfl ?_
    refine go_aload_n (z := 74) dX3_takeHouse_73 rfl rfl ?_
    refine go_getI (z := 77) dX3_takeHouse_74 rfl fX3_24 (by assumption) rfl ?_
    refine go_iconst (z := 78) (v := 1) dX3_takeHouse_77 rfl (by decide) ?_
    refine go_iadd (z := 79) dX3_takeHouse_78 rfl ?_
    rw [show ups i3 Rd 5 (i3 Rd 5 + 1) Rd 3 = nI d by rw [ups_k (by decide)]; exact k3, show ups i3 Rd 5 (i3 Rd 5 + 1) Rd 7 = nI (mxd L) by rw [ups_k (by decide)]; exact k7, k5]
    refine go_max (z := 82) dX3_takeHouse_79 rfl xX3_65 (by simp) (by decide) (show (if nI (mxd L) < nI d + 1 then nI d + 1 else nI (mxd L)) = nI (max (mxd L) (d + 1)) from ?_) ?_
    · have hm : mxd L ≤ 2 ^ 30 := by
        unfold mxd
        rcases fmax_mem (L.map (fun y => y.2.2 + 1)) 0 with q | q
        · rw [q]; omega
        · obtain ⟨y, hy, e⟩ := List.mem_map.mp q
          have := hdep y hy
          omega
      rw [nI_1]
      exact i32_max (by omega) (by omega)
    refine go_putI (z := 85) dX3_takeHouse_82 rfl fX3_36 (by assumption) rfl (Or.inl rfl) rfl ?_
    refine go_aload_n (z := 86) dX3_takeHouse_85 rfl rfl ?_
    refine go_iconst (z := 87) (v := 1) dX3_takeHouse_86 rfl (by decide) ?_
    refine go_putI (z := 90) dX3_takeHouse_87 rfl fX3_27 (by assumption) rfl (Or.inl rfl) rfl ?_
    refine go_iconst (z := 91) (v := 1) dX3_takeHouse_90 rfl (by decide) ?_
    refine go_zret dX3_takeHouse_91 rfl (congrArg Value.int (by decide)) (Or.inl ⟨hx1, hx2, rfl, ⟨?_, ⟨o1, o2, o3, ?_, ?_⟩, htag, hG, ⟨?_, ?_, ?_, ?_, ?_, ?_, ?_⟩, ?_, ?_, ?_⟩, ?_⟩)
    · show n + 1 = n0 + (L ++ [_]).length
      rw [List.length_append, hn]; rfl
    · rw [ups_a (by omega)]; exact a0
    · rw [ups_a (by omega)]; exact a2
    · rw [ups_k (by decide), ups_k (by decide), ups_k (by decide)]
      show i3 Rd 1 = nI (fbL (L ++ [_])).1.length
      rw [fbL_snoc]; exact k4
    · rw [ups_k (by decide), ups_k (by decide), ups_k (by decide)]; exact k3
    · rw [ups_s]; rfl
    · rw [ups_k (by decide), ups_k (by decide), ups_s, nI_1]
      show nI (L.length + 1) = nI (L ++ [_]).length
      rw [List.length_append]; rfl
    · rw [ups_k (by decide), ups_k (by decide), ups_k (by decide)]
      show i3 Rd 6 = nI (swk (L ++ [_]))
      rw [swk_snoc0]; exact k6
    · rw [ups_k (by decide), ups_s]
      show _ = nI (mxd (L ++ [_]))
      rw [mxd_snoc]
    · rw [ups_k (by decide), ups_k (by decide), ups_k (by decide)]
      show i3 Rd 8 = nI (mxP (fbL (L ++ [_])) (L ++ [_]).length)
      rw [fbL_snoc, List.length_append]; exact k8
    · intro k a hka
      have hka : (fbL (L ++ [((x - 48).toNatClampNeg, 0, d)])).1[k]? = some a := hka
      rw [fbL_snoc] at hka
      rw [ups_a (by omega)]
      exact k9 k a hka
    · intro e he
      have he : e < d + 1 := he
      show ups r3 (Rd + 2) d (some n) (Rd + 2) e = some (n0 + (fbL (L ++ [_])).2.2.2 e)
      rw [fbL_snoc]
      show _ = some (n0 + up1 (fbL L).2.2.2 d L.length e)
      by_cases ed : e = d
      · subst ed; rw [ups_s, up1_s, hn]
      · rw [ups_k ed, up1_n ed, k2 _ (by omega) (by omega)]
        exact hlat e (by show e < d; omega)
    · intro q y hy
      have hq : q < L.length + 1 := by have := (List.getElem?_eq_some_iff.mp hy).1; simpa using this
      have hnd := k10 q y hy
      show Node n0 (fbL (L ++ [_])) _ _ q y
      rw [fbL_snoc]
      obtain ⟨b0, b1, b2, b3, b4, b5⟩ := hnd
      have hne : n0 + q ≠ Rd := by omega
      have hne2 : n0 + q ≠ Rd + 2 := by omega
      refine ⟨?_, ?_, ?_, ?_, ?_, ?_⟩
      · rw [ups_a hne, ups_a hne, ups_a hne]; exact b0
      · rw [ups_a hne, ups_a hne, ups_a hne]; exact b1
      · rw [ups_a hne, ups_a hne, ups_a hne]; exact b2
      · rw [ups_a hne, ups_a hne, ups_a hne]; exact b3
      · rw [ups_a hne2]
        exact b4.same6 (fun b hb => by
          obtain ⟨k, -, rfl⟩ := List.mem_map.mp hb
          exact ups_a (by omega))
      · rw [ups_a hne2]; exact b5
    · intro a a1 a2' a3 a4
      refine ⟨?_, ?_⟩
      · rw [ups_row a2', ups_row a2', ups_row a2']; exact k1 a a1 a2'
      · rw [ups_row a4]; exact k2 a a1 a3
  have w3 : i1 Rd 3 = nI d := by rw [hi1 Rd (by omega)]; exact f3
  have w1 : i1 Rd 1 = nI (fbL L).1.length := by rw [hi1 Rd (by omega)]; exact f1
  have w5 : i1 Rd 5 = nI L.length := by rw [hi1 Rd (by omega)]; exact f5
  have w6 : i1 Rd 6 = nI (swk L) := by rw [hi1 Rd (by omega)]; exact f6
  have w7 : i1 Rd 7 = nI (mxd L) := by rw [hi1 Rd (by omega)]; exact f7
  have w8 : i1 Rd 8 = nI (mxP (fbL L) L.length) := by rw [hi1 Rd (by omega)]; exact f8
  have hsn : ∀ q y, (L ++ [((x - 48).toNatClampNeg, 0, d)])[q]? = some y → (q < L.length ∧ L[q]? = some y) ∨ (q = L.length ∧ y = ((x - 48).toNatClampNeg, 0, d)) := by
    intro q y hy
    by_cases hq : q < L.length
    · rw [List.getElem?_append_left hq] at hy; exact Or.inl ⟨hq, hy⟩
    · rw [List.getElem?_append_right (by omega)] at hy
      have hz : q - L.length < 1 := (List.getElem?_eq_some_iff.mp hy).1
      rw [show q - L.length = 0 by omega] at hy
      exact Or.inr ⟨by omega, (Option.some.inj hy).symm⟩
  have hx48 : x - 48 = nI (x - 48).toNatClampNeg := by rw [g5]; exact g4
  have newK : (addN (fbL L) L.length d).2.1 L.length = [] := if_pos rfl
  have newS : (addN (fbL L) L.length d).2.2.1 L.length = 1 := if_pos rfl
  refine go_astore_n (z := 38) dX3_takeHouse_37 rfl (by decide) ?_
  refine go_aload_n (z := 39) dX3_takeHouse_38 rfl rfl ?_
  refine go_aload_n (z := 40) dX3_takeHouse_39 rfl rfl ?_
  by_cases hd0 : d = 0
  · subst hd0
    have oldK : ∀ q, q < L.length → (addN (fbL L) L.length 0).2.1 q = (fbL L).2.1 q := fun q hq => by
      show (if q = L.length then [] else if (0:Nat) ≠ 0 ∧ q = _ then _ else _) = _
      rw [if_neg (by omega), if_neg (fun h => h.1 rfl)]
    have oldS : ∀ q, q < L.length → (addN (fbL L) L.length 0).2.2.1 q = (fbL L).2.2.1 q := fun q hq => by
      show (if q = L.length then 1 else if isAnc (fbL L) 0 q = true then _ else _) = _
      rw [if_neg (by omega), if_neg (by intro h; obtain ⟨e, he, -⟩ := isAnc_iff.mp h; omega)]
    have hroot : (addN (fbL L) L.length 0).1 = (fbL L).1 ++ [L.length] := by
      show (if (0:Nat) = 0 then (fbL L).1 ++ [L.length] else (fbL L).1) = _
      rw [if_pos rfl]
    refine go_callV (z := 43) (t := 3) [.ref n] dX3_takeHouse_40 rfl mlX3_putInPlace vX3_61 ⟨by decide, rfl⟩ hL1.1 rfl rfl (by decide) (cat_r cat_nil) (by simp) (by decide) (by first | decide | omega) (by first | decide | omega) (c_putRoot hL1 w3 w1 (by omega) hN) ?_
    intro v n2 i2 r2 hp
    obtain ⟨q1, q2, q3, q4⟩ := hp
    rw [q1, q2, q3, q4]
    refine go_if_ne (z := 48) (z2 := 46) dX3_takeHouse_43 rfl (by decide) (fun _ => ?_) (fun h => absurd h (by decide))
    refine go_lo (lo' := [some (.ref Rd), some (.int x), some (.ref n)]) rfl (tail _ _ (fun a ha ha2 => ?_) (fun a ha ha2 => ?_) ?_ ?_ ?_ ?_ ?_ ?_ (fun k a hka => ?_) (fun q y hy => ?_))
    · rw [ups_row ha2]; exact hi1 a (by omega)
    · rw [ups_row ha2]; exact hr1 a (by omega)
    · rw [ups_k (by decide)]; exact w3
    · rw [ups_s, hroot, List.length_append]; rfl
    · rw [ups_k (by decide)]; exact w5
    · rw [ups_k (by decide)]; exact w6
    · rw [ups_k (by decide)]; exact w7
    · rw [ups_k (by decide), mxP_root]; exact w8
    · rw [hroot] at hka
      by_cases hk : k < (fbL L).1.length
      · rw [List.getElem?_append_left hk] at hka
        rw [ups_k (by omega), hr1 _ (by omega)]
        exact hroots k a hka
      · rw [List.getElem?_append_right (by omega)] at hka
        have hz : k - (fbL L).1.length < 1 := (List.getElem?_eq_some_iff.mp hka).1
        have hk2 : k = (fbL L).1.length := by omega
        subst hk2
        simp at hka
        rw [ups_s, ← hka, hn]
    · rcases hsn q y hy with ⟨hq, hy2⟩ | ⟨hq, hy2⟩
      · obtain ⟨b0, b1, b2, b3, b4, b5⟩ := hnode q y hy2
        have hne : n0 + q ≠ Rd := by omega
        have hne2 : n0 + q ≠ n := by omega
        have hne3 : n0 + q ≠ Rd + 1 := by omega
        refine ⟨?_, ?_, ?_, ?_, ?_, ?_⟩
        · rw [ups_a hne, hi1 _ hne2]; exact b0
        · rw [ups_a hne, hi1 _ hne2]; exact b1
        · rw [ups_a hne, hi1 _ hne2, oldK q hq]; exact b2
        · rw [ups_a hne, hi1 _ hne2, oldS q hq]; exact b3
        · rw [ups_a hne3, hr1 _ hne2, oldK q hq]
          exact b4.same6 (fun b hb => by
            obtain ⟨k, hk, rfl⟩ := List.mem_map.mp hb
            have := hF.2.2.1 q k hk
            rw [ups_a (by omega), hr1 _ (by omega)])
        · rw [ups_a hne3, hr1 _ hne2, oldK q hq]; exact b5
      · subst hq; subst hy2
        have hne : n0 + L.length = n := hn.symm
        rw [hne.symm] at hi1n hr1n
        refine ⟨?_, ?_, ?_, ?_, ?_, ?_⟩
        · rw [ups_a (by omega), hi1n]; exact hx48
        · rw [ups_a (by omega), hi1n]; rfl
        · rw [ups_a (by omega), hi1n, newK]; rfl
        · rw [ups_a (by omega), hi1n, newS]; rfl
        · rw [newK, ups_a (by omega), hr1n]; rfl
        · rw [newK, ups_a (by omega), hr1n]; rfl
  · have hd1 : 0 < d := by omega
    have hpl : (fbL L).2.2.2 (d - 1) < L.length := hF.1 _ (by omega)
    obtain ⟨p, hp⟩ : ∃ p, p = (fbL L).2.2.2 (d - 1) := ⟨_, rfl⟩
    have hpL : p < L.length := by rw [hp]; exact hpl
    have hA : ∀ e, e < d → r1 (Rd + 2) e = some (n0 + (fbL L).2.2.2 e) ∧ Ok G (n + 1) (n0 + (fbL L).2.2.2 e) 0 := by
      intro e he
      have h1 := hF.1 e (by omega)
      exact ⟨by rw [hr1 _ (by omega)]; exact hlat e he, ⟨by omega, by omega, htag _ (by omega)⟩⟩
    have hinj : ∀ e g, e < d → g < d → n0 + (fbL L).2.2.2 e = n0 + (fbL L).2.2.2 g → e = g := fun e g he hg h => hF.lat_inj (by omega) (by omega) (by omega)
    have hPA : (fun e => n0 + (fbL L).2.2.2 e) (d - 1) = n0 + p := by rw [hp]
    obtain ⟨y, hy⟩ : ∃ y, L[p]? = some y := ⟨L[p], List.getElem?_eq_getElem hpL⟩
    have hnp := hnode p y hy
    have hP5 : r1 (n0 + p) 5 = ((fbL L).2.1 p).getLast?.map (fun k => n0 + k) := by rw [hr1 _ (by omega)]; exact hnp.2.2.2.2.2
    have hlk : ∀ q, r1 (n0 + p) 5 = some q → ∃ K e, (fbL L).2.1 p = K ++ [e] ∧ q = n0 + e := by
      intro q hq
      rw [hP5] at hq
      rcases List.eq_nil_or_concat ((fbL L).2.1 p) with w | ⟨K, e, w⟩
      · rw [w] at hq; cases hq
      · rw [List.concat_eq_append] at w
        rw [w, List.getLast?_append] at hq
        exact ⟨K, e, w, (Option.some.inj hq).symm⟩
    have oldK : ∀ q, q < L.length → (addN (fbL L) L.length d).2.1 q = if q = p then (fbL L).2.1 q ++ [L.length] else (fbL L).2.1 q := fun q hq => by
      show (if q = L.length then [] else if d ≠ 0 ∧ q = (fbL L).2.2.2 (d - 1) then _ else _) = _
      rw [if_neg (by omega), ← hp]
      by_cases w : q = p
      · rw [if_pos ⟨hd0, w⟩, if_pos w]
      · rw [if_neg (fun h => w h.2), if_neg w]
    have oldS : ∀ q, q < L.length → (addN (fbL L) L.length d).2.2.1 q = if isAnc (fbL L) d q = true then (fbL L).2.2.1 q + 1 else (fbL L).2.2.1 q := fun q hq => by
      show (if q = L.length then 1 else if isAnc (fbL L) d q = true then _ else _) = _
      rw [if_neg (by omega)]
    have hroot : (addN (fbL L) L.length d).1 = (fbL L).1 := if_neg hd0
    have hsz : ∀ q, q < L.length → (fbL L).2.2.1 q ≤ 15 := fun q hq => by have := hF.2.2.2.2.2.2.1 q hq; omega
    have hkl : ∀ q, ((fbL L).2.1 q).length ≤ L.length := fun q => by
      have h5 := hF.2.2.2.2.1 q
      have hnd : ((fbL L).2.1 q).Nodup := h5.imp (fun h => Nat.ne_of_lt h)
      have := hnd.length_le_of_subset (l₂ := List.range L.length) (fun k hk => List.mem_range.mpr (hF.2.2.1 q k hk).2)
      rw [List.length_range] at this
      exact this
    have hmp : mxP (fbL L) L.length ≤ 15 := by
      unfold mxP
      rcases fmax_mem ((List.range L.length).map (fun q => ((fbL L).2.1 q).length)) 0 with q | q
      · rw [q]; omega
      · obtain ⟨k, -, e⟩ := List.mem_map.mp q
        rw [← e]
        have := hkl k
        omega
    refine go_callV (z := 43) (t := 3) [.ref n] dX3_takeHouse_40 rfl mlX3_putInPlace vX3_61 ⟨by decide, rfl⟩ hL1.1 rfl rfl (by decide) (cat_r cat_nil) (by simp) (by decide) (by first | decide | omega) (by first | decide | omega) (c_putPart (A := fun e => n0 + (fbL L).2.2.2 e) hL1 w3 hd1 (by omega) hA hinj hPA hN (fun q hq => by obtain ⟨K, e, hK, he⟩ := hlk q hq; have := hF.2.2.1 p e (by rw [hK]; exact List.mem_append_right _ List.mem_cons_self); rw [he]; exact ⟨by omega, by omega, htag _ (by omega)⟩)) ?_
    intro v n2 i3 r3 hpo
    obtain ⟨q1, q2, q3, i2, q4, q5, q6, q7⟩ := hpo
    rw [q1, q2]
    refine go_if_ne (z := 48) (z2 := 46) dX3_takeHouse_43 rfl (by decide) (fun _ => ?_) (fun h => absurd h (by decide))
    have hP2 : i1 (n0 + p) 2 = nI ((fbL L).2.1 p).length := by rw [hi1 _ (by omega)]; exact hnp.2.2.1
    have hi2 : ∀ a k, i2 a k = if a = Rd ∧ k = 8 then nI (max (mxP (fbL L) L.length) (((fbL L).2.1 p).length + 1)) else if a = n0 + p ∧ k = 2 then nI (((fbL L).2.1 p).length + 1) else i1 a k := by
      intro a k
      rw [q4, hP2, w8, nI_1, i32_max (by omega) (by have := hkl p; omega)]
      rfl
    have hRd3 : ∀ k, i3 Rd k = i2 Rd k := fun k => by rw [q6 Rd (fun e he => by show n0 + _ ≠ Rd; omega)]
    have hr3 : ∀ a, a < n0 → r3 a = r1 a := by
      intro a ha
      rcases q3 with ⟨-, w⟩ | ⟨q, hq, w⟩
      · rw [w, ups_row (by omega), ups_row (by omega)]
      · obtain ⟨K, e, hK, he⟩ := hlk q hq
        rw [w, ups_row (by omega), ups_row (by omega)]
    refine go_lo (lo' := [some (.ref Rd), some (.int x), some (.ref n)]) rfl (tail _ _ (fun a ha ha2 => ?_) (fun a ha ha2 => ?_) ?_ ?_ ?_ ?_ ?_ ?_ (fun k a hka => ?_) (fun q y hy => ?_))
    · rw [q6 a (fun e he => by show n0 + _ ≠ a; omega)]
      funext k
      rw [hi2, if_neg (fun w => ha2 w.1), if_neg (fun w => by omega), hi1 a (by omega)]
    · rw [hr3 a ha, hr1 a (by omega)]
    · rw [hRd3, hi2, if_neg (by omega), if_neg (by omega)]; exact w3
    · rw [hRd3, hi2, if_neg (by omega), if_neg (by omega), hroot]; exact w1
    · rw [hRd3, hi2, if_neg (by omega), if_neg (by omega)]; exact w5
    · rw [hRd3, hi2, if_neg (by omega), if_neg (by omega)]; exact w6
    · rw [hRd3, hi2, if_neg (by omega), if_neg (by omega)]; exact w7
    · rw [hRd3, hi2, if_pos ⟨rfl, rfl⟩, mxP_part hF hd hd1, hp]
    · rw [hroot] at hka
      rw [hr3 _ (by omega), hr1 _ (by omega)]
      exact hroots k a hka
    · have hi3 : ∀ q k, k ≠ 3 → q ≤ L.length → i3 (n0 + q) k = if q = p ∧ k = 2 then nI (((fbL L).2.1 p).length + 1) else i1 (n0 + q) k := by
        intro q k hk hq
        rw [q5 _ k hk, hi2, if_neg (by omega)]
        by_cases w : q = p ∧ k = 2
        · rw [if_pos w, if_pos ⟨by rw [w.1], w.2⟩]
        · rw [if_neg w, if_neg (fun z => w ⟨by omega, z.2⟩)]
      rcases hsn q y hy with ⟨hq, hy2⟩ | ⟨hq, hy2⟩
      · obtain ⟨b0, b1, b2, b3, b4, b5⟩ := hnode q y hy2
        have hne2 : n0 + q ≠ n := by omega
        refine ⟨?_, ?_, ?_, ?_, ?_, ?_⟩
        · rw [hi3 q 0 (by decide) (by omega), if_neg (by omega), hi1 _ hne2]; exact b0
        · rw [hi3 q 1 (by decide) (by omega), if_neg (by omega), hi1 _ hne2]; exact b1
        · rw [hi3 q 2 (by decide) (by omega), oldK q hq]
          by_cases w : q = p
          · subst w
            rw [if_pos ⟨rfl, rfl⟩, if_pos rfl, List.length_append]; rfl
          · rw [if_neg (fun z => w z.1), if_neg w, hi1 _ hne2]; exact b2
        · rw [oldS q hq]
          by_cases w : isAnc (fbL L) d q = true
          · obtain ⟨e, he, heq⟩ := isAnc_iff.mp w
            have h7 := q7 e he
            have h7 : i3 (n0 + (fbL L).2.2.2 e) 3 = i2 (n0 + (fbL L).2.2.2 e) 3 + 1 := h7
            rw [heq] at h7
            rw [if_pos w, h7, hi2, if_neg (by omega), if_neg (by omega), hi1 _ hne2, b3]
            exact nI_1 _
          · rw [if_neg w, q6 _ (fun e he z => w (isAnc_iff.mpr ⟨e, he, by omega⟩)), hi2, if_neg (by omega), if_neg (by omega), hi1 _ hne2]
            exact b3
        · rw [oldK q hq]
          have b4' : Kid r1 (r1 (n0 + q) 4) (((fbL L).2.1 q).map (fun k => n0 + k)) := by
            rw [hr1 _ hne2]
            exact b4.same6 (fun b hb => by
              obtain ⟨k, hk, rfl⟩ := List.mem_map.mp hb
              have := hF.2.2.1 q k hk
              rw [hr1 _ (by omega)])
          rcases q3 with ⟨hnone, w⟩ | ⟨z, hz, w⟩
          · rw [w]
            by_cases hqp : q = p
            · subst hqp
              have hk0 : (fbL L).2.1 q = [] := by
                rw [hP5] at hnone
                rcases List.eq_nil_or_concat ((fbL L).2.1 q) with u | ⟨K, e, u⟩
                · exact u
                · rw [List.concat_eq_append] at u
                  rw [u, List.getLast?_append] at hnone; cases hnone
              rw [if_pos rfl, hk0, ups_k (by decide), ups_s]
              refine ⟨by rw [hn], ?_⟩
              show ups (ups r1 (n0 + q) 4 (some n)) (n0 + q) 5 (some n) (n0 + L.length) 6 = none
              rw [← hn, ups_a (by omega), ups_a (by omega)]
              exact hr1n 6
            · rw [if_neg hqp, ups_a (by omega), ups_a (by omega)]
              exact b4'.same6 (fun b hb => by rw [ups_k (by decide), ups_k (by decide)])
          · obtain ⟨K, e, hK, he⟩ := hlk z hz
            have he3 := hF.2.2.1 p e (by rw [hK]; exact List.mem_append_right _ List.mem_cons_self)
            rw [w, ups_k (by decide), ups_k (by decide)]
            by_cases hqp : q = p
            · subst hqp
              rw [if_pos rfl]
              rw [hK] at b4'
              rw [hK, List.map_append, List.map_append, List.map_singleton, List.map_singleton]
              rw [List.map_append, List.map_singleton] at b4'
              refine b4'.snoc (fun b hb => ?_) ?_ ?_
              · obtain ⟨k, hk, rfl⟩ := List.mem_map.mp hb
                have h5 := hF.2.2.2.2.1 q
                rw [hK] at h5
                have := (List.pairwise_append.mp h5).2.2 k hk e List.mem_cons_self
                rw [ups_k (by decide), ups_a (by omega)]
              · rw [ups_k (by decide), ← he, ups_s, hn]
              · rw [ups_k (by decide), ups_a (by omega), ← hn]
                exact hr1n 6
            · rw [if_neg hqp]
              refine b4'.same6 (fun b hb => ?_)
              obtain ⟨k, hk, rfl⟩ := List.mem_map.mp hb
              have hke : k ≠ e := fun u => hqp (hF.2.2.2.1 q p k hk (by rw [hK, u]; exact List.mem_append_right _ List.mem_cons_self))
              rw [ups_k (by decide), ups_a (by omega)]
        · rw [oldK q hq]
          by_cases hqp : q = p
          · subst hqp
            rw [if_pos rfl, List.getLast?_append]
            rcases q3 with ⟨-, w⟩ | ⟨z, -, w⟩
            · rw [w, ups_s, hn]; rfl
            · rw [w, ups_s, hn]; rfl
          · rw [if_neg hqp]
            rcases q3 with ⟨-, w⟩ | ⟨z, hz, w⟩
            · rw [w, ups_a (by omega), ups_a (by omega), hr1 _ hne2]; exact b5
            · rw [w, ups_a (by omega), ups_k (by decide), hr1 _ hne2]; exact b5
      · subst hq; subst hy2
        have hanc : ∀ e, e < d → n0 + (fbL L).2.2.2 e ≠ n := fun e he => by have := hF.1 e (by omega); omega
        refine ⟨?_, ?_, ?_, ?_, ?_, ?_⟩
        · rw [hi3 _ 0 (by decide) (Nat.le_refl _), if_neg (by omega), ← hn, hi1n]; exact hx48
        · rw [hi3 _ 1 (by decide) (Nat.le_refl _), if_neg (by omega), ← hn, hi1n]; rfl
        · rw [hi3 _ 2 (by decide) (Nat.le_refl _), if_neg (by omega), ← hn, hi1n, newK]; rfl
        · rw [← hn, q6 n (fun e he => hanc e he), hi2, if_neg (by omega), if_neg (by omega), hi1n, newS]; rfl
        · rw [newK]
          show _ = none
          rw [← hn]
          rcases q3 with ⟨-, w⟩ | ⟨z, -, w⟩
          · rw [w, ups_a (by omega), ups_a (by omega)]; exact hr1n 4
          · rw [w, ups_k (by decide), ups_k (by decide)]; exact hr1n 4
        · rw [newK]
          show _ = none
          rw [← hn]
          rcases q3 with ⟨-, w⟩ | ⟨z, -, w⟩
          · rw [w, ups_a (by omega), ups_a (by omega)]; exact hr1n 5
          · rw [w, ups_a (by omega), ups_k (by decide)]; exact hr1n 5
end READ2
