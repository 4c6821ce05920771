section LEAF
variable {l : Launch} {G : GG} {n : Nat} {i : IP} {r : RP}
theorem c_isHouse (x : Int32) : Go l G mX5_isHouse 0 0 0 0 (lentry [.int x] 1) [] n i r (RetI (b2i (decide (0 ≤ x) && decide (x < 6))) n i r) := by
  refine go_iload_n (z := 1) dX5_isHouse_0 rfl rfl ?_
  refine go_if_lt (z := 14) (z2 := 4) dX5_isHouse_1 rfl (by decide) (fun h1 => ?_) (fun h1 => ?_)
  · refine go_iconst (z := 15) (v := 0) dX5_isHouse_14 rfl (by decide) ?_
    refine go_zret dX5_isHouse_15 rfl (congrArg Value.int (by decide)) ?_
    first | (simp_all [RetI, Ret, b2i]; done) | (simp_all [RetI, Ret, b2i]; intro q; exact absurd q (Int32.not_le.mpr (by assumption)))
  · refine go_iload_n (z := 5) dX5_isHouse_4 rfl rfl ?_
    refine go_bipush (z := 7) (v := 6) dX5_isHouse_5 rfl (by decide) ?_
    refine go_icmp_ge (z := 14) (z2 := 10) dX5_isHouse_7 rfl (by decide) (fun h7 => ?_) (fun h7 => ?_)
    · refine go_iconst (z := 15) (v := 0) dX5_isHouse_14 rfl (by decide) ?_
      refine go_zret dX5_isHouse_15 rfl (congrArg Value.int (by decide)) ?_
      first | (simp_all [RetI, Ret, b2i]; done) | (simp_all [RetI, Ret, b2i]; intro q; exact absurd q (Int32.not_le.mpr (by assumption)))
    · refine go_iconst (z := 11) (v := 1) dX5_isHouse_10 rfl (by decide) ?_
      refine go_goto (z := 15) dX5_isHouse_11 (by decide) ?_
      refine go_zret dX5_isHouse_15 rfl (congrArg Value.int (by decide)) ?_
      first | (simp_all [RetI, Ret, b2i]; done) | (simp_all [RetI, Ret, b2i]; intro q; exact absurd q (Int32.not_le.mpr (by assumption)))
theorem c_isWay (x : Int32) : Go l G mX5_isWay 0 0 0 0 (lentry [.int x] 1) [] n i r (RetI (b2i (decide (1 ≤ x) && decide (x ≤ 9))) n i r) := by
  refine go_iload_n (z := 1) dX5_isWay_0 rfl rfl ?_
  refine go_iconst (z := 2) (v := 1) dX5_isWay_1 rfl (by decide) ?_
  refine go_icmp_lt (z := 15) (z2 := 5) dX5_isWay_2 rfl (by decide) (fun h2 => ?_) (fun h2 => ?_)
  · refine go_iconst (z := 16) (v := 0) dX5_isWay_15 rfl (by decide) ?_
    refine go_zret dX5_isWay_16 rfl (congrArg Value.int (by decide)) ?_
    first | (simp_all [RetI, Ret, b2i]; done) | (simp_all [RetI, Ret, b2i]; intro q; exact absurd q (Int32.not_le.mpr (by assumption)))
  · refine go_iload_n (z := 6) dX5_isWay_5 rfl rfl ?_
    refine go_bipush (z := 8) (v := 9) dX5_isWay_6 rfl (by decide) ?_
    refine go_icmp_gt (z := 15) (z2 := 11) dX5_isWay_8 rfl (by decide) (fun h8 => ?_) (fun h8 => ?_)
    · refine go_iconst (z := 16) (v := 0) dX5_isWay_15 rfl (by decide) ?_
      refine go_zret dX5_isWay_16 rfl (congrArg Value.int (by decide)) ?_
      first | (simp_all [RetI, Ret, b2i]; done) | (simp_all [RetI, Ret, b2i]; intro q; exact absurd q (Int32.not_le.mpr (by assumption)))
    · refine go_iconst (z := 12) (v := 1) dX5_isWay_11 rfl (by decide) ?_
      refine go_goto (z := 16) dX5_isWay_12 (by decide) ?_
      refine go_zret dX5_isWay_16 rfl (congrArg Value.int (by decide)) ?_
      first | (simp_all [RetI, Ret, b2i]; done) | (simp_all [RetI, Ret, b2i]; intro q; exact absurd q (Int32.not_le.mpr (by assumption)))
theorem c_way {S : Nat} {m : MS} (hL : StL G n S) (hR : Rep S m i r) {a b : Nat} (ha : a < 7) (hb : b < 7) : Go l G mX4_way 0 0 0 0 (lentry [.ref S, .int (nI a), .int (nI b)] 3) [] n i r (RetI (m.2.1 (a * 7 + b)) n i r) := by
  refine go_aload_n (z := 1) dX4_way_0 rfl rfl ?_
  refine go_getR (z := 4) dX4_way_1 rfl fX4_18 hL.s rfl hR.1.1 ?_
  refine go_iload_n (z := 5) dX4_way_4 rfl rfl ?_
  refine go_bipush (z := 7) (v := 7) dX4_way_5 rfl (by decide) ?_
  refine go_imul (z := 8) dX4_way_7 rfl ?_
  refine go_iload_n (z := 9) dX4_way_8 rfl rfl ?_
  refine go_iadd (z := 10) dX4_way_9 rfl ?_
  refine go_iald (z := 11) (a * 7 + b) hL.w (by decide) (by rw [← nI_add, ← pk_mul]; rfl) (by omega) dX4_way_10 rfl ?_
  refine go_iret dX4_way_11 rfl ?_
  exact ⟨by rw [hR.2.2.1 _ (by omega)], rfl, rfl, rfl⟩
theorem c_putWay {S : Nat} {m : MS} (hL : StL G n S) (hR : Rep S m i r) {a b : Nat} {x : Int32} (ha : a < 7) (hb : b < 7) : Go l G mX4_putWay 0 0 0 0 (lentry [.ref S, .int (nI a), .int (nI b), .int x] 4) [] n i r (Chg n S i r (sW (sW m (a * 7 + b) x) (b * 7 + a) x)) := by
  refine go_aload_n (z := 1) dX4_putWay_0 rfl rfl ?_
  refine go_getR (z := 4) dX4_putWay_1 rfl fX4_18 hL.s rfl hR.1.1 ?_
  refine go_iload_n (z := 5) dX4_putWay_4 rfl rfl ?_
  refine go_bipush (z := 7) (v := 7) dX4_putWay_5 rfl (by decide) ?_
  refine go_imul (z := 8) dX4_putWay_7 rfl ?_
  refine go_iload_n (z := 9) dX4_putWay_8 rfl rfl ?_
  refine go_iadd (z := 10) dX4_putWay_9 rfl ?_
  refine go_iload_n (z := 11) dX4_putWay_10 rfl rfl ?_
  refine go_iast (z := 12) (a * 7 + b) hL.w (by decide) (by rw [← nI_add, ← pk_mul]; rfl) (by omega) dX4_putWay_11 rfl ?_
  refine go_aload_n (z := 13) dX4_putWay_12 rfl rfl ?_
  refine go_getR (z := 16) dX4_putWay_13 rfl fX4_18 hL.s rfl hR.1.1 ?_
  refine go_iload_n (z := 17) dX4_putWay_16 rfl rfl ?_
  refine go_bipush (z := 19) (v := 7) dX4_putWay_17 rfl (by decide) ?_
  refine go_imul (z := 20) dX4_putWay_19 rfl ?_
  refine go_iload_n (z := 21) dX4_putWay_20 rfl rfl ?_
  refine go_iadd (z := 22) dX4_putWay_21 rfl ?_
  refine go_iload_n (z := 23) dX4_putWay_22 rfl rfl ?_
  refine go_iast (z := 24) (b * 7 + a) hL.w (by decide) (by rw [← nI_add, ← pk_mul]; rfl) (by omega) dX4_putWay_23 rfl ?_
  exact go_vret dX4_putWay_24 rfl ⟨rfl, rfl, (hR.putW _).putW _, (Out.pi (by omega) (by omega)).tr (Out.pi (by omega) (by omega))⟩
end LEAF
