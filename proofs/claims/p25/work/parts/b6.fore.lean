/-! P25: forecasts -/
section PFORE
variable {l : Launch} {G : GG} {n : Nat} {i i1 : IP} {r r1 : RP} {C K : Nat} {E : EE} {Gd : Nat → Prop} {A A1 : AP}
theorem c_forecasts {T B : Nat} {c0 c1 c3 : Int32} (h : DS G n C E Gd K A i r) (hT : A.1.1 0 = nI T) (hT2 : T ≤ 900000) (hK : K ≤ 2 ^ 30) (hI : CI 0 c0 c1 c3 B 0 (fun _ => 0) (fun _ => True) (fun _ => c3 = 0) A.1) (hB : ∀ t, t ≤ 500 → B + tB * t + 65536 < 2 ^ 31) (hCc : OkA G n (C + 1105) 7 4) (hc0 : i (C + 1105) 0 = c0) (hc1 : i (C + 1105) 1 = c1) (hc3 : i (C + 1105) 3 = c3) : Go l G mL_forecasts 8 0 0 0 (lentry [.ref C, .ref (C + 1105)] 6) [] n i r (AQ 1 G n C E Gd K A i r) := by
  have okC := h.1.1
  have hL := h.1
  have hC := h.2.1
  have hV := h.inv hT (by omega)
  have hE := h.2.2.1.ok
  have hB0 : B < 2 ^ 31 := Nat.lt_of_le_of_lt (Nat.le_trans (Nat.le_add_right B (tB * 0)) (Nat.le_add_right _ 65536)) (hB 0 (Nat.zero_le _))
  refine go_aload_n (z := 1) dL_forecasts_0 rfl rfl ?_
  refine go_iconst (z := 2) (v := 0) dL_forecasts_1 rfl (by decide) ?_
  refine go_callV (z := 5) (t := 5) [.int 0] dL_forecasts_2 rfl mlX5_total vL_30 ⟨by decide, rfl⟩ okC rfl rfl (by decide) (cat_i cat_nil) (by simp) (by decide) (by first | decide | omega) (by first | decide | omega) (c_ceTot hL hC) ?_
  refine ret_elim ?_
  rw [tot_v.1, hT]
  refine go_istore_n (z := 6) dL_forecasts_5 rfl (by decide) ?_
  refine go_aload_n (z := 7) dL_forecasts_6 rfl rfl ?_
  refine go_callV (z := 10) (t := 5) [] dL_forecasts_7 rfl mlX5_quietIn vL_65 ⟨by decide, rfl⟩ okC rfl rfl (by decide) cat_nil (by simp) (by decide) (by first | decide | omega) (by first | decide | omega) (c_dsQuiet h) ?_
  rintro v n1 i1 r1 ⟨p1, p2, ho1, h1⟩
  rw [p1, p2]
  refine go_istore_n (z := 11) dL_forecasts_10 rfl (by decide) ?_
  refine go_aload_n (z := 12) dL_forecasts_11 rfl rfl ?_
  refine go_callV (z := 15) (t := 5) [] dL_forecasts_12 rfl mlX5_idleIn vL_68 ⟨by decide, rfl⟩ okC rfl rfl (by decide) cat_nil (by simp) (by decide) (by first | decide | omega) (by first | decide | omega) (c_dsIdle h1) ?_
  rintro v n2 i2 r2 ⟨p1, p2, ho2, h2⟩
  rw [p1, p2]
  refine go_istore (z := 17) dL_forecasts_15 rfl (by decide) ?_
  have c39 : Go l G mL_forecasts 8 0 0 39 [some (.ref C), some (.ref (C + 1105)), some (.int (nI T)), some (.int (uRun E true 501 0 A.1)), some (.int (uRun E false 501 0 A.1)), none] [] n i2 r2 (AQ 1 G n C E Gd K A i r) := by
    refine go_aload_n (z := 40) dL_forecasts_39 rfl rfl ?_
    refine go_bipush (z := 42) (v := 11) dL_forecasts_40 rfl (by decide) ?_
    refine go_iload_n (z := 43) dL_forecasts_42 rfl rfl ?_
    refine go_callS (z := 46) [.ref C, .int (wB true), .int (uRun E true 501 0 A.1)] dL_forecasts_43 rfl mlL_isAhead sL_71 rfl rfl (by decide) (cat_r (cat_i (cat_i cat_nil))) (by simp) (by decide) (by first | decide | omega) (by first | decide | omega) (c_isAhead true h2 hT hT2 hK) ?_
    rintro v n3 i3 r3 ⟨p1, p2, ho3, A3, e1, e2, h3⟩
    rw [p1, p2]
    refine go_if_eq (z := 64) (z2 := 49) dL_forecasts_46 rfl (by decide) (fun q => absurd q (by decide)) (fun _ => ?_)
    have ha := c_isAhead (l := l) false h3 (show A3.1.1 0 = nI T by rw [e1]; exact hT) hT2 hK
    rw [e1] at ha
    refine go_aload_n (z := 50) dL_forecasts_49 rfl rfl ?_
    refine go_bipush (z := 52) (v := 12) dL_forecasts_50 rfl (by decide) ?_
    refine go_iload (z := 54) dL_forecasts_52 rfl rfl ?_
    refine go_callS (z := 57) [.ref C, .int (wB false), .int (uRun E false 501 0 A.1)] dL_forecasts_54 rfl mlL_isAhead sL_71 rfl rfl (by decide) (cat_r (cat_i (cat_i cat_nil))) (by simp) (by decide) (by first | decide | omega) (by first | decide | omega) (ha) ?_
    rintro v n4 i4 r4 ⟨p1, p2, ho4, A4, e3, e4, h4⟩
    rw [p1, p2]
    have e5 := e3.trans e1
    have hL := h4.1
    have hC := h4.2.1
    have hT4 : A4.1.1 0 = nI T := by rw [e5]; exact hT
    refine go_if_eq (z := 64) (z2 := 60) dL_forecasts_57 rfl (by decide) (fun q => absurd q (by decide)) (fun _ => ?_)
    refine go_iconst (z := 61) (v := 1) dL_forecasts_60 rfl (by decide) ?_
    refine go_goto (z := 65) dL_forecasts_61 (by decide) ?_
    refine go_istore (z := 67) dL_forecasts_65 rfl (by decide) ?_
    refine go_iload (z := 69) dL_forecasts_67 rfl rfl ?_
    refine go_if_eq (z := 93) (z2 := 72) dL_forecasts_69 rfl (by decide) (fun q => absurd q (by decide)) (fun _ => ?_)
    refine go_aload_n (z := 73) dL_forecasts_72 rfl rfl ?_
    refine go_iconst (z := 74) (v := 0) dL_forecasts_73 rfl (by decide) ?_
    refine go_callV (z := 77) (t := 5) [.int 0] dL_forecasts_74 rfl mlX5_total vL_30 ⟨by decide, rfl⟩ okC rfl rfl (by decide) (cat_i cat_nil) (by simp) (by decide) (by first | decide | omega) (by first | decide | omega) (c_ceTot hL hC) ?_
    refine ret_elim ?_
    rw [tot_v.1, hT4]
    refine go_iload_n (z := 78) dL_forecasts_77 rfl rfl ?_
    refine go_icmp_ne (z := 93) (z2 := 81) dL_forecasts_78 rfl (by decide) (fun q => absurd rfl q) (fun _ => ?_)
    have hoT := ((ho1.tr ho2).tr ho3).tr ho4
    have hcc := (hoT (C + 1105) (by omega)).1
    have hI4 : CI 0 c0 c1 c3 B 0 (fun _ => 0) (fun _ => True) (fun _ => c3 = 0) A4.1 := by rw [e5]; exact hI
    refine go_aload_n (z := 82) dL_forecasts_81 rfl rfl ?_
    refine go_aload_n (z := 83) dL_forecasts_82 rfl rfl ?_
    refine go_callS (z := 86) [.ref C, .ref (C + 1105)] dL_forecasts_83 rfl mlL_holds sL_75 rfl rfl (by decide) (cat_r (cat_r cat_nil)) (by simp) (by decide) (by first | decide | omega) (by first | decide | omega) (c_holds h4.vw (h4.inv hT4 (by omega)) hI4 hB0 hCc (by rw [hcc]; exact hc0) (by rw [hcc]; exact hc1) (by rw [hcc]; exact hc3) h4.2.2.1.ok h4.2.2.2.2.2.2) ?_
    refine ret_elim ?_
    refine go_if_eq (z := 93) (z2 := 89) dL_forecasts_86 rfl (by decide) (fun q => absurd q (by decide)) (fun _ => ?_)
    refine go_iconst (z := 90) (v := 1) dL_forecasts_89 rfl (by decide) ?_
    refine go_goto (z := 94) dL_forecasts_90 (by decide) ?_
    exact go_zret dL_forecasts_94 rfl (congrArg Value.int (by decide)) ⟨rfl, rfl, hoT, A4, e5, e4.trans e2, h4⟩
  refine go_iload_n (z := 18) dL_forecasts_17 rfl rfl ?_
  refine go_if_lt (z := 39) (z2 := 21) dL_forecasts_18 rfl (by decide) (fun _ => go_lo rfl c39) (fun q => ?_)
  refine go_aload_n (z := 22) dL_forecasts_21 rfl rfl ?_
  refine go_iconst (z := 23) (v := 2) dL_forecasts_22 rfl (by decide) ?_
  refine go_iald (z := 24) 2 hCc (by decide) rfl (by omega) dL_forecasts_23 rfl ?_
  refine go_iconst (z := 25) (v := 1) dL_forecasts_24 rfl (by decide) ?_
  refine go_icmp_eq (z := 39) (z2 := 28) dL_forecasts_25 rfl (by decide) (fun _ => go_lo rfl c39) (fun _ => ?_)
  rcases uRun_spec E true A.1 with ⟨t, t1, t2, t3, t4⟩ | ⟨t1, t2⟩
  · have hVt := (hV.ticks hE t (by omega)).2
    have hBt := hB t (by omega)
    have hIt := hI.ticks hE h.2.2.2.2.2.2 hK t hV (by omega) h.2.2.2.2.2.1.1 hBt
    have hid : uDone false (mTicks E t A.1) = true := hIt.quiet (fun x hx => (hVt.2.2.2.1 x hx).1) (Nat.lt_of_le_of_lt (Nat.le_add_right _ 65536) hBt) t3
    have hle : ∃ s, s ≤ t ∧ uRun E false 501 0 A.1 = nI s := by
      rcases uRun_spec E false A.1 with ⟨s, s1, s2, s3, s4⟩ | ⟨s1, s2⟩
      · rcases Nat.lt_or_ge t s with w | w
        · exact absurd hid (s4 t w)
        · exact ⟨s, w, s2⟩
      · exact absurd hid (s2 t t1)
    obtain ⟨s, s1, s2⟩ := hle
    rw [t2, s2] at c39 ⊢
    refine go_iload (z := 30) dL_forecasts_28 rfl rfl ?_
    refine go_if_lt (z := 64) (z2 := 33) dL_forecasts_30 rfl (by decide) (fun q => absurd q (nI_pos (by omega))) (fun _ => ?_)
    refine go_iload (z := 35) dL_forecasts_33 rfl rfl ?_
    refine go_iload_n (z := 36) dL_forecasts_35 rfl rfl ?_
    refine go_icmp_gt (z := 64) (z2 := 39) dL_forecasts_36 rfl (by decide) (fun q => absurd q (nI_nlt s1 (by omega))) (fun _ => go_lo rfl c39)
  · rw [t1] at q
    exact absurd (by decide) q
end PFORE
