/-! P25: a house sends what it can; an arrival -/
section CI2
variable {E : EE} {Gd : Nat → Prop} {m m' : MS} {d1 d2 d3 z : Int32} {B t : Nat} {e : Nat → Nat} {W u : Nat → Prop}
theorem CI.sendL {h : Nat} (hh : h < 6) (hW : ¬ W h) (c : Nat) : ∀ (m : MS), CI d1 d2 d3 z B t e W u m → 1 ≤ m.1 2 → m.1 2 ≤ 99 → m.2.2.1 h 0 = 1 → CI d1 d2 d3 z B t e W u (mSendL E h c m) ∧ (mSendL E h c m).2.2.1 h 0 = 1 ∧ ((mSendL E h c m).2.2.2.1 h).length ≤ (m.2.2.2.1 h).length := by
  induction c with
  | zero => intro m hI _ _ hb; exact ⟨hI, hb, Nat.le_refl _⟩
  | succ c ih =>
    intro m hI p1 p2 hb
    have e0 : mSendL E h (c + 1) m = if 2 * m.1 2 ≤ m.2.2.1 h 1 then mSendL E h c (mSendF E h m) else m := rfl
    rw [e0]
    by_cases hc : 2 * m.1 2 ≤ m.2.2.1 h 1
    · rw [if_pos hc]
      cases hQ : m.2.2.2.1 h with
      | nil =>
        have e1 : mSendF E h m = m := by unfold mSendF; rw [hQ]
        rw [e1]
        have k := ih m hI p1 p2 hb
        rw [hQ] at k
        exact k
      | cons a q =>
        obtain ⟨j1, j2⟩ := hI.sendF (E := E) hh hQ (two_of p1 p2 hc) hb hW
        have ez := (sendF_zw E h m).1
        obtain ⟨k1, k2, k3⟩ := ih (mSendF E h m) j1 (by rw [ez]; exact p1) (by rw [ez]; exact p2) j2
        refine ⟨k1, k2, ?_⟩
        rw [mSendF_q hQ] at k3
        rw [List.length_cons]
        omega
    · rw [if_neg hc]
      exact ⟨hI, hb, Nat.le_refl _⟩
theorem gN_z : gN 0 = 0 := by decide
theorem CI.ask {h : Nat} {W' : Nat → Prop} (hI : CI d1 d2 d3 z B t e W u m) (hh : h < 6) (hb : m.2.2.1 h 0 = 1) (hl : (m.2.2.2.1 h).length < 2 ^ 31) (hW' : ∀ v, v ≠ h → W' v → W v) : CI d1 d2 d3 z B t e W' u (mAsk h m) := by
  have hi := hI.2.2.1 h hh
  obtain ⟨a1, a2, a3, a4, a5, a6, a7, a8, a9⟩ := hi
  by_cases hc : 0 < m.2.2.1 h 3 ∧ m.2.2.1 h 4 = 0
  · obtain ⟨m2, hm⟩ : ∃ m2, m2 = mAsk h m := ⟨_, rfl⟩
    have he : m2 = mPost (sH (sH m h 4 1) h 8 (m.2.2.1 h 8 + 1)) 1 h 6 0 none := by rw [hm]; unfold mAsk; exact if_pos hc
    rw [← hm]
    have f0 : ∀ k, k ≠ 4 → k ≠ 8 → m2.2.2.1 h k = m.2.2.1 h k := fun k k4 k8 => by
      rw [he]
      show ups (ups m.2.2.1 h 4 1) h 8 _ h k = _
      rw [ups_k k8, ups_k k4]
    have f4 : m2.2.2.1 h 4 = 1 := by
      rw [he]
      show ups (ups m.2.2.1 h 4 1) h 8 _ h 4 = _
      rw [ups_k (by decide), ups_s]
    have f8 : m2.2.2.1 h 8 = m.2.2.1 h 8 + 1 := by
      rw [he]
      exact ups_s
    have fQ : m2.2.2.2.1 = m.2.2.2.1 := by rw [he]; rfl
    have fz : m2.1 = m.1 := by rw [he]; rfl
    obtain ⟨y, hy⟩ : ∃ y : Mg, y = (mg 1 (nI h) (nI 6) 0 (m.1 0 + m.2.1 (h * 7 + 6)), none) := ⟨_, rfl⟩
    have ya : ∀ v, v < 6 → agN v y = if v = h then 1 else 0 := fun v hv => by rw [hy]; exact ag_ask rfl rfl hv (by omega)
    have y0 : kC 0 y = 0 := by rw [hy]; rfl
    have y1 : kC 1 y = 1 := by rw [hy]; rfl
    have y3 : g3 y = 0 := by rw [hy]; rfl
    have y4 : gN3 y = 0 := by rw [hy]; exact gN_z
    refine CI.upd (h := h) (yo := some y) hI hh (fun v hv hn => ?_) (fun v hv hn => by rw [fQ]) ?_ ?_ ?_ ?_ (by rw [fz]; exact hI.1.2.2.2) ?_ ?_ (fun v hv hn => ⟨?_, hW' v hn, fun k => k⟩) (fun y' hy' => ?_)
    · rw [he]
      show ups (ups m.2.2.1 h 4 1) h 8 _ v = _
      rw [ups_row hn, ups_row hn]
    · rw [he, hy]; rfl
    · rw [f0 1 (by decide) (by decide), fz]
      show _ + g3 y = _
      rw [y3]
      grind
    · rw [f0 7 (by decide) (by decide), f0 6 (by decide) (by decide), fz]
      show _ - kC 0 y = _
      rw [y0]
      grind
    · rw [f8, fz]
      show _ - kC 1 y - _ = _
      rw [y1]
      grind
    · rw [f0 1 (by decide) (by decide), fz]
      show _ + gN3 y + t + B ≤ _
      rw [y4]
      omega
    · rw [fQ]
      refine ⟨?_, Or.inr f4, ?_, fun _ => ?_, fun k => ?_, ?_, fun _ _ => f4, fun k => ?_, ?_⟩
      · rw [f0 0 (by decide) (by decide)]; exact a1
      · rw [f0 5 (by decide) (by decide)]; exact a3
      · rw [f0 1 (by decide) (by decide)]; exact a4 hb
      · rw [f0 0 (by decide) (by decide), hb] at k
        exact absurd k (by decide)
      · rw [f4, f0 5 (by decide) (by decide)]
        show m.2.2.2.2.countP (agOf h) + agN h y + e h + n01 (m.2.2.1 h 5) = 1
        rw [ya h hh, if_pos rfl]
        rw [hc.2] at a6
        have e0 : n01 0 = 0 := rfl
        omega
      · rw [f0 5 (by decide) (by decide)]; exact a8 k
      · rw [f0 3 (by decide) (by decide)]; exact a9
    · show agN v y + e v = e v
      rw [ya v hv, if_neg hn]
      exact Nat.zero_add _
    · cases hy'
      rw [hy]
      exact Or.inr (Or.inl ⟨rfl, rfl, rfl⟩)
  · have e1 : mAsk h m = m := by unfold mAsk; exact if_neg hc
    rw [e1]
    refine hI.reW (fun v hv k => ?_) (fun _ _ k => Or.inl k)
    by_cases c : v = h
    · subst c
      refine Or.inr (fun hne => ?_)
      rcases a2 with q | q
      · refine absurd ⟨?_, q⟩ hc
        rw [a9]
        exact nI_lt (a := 0) (List.length_pos_iff.mpr hne) hl
      · exact q
    · exact Or.inl (hW' v c k)
theorem CI.send {h : Nat} {W' : Nat → Prop} (hI : CI d1 d2 d3 z B t e W u m) (hh : h < 6) (hW : ¬ W h) (hW' : ∀ v, v ≠ h → W' v → W v) (p1 : 1 ≤ m.1 2) (p2 : m.1 2 ≤ 99) (hb : m.2.2.1 h 0 = 1) (hl : (m.2.2.2.1 h).length < 2 ^ 31) : CI d1 d2 d3 z B t e W' u (mSend E h m) := by
  obtain ⟨j1, j2, j3⟩ := CI.sendL (E := E) hh hW (m.2.2.2.1 h).length m hI p1 p2 hb
  exact j1.ask hh j2 (by omega) hW'
theorem CI.hd {x : Mg} (hI : CI d1 d2 d3 z B 0 (fun _ => 0) W u (hdM x m)) : CI (d1 - g3 x) (d2 + kC 0 x) (d3 + kC 1 x) z B (gN3 x) (fun h => agN h x) W u m ∧ MV x := by
  obtain ⟨⟨i1, i2, i3, i4⟩, iB, ih, iM⟩ := hI
  have i1 : m.1 8 + m.1 9 - m.1 7 + sumH m.2.2.1 1 6 + (g3 x + sumF g3 m.2.2.2.2) = d1 := i1
  have i2 : sumH m.2.2.1 7 6 + m.1 10 - sumH m.2.2.1 6 6 - (kC 0 x + sumF (kC 0) m.2.2.2.2) = d2 := i2
  have i3 : m.1 10 + sumH m.2.2.1 8 6 - (kC 1 x + sumF (kC 1) m.2.2.2.2) - m.1 11 = d3 := i3
  refine ⟨⟨⟨?_, ?_, ?_, i4⟩, ?_, fun h hh => ?_, fun y hy => iM y (List.mem_cons_of_mem _ hy)⟩, iM x List.mem_cons_self⟩
  · unfold L1
    grind
  · unfold L2
    grind
  · unfold L3
    grind
  · have iB : gN (m.1 8) + gN (m.1 9) + s6 (fun h => gN (m.2.2.1 h 1)) + sumN gN3 (x :: m.2.2.2.2) + 0 ≤ B := iB
    rw [sumN_cons] at iB
    unfold tN
    omega
  · have q : HR ((x :: m.2.2.2.2).countP (agOf h) + 0) (m.2.2.1 h) (m.2.2.2.1 h) (W h) (u h) := ih h hh
    rw [List.countP_cons] at q
    exact q
theorem Inv.qlen {T b0 : Nat} {b : Nat → Nat} (hV : Inv E Gd T b0 b m) (hE : EOk E Gd) {h : Nat} (hh : h < 6) : (m.2.2.2.1 h).length ≤ 80 := by
  have h2 := hV.2.2.2.2.1
  have h3 : (m.2.2.2.1 h).length ≤ sumQ E m.2.2.2.1 6 := by
    rw [sumQ_s6]
    exact Nat.le_trans (hE.line (hV.2.2.1 h hh)) (s6_one (f := fun h => ((m.2.2.2.1 h).map E.2.2.1).sum) hh)
  unfold mAll at h2
  omega
theorem CI.arr {T b0 B' : Nat} {b : Nat → Nat} {x : Mg} (hI0 : CI d1 d2 d3 z B 0 (fun _ => 0) (fun _ => True) u (hdM x m)) (hV : Inv E Gd T b0 b (hdM x m)) (hE : EOk E Gd) (hB : B + 65536 < 2 ^ 31) (hB' : B + (if x.1 0 = 1 then 65536 else 0) ≤ B') : CI d1 d2 d3 z B' 0 (fun _ => 0) (fun _ => True) u (mArr E x m) := by
  obtain ⟨hI, hV1⟩ := hI0.hd
  have hql : ∀ h, h < 6 → (m.2.2.2.1 h).length ≤ 80 := fun h hh => hV.qlen hE hh
  obtain ⟨⟨z0, zT, p1, p2, p3, p4⟩, -, vq, vm, vall, -⟩ := hV
  have p1 : 2 ≤ m.1 1 := p1
  have p2 : m.1 1 ≤ 16 := p2
  have p3 : 1 ≤ m.1 2 := p3
  have p4 : m.1 2 ≤ 99 := p4
  have hx := (vm x List.mem_cons_self).1
  have hBB : B ≤ B' := Nat.le_trans (Nat.le_add_right _ _) hB'
  have hg3 : gN3 x = gN (x.1 3) := rfl
  obtain ⟨f, tt, hf, ht7, e1, e2, hk⟩ := hx
  have c1 : (x.1 1).toNatClampNeg = f := by rw [e1]; exact nI_clamp (by omega)
  have c2 : (x.1 2).toNatClampNeg = tt := by rw [e2]; exact nI_clamp (by omega)
  unfold mArr
  rw [c1, c2]
  rcases hk with ⟨k0, ht6, a, ha, hg⟩ | ⟨k1, hf6, hn⟩ | ⟨k2, ht6, hn⟩ | ⟨k3, hf6, hn⟩
  · rw [k0, if_neg (by decide), if_neg (by decide), if_neg (by decide), ha]
    have hx3 : 1 ≤ x.1 3 := by
      rcases hV1 with q | q | q | q
      · exact q.2
      · rw [k0] at q; exact absurd q.1 (by decide)
      · rw [k0] at q; exact absurd q.1 (by decide)
      · rw [k0] at q; exact absurd q.1 (by decide)
    obtain ⟨b1, b2⟩ := hI.gh ht6
    have hs : gN (m.2.2.1 tt 1) + gN (x.1 3) < 2 ^ 31 := by omega
    have s0 := add_nI b2 (Int32.le_trans (by decide) hx3) hs
    have s1 := one_add b2 hx3 hs
    have kc0 : kC 0 x = 1 := if_pos k0
    have kc1 : kC 1 x = 0 := if_neg (by rw [k0]; decide)
    have agx : ∀ v, agN v x = 0 := fun v => ag_0 (by rw [k0]; decide) (by rw [k0]; decide)
    have hka := (hE a hg).2.2.1
    obtain ⟨a1, a2, a3, a4, a5, a6, a7, a8, a9⟩ := hI.2.2.1 tt ht6
    obtain ⟨m1, hm⟩ : ∃ m1, m1 = mTake E tt a (sH m tt 1 (m.2.2.1 tt 1 + x.1 3)) := ⟨_, rfl⟩
    show CI d1 d2 d3 z B' 0 (fun _ => 0) (fun _ => True) u (mSend E tt (mTake E tt a (sH m tt 1 (m.2.2.1 tt 1 + x.1 3))))
    rw [← hm]
    have f0 : ∀ k, k ≠ 0 → k ≠ 1 → k ≠ 2 → k ≠ 3 → k ≠ 6 → m1.2.2.1 tt k = m.2.2.1 tt k := fun k k0 k1 k2 k3 k6 => by
      rw [hm]
      show ups (ups (ups (ups (ups m.2.2.1 tt 1 _) tt 0 _) tt 6 _) tt 2 _) tt 3 _ tt k = _
      rw [ups_k k3, ups_k k2, ups_k k6, ups_k k0, ups_k k1]
    have fb : m1.2.2.1 tt 0 = 1 := by
      rw [hm]
      show ups (ups (ups (ups (ups m.2.2.1 tt 1 _) tt 0 1) tt 6 _) tt 2 _) tt 3 _ tt 0 = _
      rw [ups_k (by decide), ups_k (by decide), ups_k (by decide), ups_s]
    have f1 : m1.2.2.1 tt 1 = m.2.2.1 tt 1 + x.1 3 := by
      rw [hm]
      show ups (ups (ups (ups (ups m.2.2.1 tt 1 (m.2.2.1 tt 1 + x.1 3)) tt 0 1) tt 6 _) tt 2 _) tt 3 _ tt 1 = _
      rw [ups_k (by decide), ups_k (by decide), ups_k (by decide), ups_k (by decide), ups_s]
    have f6 : m1.2.2.1 tt 6 = m.2.2.1 tt 6 + 1 := by
      rw [hm]
      show ups (ups (ups (ups (ups m.2.2.1 tt 1 (m.2.2.1 tt 1 + x.1 3)) tt 0 1) tt 6 (ups m.2.2.1 tt 1 (m.2.2.1 tt 1 + x.1 3) tt 6 + 1)) tt 2 _) tt 3 _ tt 6 = _
      rw [ups_k (show (6 : Nat) ≠ 3 by decide), ups_k (show (6 : Nat) ≠ 2 by decide), ups_s, ups_k (show (6 : Nat) ≠ 1 by decide)]
    have fQ : m1.2.2.2.1 tt = m.2.2.2.1 tt ++ E.2.2.2 a := by
      rw [hm]
      exact up1_s
    have f3 : m1.2.2.1 tt 3 = nI (m1.2.2.2.1 tt).length := by
      rw [fQ, hm]
      exact ups_s
    have fz : m1.1 = m.1 := by rw [hm]; rfl
    have hC : CI d1 d2 d3 z B 0 (fun _ => 0) (fun v => v ≠ tt) u m1 := by
      refine CI.upd (h := tt) (yo := none) hI ht6 (fun v hv hn => ?_) (fun v hv hn => ?_) ?_ ?_ ?_ ?_ (by rw [fz]; exact hI.1.2.2.2) ?_ ?_ (fun v hv hn => ⟨?_, fun _ => trivial, fun k => k⟩) (fun y hy => by cases hy)
      · rw [hm]
        show ups (ups (ups (ups (ups m.2.2.1 tt 1 _) tt 0 _) tt 6 _) tt 2 _) tt 3 _ v = _
        rw [ups_row hn, ups_row hn, ups_row hn, ups_row hn, ups_row hn]
      · rw [hm]
        exact up1_n hn
      · rw [hm]; rfl
      · rw [f1, fz]
        show _ + (0 : Int32) = d1 - (d1 - x.1 3) + _
        grind
      · rw [f0 7 (by decide) (by decide) (by decide) (by decide) (by decide), f6, fz, kc0]
        show _ - (0 : Int32) = _
        grind
      · rw [f0 8 (by decide) (by decide) (by decide) (by decide) (by decide), fz, kc1]
        show _ - (0 : Int32) - _ = _
        grind
      · rw [f1, fz, s0.2, show oN gN3 none = 0 from rfl]
        omega
      · refine ⟨Or.inr fb, ?_, ?_, fun _ => ?_, fun k => ?_, ?_, fun k => absurd rfl k, fun k => ?_, f3⟩
        · rw [f0 4 (by decide) (by decide) (by decide) (by decide) (by decide)]; exact a2
        · rw [f0 5 (by decide) (by decide) (by decide) (by decide) (by decide)]; exact a3
        · rw [f1]; exact s1
        · rw [fb] at k
          exact absurd k (by decide)
        · rw [f0 4 (by decide) (by decide) (by decide) (by decide) (by decide), f0 5 (by decide) (by decide) (by decide) (by decide) (by decide)]
          have a6 : m.2.2.2.2.countP (agOf tt) + agN tt x + n01 (m.2.2.1 tt 5) = n01 (m.2.2.1 tt 4) := a6
          rw [agx] at a6
          exact a6
        · rw [f0 5 (by decide) (by decide) (by decide) (by decide) (by decide)]; exact a8 k
      · rw [agx v]
        rfl
    exact (hC.send ht6 (fun q => q rfl) (fun v hv _ => hv) (by rw [fz]; exact p3) (by rw [fz]; exact p4) fb (by rw [fQ, List.length_append]; have := hql tt ht6; omega)).more hBB
  · rw [k1, if_pos rfl] at hB'
    rw [k1, if_neg (by decide), if_pos rfl]
    have hx3 : x.1 3 = 0 := by
      rcases hV1 with q | q | q | q
      · rw [k1] at q; exact absurd q.1 (by decide)
      · exact q.2.2
      · rw [k1] at q; exact absurd q.1 (by decide)
      · rw [k1] at q; exact absurd q.1 (by decide)
    have kc0 : kC 0 x = 0 := if_neg (by rw [k1]; decide)
    have kc1 : kC 1 x = 1 := if_pos k1
    have gx : g3 x = 0 := hx3
    obtain ⟨c3, c4⟩ := coin_of p1 p2
    have c5 : gN (coin m) ≤ 65536 := gN_le (k := 65536) c3 c4 (by omega)
    have c6 : 4 ≤ coin m := coin_4 p1 p2
    obtain ⟨y, hy⟩ : ∃ y : Mg, y = (mg 2 (nI 6) (nI f) (coin m) (m.1 0 + m.2.1 (6 * 7 + f)), none) := ⟨_, rfl⟩
    have ya : ∀ v, v < 6 → agN v y = agN v x := fun v hv => by rw [ag_ask k1 e1 hv hf, hy]; exact ag_grant rfl rfl hv hf
    have y0 : kC 0 y = 0 := by rw [hy]; rfl
    have y1 : kC 1 y = 0 := by rw [hy]; rfl
    have y3 : g3 y = coin m := by rw [hy]; rfl
    have y4 : gN3 y = gN (coin m) := by rw [hy]; rfl
    obtain ⟨m1, hm⟩ : ∃ m1, m1 = mPost (mMint m) 2 6 f (coin m) none := ⟨_, rfl⟩
    rw [← hm]
    have fH : m1.2.2.1 = m.2.2.1 := by rw [hm]; rfl
    have fQ : m1.2.2.2.1 = m.2.2.2.1 := by rw [hm]; rfl
    have fz : ∀ k, k ≠ 7 → k ≠ 11 → m1.1 k = m.1 k := fun k k7 k11 => by
      rw [hm]
      show up1 (up1 m.1 7 _) 11 _ k = _
      rw [up1_n k11, up1_n k7]
    have f7 : m1.1 7 = m.1 7 + coin m := by
      rw [hm]
      show up1 (up1 m.1 7 (m.1 7 + coin m)) 11 (m.1 11 + 1) 7 = _
      rw [up1_n (by decide), up1_s]
    have f11 : m1.1 11 = m.1 11 + 1 := by
      rw [hm]
      show up1 (up1 m.1 7 (m.1 7 + coin m)) 11 (m.1 11 + 1) 11 = _
      exact up1_s
    refine CI.upd (h := f) (yo := some y) hI hf6 (fun v hv hn => by rw [fH]) (fun v hv hn => by rw [fQ]) ?_ ?_ ?_ ?_ ?_ ?_ ?_ (fun v hv hn => ⟨?_, fun _ => trivial, fun k => k⟩) (fun y' hy' => ?_)
    · rw [hm, hy]; rfl
    · rw [fH, f7, fz 8 (by decide) (by decide), fz 9 (by decide) (by decide), gx]
      show _ + g3 y = _
      rw [y3]
      grind
    · rw [fH, fz 10 (by decide) (by decide), kc0]
      show _ - kC 0 y = _
      rw [y0]
      grind
    · rw [fH, fz 10 (by decide) (by decide), f11, kc1]
      show _ - kC 1 y - _ = _
      rw [y1]
      grind
    · rw [fz 13 (by decide) (by decide), fz 8 (by decide) (by decide), fz 9 (by decide) (by decide)]
      exact hI.1.2.2.2
    · rw [fH, fz 8 (by decide) (by decide), fz 9 (by decide) (by decide)]
      show _ + gN3 y + 0 + B ≤ _
      rw [y4]
      omega
    · rw [fH, fQ]
      show HR (m.2.2.2.2.countP (agOf f) + agN f y) _ _ _ _
      rw [ya f hf6]
      exact hI.2.2.1 f hf6
    · exact ya v hv
    · cases hy'
      rw [hy]
      exact Or.inr (Or.inr (Or.inl ⟨rfl, rfl, c6⟩))
  · rw [k2, if_neg (by decide), if_neg (by decide), if_pos rfl]
    have hx3 : 1 ≤ x.1 3 := by
      rcases hV1 with q | q | q | q
      · rw [k2] at q; exact absurd q.1 (by decide)
      · rw [k2] at q; exact absurd q.1 (by decide)
      · exact Int32.le_trans (by decide) q.2.2
      · rw [k2] at q; exact absurd q.1 (by decide)
    obtain ⟨b1, b2⟩ := hI.gh ht6
    have hs : gN (m.2.2.1 tt 1) + gN (x.1 3) < 2 ^ 31 := by omega
    have s0 := add_nI b2 (Int32.le_trans (by decide) hx3) hs
    have s1 := one_add b2 hx3 hs
    have kc0 : kC 0 x = 0 := if_neg (by rw [k2]; decide)
    have kc1 : kC 1 x = 0 := if_neg (by rw [k2]; decide)
    have agx : ∀ v, v < 6 → agN v x = if v = tt then 1 else 0 := fun v hv => ag_grant k2 e2 hv ht7
    obtain ⟨a1, a2, a3, a4, a5, a6, a7, a8, a9⟩ := hI.2.2.1 tt ht6
    have a6 : m.2.2.2.2.countP (agOf tt) + agN tt x + n01 (m.2.2.1 tt 5) = n01 (m.2.2.1 tt 4) := a6
    rw [agx tt ht6, if_pos rfl] at a6
    have n4 := n01_le (m.2.2.1 tt 4)
    have hb : m.2.2.1 tt 0 = 1 := by
      rcases a1 with q | q
      · have q4 := (a5 q).2.2.2
        rw [q4] at a6
        have e0 : n01 0 = 0 := rfl
        omega
      · exact q
    obtain ⟨m1, hm⟩ : ∃ m1, m1 = sH (sH m tt 1 (m.2.2.1 tt 1 + x.1 3)) tt 4 0 := ⟨_, rfl⟩
    rw [← hm]
    have f0 : ∀ k, k ≠ 1 → k ≠ 4 → m1.2.2.1 tt k = m.2.2.1 tt k := fun k k1 k4 => by
      rw [hm]
      show ups (ups m.2.2.1 tt 1 _) tt 4 0 tt k = _
      rw [ups_k k4, ups_k k1]
    have f1 : m1.2.2.1 tt 1 = m.2.2.1 tt 1 + x.1 3 := by
      rw [hm]
      show ups (ups m.2.2.1 tt 1 _) tt 4 0 tt 1 = _
      rw [ups_k (by decide), ups_s]
    have f4 : m1.2.2.1 tt 4 = 0 := by
      rw [hm]
      exact ups_s
    have fQ : m1.2.2.2.1 = m.2.2.2.1 := by rw [hm]; rfl
    have fz : m1.1 = m.1 := by rw [hm]; rfl
    have hC : CI d1 d2 d3 z B 0 (fun _ => 0) (fun v => v ≠ tt) u m1 := by
      refine CI.upd (h := tt) (yo := none) hI ht6 (fun v hv hn => ?_) (fun v hv hn => by rw [fQ]) ?_ ?_ ?_ ?_ (by rw [fz]; exact hI.1.2.2.2) ?_ ?_ (fun v hv hn => ⟨?_, fun _ => trivial, fun k => k⟩) (fun y hy => by cases hy)
      · rw [hm]
        show ups (ups m.2.2.1 tt 1 _) tt 4 0 v = _
        rw [ups_row hn, ups_row hn]
      · rw [hm]; rfl
      · rw [f1, fz]
        show _ + (0 : Int32) = d1 - (d1 - x.1 3) + _
        grind
      · rw [f0 7 (by decide) (by decide), f0 6 (by decide) (by decide), fz, kc0]
        show _ - (0 : Int32) = _
        grind
      · rw [f0 8 (by decide) (by decide), fz, kc1]
        show _ - (0 : Int32) - _ = _
        grind
      · rw [f1, fz, s0.2, show oN gN3 none = 0 from rfl]
        omega
      · rw [fQ]
        refine ⟨?_, Or.inl f4, ?_, fun _ => ?_, fun k => ?_, ?_, fun k => absurd rfl k, fun k => ?_, ?_⟩
        · rw [f0 0 (by decide) (by decide)]; exact a1
        · rw [f0 5 (by decide) (by decide)]; exact a3
        · rw [f1]; exact s1
        · rw [f0 0 (by decide) (by decide), hb] at k
          exact absurd k (by decide)
        · rw [f4, f0 5 (by decide) (by decide)]
          show m.2.2.2.2.countP (agOf tt) + 0 + 0 + n01 (m.2.2.1 tt 5) = 0
          omega
        · rw [f0 5 (by decide) (by decide)]; exact a8 k
        · rw [f0 3 (by decide) (by decide)]; exact a9
      · show 0 + 0 = agN v x
        rw [agx v hv, if_neg hn]
    exact (hC.send ht6 (fun q => q rfl) (fun v hv _ => hv) (by rw [fz]; exact p3) (by rw [fz]; exact p4) (by rw [f0 0 (by decide) (by decide)]; exact hb) (by rw [fQ]; have := hql tt ht6; omega)).more hBB
  · rw [k3, if_pos rfl]
    have hx3 : 1 ≤ x.1 3 := by
      rcases hV1 with q | q | q | q
      · rw [k3] at q; exact absurd q.1 (by decide)
      · rw [k3] at q; exact absurd q.1 (by decide)
      · rw [k3] at q; exact absurd q.1 (by decide)
      · exact q.2.2
    have kc0 : kC 0 x = 0 := if_neg (by rw [k3]; decide)
    have kc1 : kC 1 x = 0 := if_neg (by rw [k3]; decide)
    have agx : ∀ v, agN v x = 0 := fun v => ag_0 (by rw [k3]; decide) (by rw [k3]; decide)
    obtain ⟨b1, b2⟩ := hI.gh (show 0 < 6 by omega)
    obtain ⟨g1, g2⟩ := add_nI (x := m.1 8) (y := x.1 3) hI.1.2.2.2.2.1 (Int32.le_trans (by decide) hx3) (by omega)
    refine CI.more ?_ hBB
    refine CI.upd (h := 0) (yo := none) hI (by omega) (fun v hv hn => rfl) (fun v hv hn => rfl) rfl ?_ ?_ ?_ ⟨hI.1.2.2.2.1, g1, hI.1.2.2.2.2.2⟩ ?_ ?_ (fun v hv hn => ⟨?_, fun _ => trivial, fun k => k⟩) (fun y hy => by cases hy)
    · show m.1 8 + x.1 3 + m.1 9 - m.1 7 + m.2.2.1 0 1 + (0 : Int32) = d1 - (d1 - x.1 3) + _
      grind
    · rw [kc0]
      show m.2.2.1 0 7 + m.1 10 - m.2.2.1 0 6 - (0 : Int32) = _
      grind
    · rw [kc1]
      show m.1 10 + m.2.2.1 0 8 - (0 : Int32) - m.1 11 = _
      grind
    · show gN (m.1 8 + x.1 3) + gN (m.1 9) + gN (m.2.2.1 0 1) + 0 + 0 + B ≤ _
      omega
    · have q := hI.2.2.1 0 (by omega)
      have q : HR (m.2.2.2.2.countP (agOf 0) + agN 0 x) (m.2.2.1 0) (m.2.2.2.1 0) True (u 0) := q
      rw [agx] at q
      exact q
    · show 0 + 0 = agN v x
      rw [agx v]
end CI2
