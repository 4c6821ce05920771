/-! the operations keep the invariant -/
theorem sumQ_up (E : EE) (Q : Nat → List Nat) {h : Nat} (hh : h < 6) (q : List Nat) : sumQ E (up1 Q h q) 6 + ((Q h).map E.2.2.1).sum = sumQ E Q 6 + (q.map E.2.2.1).sum := by
  rw [sumQ_s6, sumQ_s6]
  unfold s6 up1
  rcases (show h = 0 ∨ h = 1 ∨ h = 2 ∨ h = 3 ∨ h = 4 ∨ h = 5 by omega) with e | e | e | e | e | e <;> subst e <;> simp <;> omega
theorem sumM_ins (E : EE) (x : Mg) (ms : List Mg) : sumM E (ins x ms) = sz E x.2 + sumM E ms := by
  have h : sumM E (ms.take (insPos (lA ms) (x.1 4) ms.length) ++ ms.drop (insPos (lA ms) (x.1 4) ms.length)) = sumM E ms := by rw [List.take_append_drop]
  unfold ins
  unfold sumM at h ⊢
  rw [List.map_append, List.sum_append] at h
  rw [List.map_append, List.sum_append, List.map_cons, List.sum_cons]
  omega
theorem cnt_ins (p : Mg → Bool) (x : Mg) (ms : List Mg) : (ins x ms).countP p = ms.countP p + if p x = true then 1 else 0 := by
  rw [(ins_perm x ms).countP_eq, List.countP_cons]
/-- one more message, of the right make -/
theorem Inv.post {E : EE} {Gd : Nat → Prop} {T B : Nat} {b b' : Nat → Nat} {m m' : MS} {y : Mg} (hI : Inv E Gd T B b m) (h0 : m'.1 0 = m.1 0 ∧ m'.1 1 = m.1 1 ∧ m'.1 2 = m.1 2) (hw : m'.2.1 = m.2.1) (hq : ∀ h, h < 6 → ∀ e ∈ m'.2.2.2.1 h, Gd e) (hms : m'.2.2.2.2 = ins y m.2.2.2.2) (hy : MgOk Gd y) (hya : ∃ a, B < a ∧ a ≤ T + 9 ∧ y.1 4 = nI a) (hall : sumQ E m'.2.2.2.1 6 + sz E y.2 ≤ sumQ E m.2.2.2.1 6) (hag : ∀ h, h < 6 → m.2.2.2.2.countP (agOf h) + (if agOf h y = true then 1 else 0) + n01 (m'.2.2.1 h 5) ≤ n01 (m'.2.2.1 h 4)) (hhm : ∀ h, h < 6 → b' h ≤ B ∧ ∀ d, d ≤ 9 → m.2.2.2.2.countP (hmOf h (b' h + d)) + (if hmOf h (b' h + d) y = true then 1 else 0) ≤ 9 - d) : Inv E Gd T B b' m' := by
  obtain ⟨⟨z0, z1, z2, z3, z4, z5⟩, i2, i3, i4, i5, i6, i7, i8⟩ := hI
  refine ⟨⟨by rw [h0.1]; exact z0, z1, by rw [h0.2.1]; exact z2, by rw [h0.2.1]; exact z3, by rw [h0.2.2]; exact z4, by rw [h0.2.2]; exact z5⟩, by rw [hw]; exact i2, hq, ?_, ?_, fun h hh => ?_, fun h hh => ⟨(hhm h hh).1, fun d hd => ?_⟩, ?_⟩
  · intro x hx
    rw [hms] at hx
    rcases List.mem_cons.mp ((ins_perm y m.2.2.2.2).mem_iff.mp hx) with e | e
    · rw [e]; exact ⟨hy, hya⟩
    · exact i4 x e
  · unfold mAll at i5 ⊢
    rw [hms, sumM_ins]
    omega
  · rw [hms, cnt_ins]; exact hag h hh
  · rw [hms, cnt_ins]; exact (hhm h hh).2 d hd
  · rw [hms]; exact ins_srt i8
theorem Inv.at {E : EE} {Gd : Nat → Prop} {T B : Nat} {b : Nat → Nat} {m : MS} (hI : Inv E Gd T B b m) {f t : Nat} (hf : f < 7) (ht : t < 7) (hB : B ≤ T) : ∃ a, B < a ∧ a ≤ T + 9 ∧ m.1 0 + m.2.1 (f * 7 + t) = nI a := by
  obtain ⟨w, w1, w2, w3⟩ := hI.2.1 (f * 7 + t) (by omega)
  exact ⟨T + w, by omega, by omega, by rw [hI.1.1, w3, nI_add]⟩
theorem Inv.sendF {E : EE} {Gd : Nat → Prop} {T B : Nat} {b : Nat → Nat} {m : MS} (hI : Inv E Gd T B b m) (hE : EOk E Gd) (hB : B ≤ T) {h : Nat} (hh : h < 6) : Inv E Gd T B b (mSendF E h m) := by
  cases hq : m.2.2.2.1 h with
  | nil =>
    have e : mSendF E h m = m := by unfold mSendF; rw [hq]
    rw [e]; exact hI
  | cons a q =>
    have e : mSendF E h m = mPost (sQ (sH (sH m h 1 (m.2.2.1 h 1 - m.2.2.1 h 1 / 2)) h 7 (m.2.2.1 h 7 + 1)) h q) 0 h (E.1 a) (m.2.2.1 h 1 / 2) (some a) := by unfold mSendF; rw [hq]
    rw [e]
    have ha : Gd a := hI.2.2.1 h hh a (by rw [hq]; exact List.mem_cons_self)
    have hEa := (hE a ha).1
    have hat := hI.at (f := h) (t := E.1 a) (by omega) (by omega) hB
    have hf : ∀ k, k ≠ 1 → k ≠ 7 → k ≠ 3 → ∀ g, (mPost (sQ (sH (sH m h 1 (m.2.2.1 h 1 - m.2.2.1 h 1 / 2)) h 7 (m.2.2.1 h 7 + 1)) h q) 0 h (E.1 a) (m.2.2.1 h 1 / 2) (some a)).2.2.1 g k = m.2.2.1 g k := fun k k1 k7 k3 g => by
      show ups (ups (ups m.2.2.1 h 1 _) h 7 _) h 3 _ g k = _
      rw [ups_k k3, ups_k k7, ups_k k1]
    refine Inv.post (y := (mg 0 (nI h) (nI (E.1 a)) (m.2.2.1 h 1 / 2) (m.1 0 + m.2.1 (h * 7 + E.1 a)), some a)) hI ⟨rfl, rfl, rfl⟩ rfl (fun g hg c hc => ?_) rfl ⟨h, E.1 a, by omega, by omega, rfl, rfl, Or.inl ⟨rfl, hEa, a, rfl, ha⟩⟩ hat ?_ (fun g hg => ?_) (fun g hg => ⟨(hI.2.2.2.2.2.2.1 g hg).1, fun d hd => ?_⟩)
    · have hc : c ∈ up1 m.2.2.2.1 h q g := hc
      by_cases eg : g = h
      · rw [eg, up1_s] at hc
        exact hI.2.2.1 h hh c (by rw [hq]; exact List.mem_cons_of_mem _ hc)
      · rw [up1_n eg] at hc
        exact hI.2.2.1 g hg c hc
    · show sumQ E (up1 m.2.2.2.1 h q) 6 + E.2.2.1 a ≤ _
      have := sumQ_up E m.2.2.2.1 hh q
      rw [hq, List.map_cons, List.sum_cons] at this
      omega
    · rw [hf 5 (by decide) (by decide) (by decide), hf 4 (by decide) (by decide) (by decide)]
      have en : agOf g (mg 0 (nI h) (nI (E.1 a)) (m.2.2.1 h 1 / 2) (m.1 0 + m.2.1 (h * 7 + E.1 a)), some a) = false := decide_eq_false (fun c => by
        rcases c with c | c
        · exact absurd c.1 (show ¬ (0 : Int32) = 1 by decide)
        · exact absurd c.1 (show ¬ (0 : Int32) = 2 by decide))
      rw [en]
      exact hI.2.2.2.2.2.1 g hg
    · have en : hmOf g (b g + d) (mg 0 (nI h) (nI (E.1 a)) (m.2.2.1 h 1 / 2) (m.1 0 + m.2.1 (h * 7 + E.1 a)), some a) = false := decide_eq_false (fun c => absurd c.1 (show ¬ (0 : Int32) = 3 by decide))
      rw [en]
      exact (hI.2.2.2.2.2.2.1 g hg).2 d hd
theorem Inv.sendL {E : EE} {Gd : Nat → Prop} {T B : Nat} {b : Nat → Nat} (hE : EOk E Gd) (hB : B ≤ T) {h : Nat} (hh : h < 6) (c : Nat) : ∀ (m : MS), Inv E Gd T B b m → Inv E Gd T B b (mSendL E h c m) := by
  induction c with
  | zero => intro m hI; exact hI
  | succ c ih =>
    intro m hI
    show Inv E Gd T B b (if 2 * m.1 2 ≤ m.2.2.1 h 1 then mSendL E h c (mSendF E h m) else m)
    split
    · exact ih _ (hI.sendF hE hB hh)
    · exact hI
theorem Inv.ask {E : EE} {Gd : Nat → Prop} {T B : Nat} {b : Nat → Nat} {m : MS} (hI : Inv E Gd T B b m) (hB : B ≤ T) {h : Nat} (hh : h < 6) : Inv E Gd T B b (mAsk h m) := by
  unfold mAsk
  split
  · rename_i hc
    have hat := hI.at (f := h) (t := 6) (by omega) (by omega) hB
    have h4 : m.2.2.1 h 4 = 0 := hc.2
    refine Inv.post (y := (mg 1 (nI h) (nI 6) 0 (m.1 0 + m.2.1 (h * 7 + 6)), none)) hI ⟨rfl, rfl, rfl⟩ rfl hI.2.2.1 rfl ⟨h, 6, by omega, by omega, rfl, rfl, Or.inr (Or.inl ⟨rfl, hh, rfl⟩)⟩ hat (Nat.le_refl _) (fun g hg => ?_) (fun g hg => ⟨(hI.2.2.2.2.2.2.1 g hg).1, fun d hd => ?_⟩)
    · have hgi := hI.2.2.2.2.2.1 g hg
      show m.2.2.2.2.countP (agOf g) + (if agOf g (mg 1 (nI h) (nI 6) 0 (m.1 0 + m.2.1 (h * 7 + 6)), none) = true then 1 else 0) + n01 (ups (ups m.2.2.1 h 4 1) h 8 (m.2.2.1 h 8 + 1) g 5) ≤ n01 (ups (ups m.2.2.1 h 4 1) h 8 (m.2.2.1 h 8 + 1) g 4)
      rw [ups_k (show (5 : Nat) ≠ 8 by decide), ups_k (show (5 : Nat) ≠ 4 by decide), ups_k (show (4 : Nat) ≠ 8 by decide)]
      by_cases eg : g = h
      · subst eg
        rw [ups_s]
        rw [h4] at hgi
        have e0 : n01 0 = 0 := rfl
        have e1 : n01 1 = 1 := rfl
        rw [e0] at hgi
        rw [e1]
        split <;> omega
      · rw [ups_a eg]
        have en : agOf g (mg 1 (nI h) (nI 6) 0 (m.1 0 + m.2.1 (h * 7 + 6)), none) = false := decide_eq_false (fun c => by
          rcases c with c | c
          · exact eg ((nI_eq (a := h) (b := g) (by omega) (by omega)).mp c.2).symm
          · exact absurd c.1 (show ¬ (1 : Int32) = 2 by decide))
        rw [en]
        exact hgi
    · have en : hmOf g (b g + d) (mg 1 (nI h) (nI 6) 0 (m.1 0 + m.2.1 (h * 7 + 6)), none) = false := decide_eq_false (fun c => absurd c.1 (show ¬ (1 : Int32) = 3 by decide))
      rw [en]
      exact (hI.2.2.2.2.2.2.1 g hg).2 d hd
  · exact hI
theorem Inv.send {E : EE} {Gd : Nat → Prop} {T B : Nat} {b : Nat → Nat} {m : MS} (hI : Inv E Gd T B b m) (hE : EOk E Gd) (hB : B ≤ T) {h : Nat} (hh : h < 6) : Inv E Gd T B b (mSend E h m) := (Inv.sendL hE hB hh _ m hI).ask hB hh
