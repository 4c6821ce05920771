/-! an errand arrives -/
section MARR
variable {E : EE} {Gd : Nat → Prop} {β : Nat → Nat} {qs ps : Nat → List Nat} {ml : RM} {bs : List Nat} {e0 o : Nat} {m : MS} {s : Nat → Int32}
theorem Str.perm {bs' : List Nat} (h : Str s o qs ps bs) (hp : List.Perm bs bs') : Str s o qs ps bs' := by
  obtain ⟨a, b, c, d, e, f, g⟩ := h
  exact ⟨a, b, c, d, e, hp.nodup_iff.mp f, fun x => by rw [← g x]; exact hp.mem_iff.symm⟩
/-- a part comes to wait in a house -/
theorem Str.part (hS : Str s o qs ps bs) {h e p : Nat} {L : List Nat} (hh : h < 6) (he : e < 80) (hps : ps e = p :: L) (ho : o + 1 < 2 ^ 31) : p < 80 ∧ Str (uE (uE (uE (up1 s 10 (nI (o + 1))) p 3 (nI (o + 1))) p 2 0) p 4 (nI (h + 1))) (o + 1) (up1 qs h (qs h ++ [p])) (up1 ps e L) bs := by
  have hSS := hS
  obtain ⟨a, b, c, d, k, f, g⟩ := hS
  have hk := k e he
  rw [hps] at hk
  obtain ⟨p1, p2, p3⟩ := (hk.1 p).mp List.mem_cons_self
  have hpL : p ∉ L := fun q => absurd ((List.pairwise_cons.mp hk.2).1 p q) Int32.lt_irrefl
  have hep : e < p := hSS.kid_lt he (by rw [hps]; exact List.mem_cons_self)
  generalize hs' : uE (uE (uE (up1 s 10 (nI (o + 1))) p 3 (nI (o + 1))) p 2 0) p 4 (nI (h + 1)) = s'
  have o1 : ∀ x f, x ≠ p → f < 5 → eF s' x f = eF s x f := fun x f hx hf => by
    rw [← hs', uE_o (by omega) hf (by omega), uE_o (by omega) hf (by omega), uE_o (by omega) hf (by omega)]
    exact up1_n (by omega)
  have p4' : eF s' p 4 = nI (h + 1) := by rw [← hs']; exact uE_s
  have p2' : eF s' p 2 = 0 := by rw [← hs', uE_o (by omega) (by omega) (by omega)]; exact uE_s
  have p3' : eF s' p 3 = nI (o + 1) := by rw [← hs', uE_o (by omega) (by omega) (by omega), uE_o (by omega) (by omega) (by omega)]; exact uE_s
  have h10 : s' 10 = nI (o + 1) := by rw [← hs', uE_z (by omega), uE_z (by omega), uE_z (by omega), up1_s]
  have plc : ∀ x, x < 80 → ∀ w, 1 ≤ w → w ≤ 8 → eF s x 4 = nI w → ∃ q, q ≤ o ∧ eF s x 3 = nI q := fun x hx w hw hw8 hxw => by
    obtain ⟨w', w1, w2, w3, -⟩ := c x hx
    refine w3 (fun q => ?_)
    rw [w2, q] at hxw
    have := (nI_eq (by omega) (by omega)).mp hxw
    omega
  have ola : ∀ (w y : Nat) (L' : List Nat), AtL s w y L' → p ∉ L' → (w = h + 1 → y ≠ 0) → w < 9 → y < 90 → AtL s' w y L' := by
    intro w y L' hA hp hwy hw9 hy
    have hne : ∀ x, x ∈ L' → x ≠ p := fun x hx q => hp (by rw [← q]; exact hx)
    refine ⟨fun x => ?_, hA.2.imp_of_mem (fun {u v} hu hv huv => by rw [o1 u 3 (hne u hu) (by omega), o1 v 3 (hne v hv) (by omega)]; exact huv)⟩
    by_cases hx : x = p
    · subst hx
      rw [p4', p2']
      constructor
      · exact fun q => absurd q hp
      · rintro ⟨-, q1, q2⟩
        have e1 := (nI_eq (by omega) (by omega)).mp q1
        have e2 := (nI_eq (a := 0) (by omega) (by omega)).mp q2
        exact absurd e2.symm (hwy e1.symm)
    · rw [hA.1 x, o1 x 4 hx (by omega), o1 x 2 hx (by omega)]
  refine ⟨p1, h10, fun x hx => ?_, fun x hx => ?_, fun q hq6 => ?_, fun q hq8 => ?_, f, fun x => ?_⟩
  · by_cases hxp : x = p
    · rw [hxp, p2']; exact ⟨0, Nat.zero_le _, rfl⟩
    · rw [o1 x 2 hxp (by omega)]; exact b x hx
  · by_cases hxp : x = p
    · subst hxp
      exact ⟨h + 1, by omega, p4', fun _ => ⟨o + 1, Nat.le_refl _, p3'⟩, fun _ _ => p2', fun q => by omega⟩
    · obtain ⟨w, w1, w2, w3, w4, w5⟩ := c x hx
      refine ⟨w, w1, by rw [o1 x 4 hxp (by omega)]; exact w2, fun hw => ?_, by rw [o1 x 2 hxp (by omega)]; exact w4, fun h8 => ?_⟩
      · obtain ⟨q, q1, q2⟩ := w3 hw
        exact ⟨q, by omega, by rw [o1 x 3 hxp (by omega)]; exact q2⟩
      · obtain ⟨u, u1, u2, u3⟩ := w5 h8
        refine ⟨u, u1, by rw [o1 x 2 hxp (by omega)]; exact u2, ?_⟩
        by_cases hup : u = p
        · rw [hup, p4', nI_n0 (by omega)]; omega
        · rw [o1 u 4 hup (by omega)]; exact u3
  · by_cases hqh : q = h
    · subst hqh
      rw [up1_s]
      have hd := d q hq6
      have hpq : p ∉ qs q := fun c => by
        have := ((hd.1 p).mp c).2.1
        rw [p2] at this
        have := (nI_eq (a := 8) (by omega) (by omega)).mp this
        omega
      have hne : ∀ x, x ∈ qs q → x ≠ p := fun x hx q => hpq (by rw [← q]; exact hx)
      refine ⟨fun x => ?_, ?_⟩
      · rw [List.mem_append, List.mem_singleton]
        by_cases hx : x = p
        · subst hx
          rw [p4', p2']
          exact ⟨fun _ => ⟨p1, rfl, rfl⟩, fun _ => Or.inr rfl⟩
        · rw [o1 x 4 hx (by omega), o1 x 2 hx (by omega), ← hd.1 x]
          exact ⟨fun c => c.resolve_right hx, fun c => Or.inl c⟩
      · rw [List.pairwise_append]
        refine ⟨hd.2.imp_of_mem (fun {u v} hu hv huv => by rw [o1 u 3 (hne u hu) (by omega), o1 v 3 (hne v hv) (by omega)]; exact huv), List.pairwise_singleton _ _, fun x hx y hy => ?_⟩
        rw [List.mem_singleton.mp hy, p3', o1 x 3 (hne x hx) (by omega)]
        obtain ⟨x1, x2, x3⟩ := (hd.1 x).mp hx
        obtain ⟨z, z1, z2⟩ := plc x x1 (q + 1) (by omega) (by omega) x2
        rw [z2, nI_ltI (by omega) (by omega)]
        omega
    · rw [up1_n hqh]
      refine ola (q + 1) 0 (qs q) (d q hq6) (fun c => ?_) (fun c => by omega) (by omega) (by omega)
      have := (((d q hq6).1 p).mp c).2.1
      rw [p2] at this
      have := (nI_eq (a := 8) (by omega) (by omega)).mp this
      omega
  · by_cases hqe : q = e
    · subst hqe
      rw [up1_s]
      have hne : ∀ x, x ∈ L → x ≠ p := fun x hx c => hpL (by rw [← c]; exact hx)
      refine ⟨fun x => ?_, (List.pairwise_cons.mp hk.2).2.imp_of_mem (fun {u v} hu hv huv => by rw [o1 u 3 (hne u hu) (by omega), o1 v 3 (hne v hv) (by omega)]; exact huv)⟩
      by_cases hx : x = p
      · subst hx
        rw [p4', p2']
        constructor
        · exact fun c => absurd c hpL
        · rintro ⟨-, q1, -⟩
          have := (nI_eq (b := 8) (by omega) (by omega)).mp q1
          omega
      · rw [o1 x 4 hx (by omega), o1 x 2 hx (by omega), ← show (x ∈ p :: L ↔ _) from hk.1 x, List.mem_cons]
        exact ⟨fun c => Or.inr c, fun c => c.resolve_left hx⟩
    · rw [up1_n hqe]
      refine ola 8 (q + 1) (ps q) (k q hq8) (fun c => ?_) (fun c => by omega) (by omega) (by omega)
      have := (((k q hq8).1 p).mp c).2.2
      rw [p3] at this
      have := (nI_eq (by omega) (by omega)).mp this
      omega
  · rw [g x]
    by_cases hx : x = p
    · subst hx
      rw [p4', p2]
      constructor
      · rintro ⟨-, q1⟩; exact absurd q1 (by decide)
      · rintro ⟨-, q1⟩
        have := (nI_eq (b := 7) (by omega) (by omega)).mp q1
        omega
    · rw [o1 x 4 hx (by omega)]
/-- one without parts is done -/
theorem Str.die {bs' : List Nat} (hS : Str s o qs ps bs) {e : Nat} (hps : ps e = []) (hb : List.Perm bs (e :: bs')) : e < 80 ∧ eF s e 4 = nI 7 ∧ Str (uE s e 4 0) o qs ps bs' := by
  have hS' := hS.perm hb
  obtain ⟨a, b, c, d, k, f, g⟩ := hS'
  obtain ⟨e1, e2⟩ := (g e).mp List.mem_cons_self
  obtain ⟨f1, f2⟩ := List.nodup_cons.mp f
  have o1 : ∀ x f, x ≠ e → f < 5 → eF (uE s e 4 0) x f = eF s x f := fun x f hx hf => uE_o (by omega) hf (by omega)
  have wf : ∀ x f, f < 4 → eF (uE s e 4 0) x f = eF s x f := fun x f hf => uE_o (by omega) (by omega) (by omega)
  have ee : eF (uE s e 4 0) e 4 = 0 := uE_s
  have ola : ∀ (w y : Nat) (L' : List Nat), AtL s w y L' → w ≠ 7 → w ≠ 0 → w < 9 → AtL (uE s e 4 0) w y L' := by
    intro w y L' hA h7 h0 h9
    refine ⟨fun x => ?_, hA.2.imp (fun {u v} huv => by rw [wf u 3 (by omega), wf v 3 (by omega)]; exact huv)⟩
    by_cases hx : x = e
    · subst hx
      rw [hA.1 x, ee, e2]
      constructor
      · rintro ⟨-, q, -⟩
        exact absurd ((nI_eq (by omega) (by omega)).mp q).symm h7
      · rintro ⟨-, q, -⟩
        exact absurd ((nI_eq (a := 0) (by omega) (by omega)).mp q).symm h0
    · rw [hA.1 x, o1 x 4 hx (by omega), o1 x 2 hx (by omega)]
  refine ⟨e1, e2, (uE_z (by omega)).trans a, b.congr (fun x _ => wf x 2 (by omega)), fun x hx => ?_, fun q hq => ola _ _ _ (d q hq) (by omega) (by omega) (by omega), fun q hq => ola _ _ _ (k q hq) (by omega) (by omega) (by omega), f2, fun x => ?_⟩
  · by_cases hxe : x = e
    · subst hxe
      exact ⟨0, by omega, ee, fun q => absurd rfl q, fun q => absurd q (by omega), fun q => absurd q (by omega)⟩
    · obtain ⟨w, w1, w2, w3, w4, w5⟩ := c x hx
      refine ⟨w, w1, by rw [o1 x 4 hxe (by omega)]; exact w2, by rw [wf x 3 (by omega)]; exact w3, by rw [wf x 2 (by omega)]; exact w4, fun h8 => ?_⟩
      obtain ⟨u, u1, u2, u3⟩ := w5 h8
      refine ⟨u, u1, by rw [wf x 2 (by omega)]; exact u2, ?_⟩
      rw [o1 u 4 (fun q => ?_) (by omega)]
      · exact u3
      · subst q
        have := ((k u e1).1 x).mpr ⟨hx, by rw [w2, h8], u2⟩
        rw [hps] at this
        cases this
  · by_cases hx : x = e
    · subst hx
      rw [ee]
      exact ⟨fun q => absurd q f1, fun q => absurd q.2 (by decide)⟩
    · rw [o1 x 4 hx (by omega), ← g x, List.mem_cons]
      exact ⟨fun q => Or.inr q, fun q => q.resolve_left hx⟩
theorem sQ_id {h : Nat} (h3 : m.2.2.1 h 3 = nI (m.2.2.2.1 h).length) : sQ m h (m.2.2.2.1 h) = m := by
  have e1 : ups m.2.2.1 h 3 (nI (m.2.2.2.1 h).length) = m.2.2.1 := by
    funext q k
    by_cases c : q = h ∧ k = 3
    · rw [c.1, c.2, ups_s, h3]
    · unfold ups
      rw [if_neg c]
  have e2 : up1 m.2.2.2.1 h (m.2.2.2.1 h) = m.2.2.2.1 := by
    funext q
    by_cases c : q = h
    · rw [c, up1_s]
    · rw [up1_n c]
  show (m.1, m.2.1, ups m.2.2.1 h 3 (nI (m.2.2.2.1 h).length), up1 m.2.2.2.1 h (m.2.2.2.1 h), m.2.2.2.2) = m
  rw [e1, e2]
theorem sQ_sQ {h : Nat} {a b : List Nat} : sQ (sQ m h a) h b = sQ m h b := by
  have e1 : ups (ups m.2.2.1 h 3 (nI a.length)) h 3 (nI b.length) = ups m.2.2.1 h 3 (nI b.length) := by
    funext q k
    unfold ups
    split
    · rfl
    · rfl
  have e2 : up1 (up1 m.2.2.2.1 h a) h b = up1 m.2.2.2.1 h b := by
    funext q
    unfold up1
    split
    · rfl
    · rfl
  show (m.1, m.2.1, ups (ups m.2.2.1 h 3 (nI a.length)) h 3 (nI b.length), up1 (up1 m.2.2.2.1 h a) h b, m.2.2.2.2) = _
  rw [e1, e2]
  rfl
theorem sH_comm {h a b : Nat} {x y : Int32} (hab : a ≠ b) : sH (sH m h a x) h b y = sH (sH m h b y) h a x := by
  have e1 : ups (ups m.2.2.1 h a x) h b y = ups (ups m.2.2.1 h b y) h a x := by
    funext q k
    by_cases c : q = h
    · subst c
      by_cases c1 : k = a
      · subst c1; rw [ups_s, ups_k hab, ups_s]
      · rw [ups_k c1]
        by_cases c2 : k = b
        · subst c2; rw [ups_s, ups_s]
        · rw [ups_k c2, ups_k c2, ups_k c1]
    · rw [ups_a c, ups_a c, ups_a c, ups_a c]
  show (m.1, m.2.1, ups (ups m.2.2.1 h a x) h b y, m.2.2.2) = _
  rw [e1]
  rfl
theorem Lab.weak (h : Lab s E Gd β ps 80) (e : Nat) : Lab s E Gd β ps e := fun x hx _ ha => h x hx (by omega) ha
theorem RelG.part (hR : RelG E Gd β qs ps ml bs e0 o m s) {h p : Nat} {L : List Nat} (hh : h < 6) (he : e0 < 80) (hps : ps e0 = p :: L) (ho : o + 1 < 2 ^ 31) : p < 80 ∧ RelG E Gd β (up1 qs h (qs h ++ [p])) (up1 ps e0 L) ml bs e0 (o + 1) (sQ m h (m.2.2.2.1 h ++ [β p])) (uE (uE (uE (up1 s 10 (nI (o + 1))) p 3 (nI (o + 1))) p 2 0) p 4 (nI (h + 1))) := by
  obtain ⟨r1, r2, r3, r4, r5, r6, r7, r8, r9⟩ := hR
  obtain ⟨p1, hS⟩ := r4.part hh he hps ho
  have hi : ∀ k, k < 108 → k ≠ 10 → uE (uE (uE (up1 s 10 (nI (o + 1))) p 3 (nI (o + 1))) p 2 0) p 4 (nI (h + 1)) k = s k := fun k hk h10 => by
    rw [uE_z (by omega), uE_z (by omega), uE_z (by omega), up1_n h10]
  have hj : ∀ k, 508 ≤ k → uE (uE (uE (up1 s 10 (nI (o + 1))) p 3 (nI (o + 1))) p 2 0) p 4 (nI (h + 1)) k = s k := fun k hk => by
    unfold uE
    rw [up1_n (by omega), up1_n (by omega), up1_n (by omega), up1_n (by omega)]
  have hpa : 0 < eF s p 4 := by
    have := ((r4.2.2.2.2.1 e0 he).1 p).mp (by rw [hps]; exact List.mem_cons_self)
    rw [this.2.1, nI_n0 (by omega)]
    omega
  have hx1 : ∀ x f, x ≠ p → f < 5 → eF (uE (uE (uE (up1 s 10 (nI (o + 1))) p 3 (nI (o + 1))) p 2 0) p 4 (nI (h + 1))) x f = eF s x f := fun x f hx hf => by
    rw [uE_o (by omega) hf (by omega), uE_o (by omega) hf (by omega), uE_o (by omega) hf (by omega)]
    exact up1_n (by omega)
  have hx2 : ∀ f, f < 2 → eF (uE (uE (uE (up1 s 10 (nI (o + 1))) p 3 (nI (o + 1))) p 2 0) p 4 (nI (h + 1))) p f = eF s p f := fun f hf => by
    rw [uE_o (by omega) (by omega) (by omega), uE_o (by omega) (by omega) (by omega), uE_o (by omega) (by omega) (by omega)]
    exact up1_n (by omega)
  refine ⟨p1, r1.congr (fun k a b c => hi k (by omega) c) rfl, r2.congr (fun k a b => hi k (by omega) (by omega)) rfl, fun q hq => ?_, hS, fun x hx hne ha => ?_, fun q hq => ?_, r7.congr (fun k hk => ?_), r8, r9⟩
  · obtain ⟨a, b, c, d⟩ := r3 q hq
    have h3 : ∀ k, k ≠ 3 → ups m.2.2.1 h 3 (nI (m.2.2.2.1 h ++ [β p]).length) q k = m.2.2.1 q k := fun k hk => ups_k hk
    refine ⟨fun w hw9 => ?_, ?_, ?_, ?_⟩
    · show _ = ups m.2.2.1 h 3 _ q (hP w)
      rw [h3 _ (hP_3 w hw9), ← a w hw9]
      exact hi _ (by omega) (by omega)
    · show ups m.2.2.1 h 3 _ q 3 = nI (up1 m.2.2.2.1 h (m.2.2.2.1 h ++ [β p]) q).length
      by_cases e : q = h
      · subst e; rw [ups_s, up1_s]
      · rw [ups_a e, up1_n e]; exact b
    · show ups m.2.2.1 h 3 _ q 0 = 0 ∨ ups m.2.2.1 h 3 _ q 0 = 1
      rw [h3 0 (by omega)]; exact c
    · show (ups m.2.2.1 h 3 _ q 5 = 0 ∨ ups m.2.2.1 h 3 _ q 5 = 1) ∧ (ups m.2.2.1 h 3 _ q 4 = 0 ∨ ups m.2.2.1 h 3 _ q 4 = 1)
      rw [h3 5 (by omega), h3 4 (by omega)]; exact d
  · rw [up1_n hne]
    by_cases hxp : x = p
    · subst hxp
      rw [hx2 0 (by omega), hx2 1 (by omega)]
      exact r5 x hx hne hpa
    · rw [hx1 x 4 hxp (by omega)] at ha
      rw [hx1 x 0 hxp (by omega), hx1 x 1 hxp (by omega)]
      exact r5 x hx hne ha
  · show (up1 qs h (qs h ++ [p]) q).map β = up1 m.2.2.2.1 h (m.2.2.2.1 h ++ [β p]) q
    by_cases c : q = h
    · subst c; rw [up1_s, up1_s, List.map_append, r6 q hq]; rfl
    · rw [up1_n c, up1_n c]; exact r6 q hq
  · rcases hk with hk | hk
    · exact hi k (by omega) (by omega)
    · exact hj k hk
end MARR
section MARRW
variable {l : Launch} {G : GG} {n : Nat} {i : IP} {r : RP} {M : Nat} {E : EE} {Gd : Nat → Prop} {β : Nat → Nat} {ml : RM} {bs : List Nat}
theorem c_mErrLoop {h e : Nat} {g : Int32} (hX : MoX G n M r) (hE : EOk E Gd) (hh : h < 6) (hb : List.Perm bs (e :: bsOf ml)) (he : e < 80) (L : List Nat) : ∀ (qs ps : Nat → List Nat) (o : Nat) (m : MS) (s : Nat → Int32), ps e = L → RelG E Gd β qs ps ml bs e o m s → o + L.length < 2 ^ 31 → ml.length + ((m.2.2.2.1 h).length + L.length) < 144 → Go l G mX6_errandArrives 4 0 0 44 [some (.ref M), some (.int (nI h)), some (.int g), some (.int (nI e)), some (.int (o2i (fstF s 8 (nI (e + 1)) 80)))] [] n (upr i (M + 1) s) r (SQ (RelS E Gd (o + L.length) ml (mSend E h (sQ m h (m.2.2.2.1 h ++ L.map β)))) M n i r) := by
  obtain ⟨hM, hr0, hs⟩ := id hX
  induction L with
  | nil =>
    intro qs ps o m s hps hR ho hcap
    have hf : fstF s 8 (nI (e + 1)) 80 = (ps e).head? := (hR.2.2.2.1.2.2.2.2.1 e he).first
    rw [hf, hps]
    obtain ⟨-, -, hD⟩ := hR.2.2.2.1.die hps hb
    have hA : RelA E Gd β qs ps ml o m (uE s e 4 0) := by
      obtain ⟨r1, r2, r3, r4, r5, r6, r7, r8, r9⟩ := hR
      refine ⟨r1.congr (fun k a b c => uE_z (by omega)) rfl, r2.congr (fun k a b => uE_z (by omega)) rfl, r3.congr (fun k a b => uE_z (by omega)) rfl rfl, hD, fun x hx _ ha => ?_, r6, r7.congr (fun k hk => up1_n (by omega)), r8, r9⟩
      have hxe : x ≠ e := fun c => by rw [c, show eF (uE s e 4 0) e 4 = 0 from uE_s] at ha; exact absurd ha (by decide)
      rw [uE_o (by omega) (by omega) (by omega)] at ha
      rw [uE_o (by omega) (by omega) (by omega), uE_o (by omega) (by omega) (by omega)]
      exact r5 x hx hxe ha
    have hid : sQ m h (m.2.2.2.1 h ++ ([] : List Nat).map β) = m := by
      rw [List.map_nil, List.append_nil]
      exact sQ_id (hA.2.2.1 h hh).2.1
    rw [hid]
    refine go_iload (z := 46) dX6_errandArrives_44 rfl rfl ?_
    refine go_bipush (z := 48) (v := (-5)) dX6_errandArrives_46 rfl (by decide) ?_
    refine go_icmp_eq (z := 108) (z2 := 51) dX6_errandArrives_48 rfl (by decide) (fun _ => ?_) (fun h => absurd rfl h)
    refine go_aload_n (z := 109) dX6_errandArrives_108 rfl rfl ?_
    refine go_iload_n (z := 110) dX6_errandArrives_109 rfl rfl ?_
    refine go_iconst (z := 111) (v := 4) dX6_errandArrives_110 rfl (by decide) ?_
    refine go_iconst (z := 112) (v := 0) dX6_errandArrives_111 rfl (by decide) ?_
    refine go_callV (z := 115) (t := 6) [.int (nI e), .int (nI 4), .int 0] dX6_errandArrives_112 rfl mlX6_setErrand vX6_53 ⟨by decide, rfl⟩ hM rfl rfl (by decide) (cat_i (cat_i (cat_i cat_nil))) (by simp) (by decide) (by first | decide | omega) (by first | decide | omega) (c_mSetErrand hX he (by omega)) ?_
    refine ret_elim ?_
    refine go_aload_n (z := 116) dX6_errandArrives_115 rfl rfl ?_
    refine go_iload_n (z := 117) dX6_errandArrives_116 rfl rfl ?_
    refine go_callV (z := 120) (t := 6) [.int (nI h)] dX6_errandArrives_117 rfl mlX6_sendWhatItCan vX6_80 ⟨by decide, rfl⟩ hM rfl rfl (by decide) (cat_i cat_nil) (by simp) (by decide) (by first | decide | omega) (by first | decide | omega) (c_mSendW hX hE hh (RelS.of hA (Nat.le_refl _)) (by rw [hA.len]; exact hcap)) ?_
    refine sq_elim (fun s5 hs5 => ?_)
    exact go_vret dX6_errandArrives_120 rfl ⟨rfl, rfl, rfl, s5, rfl, hs5⟩
  | cons p L ih =>
    intro qs ps o m s hps hR ho hcap
    have ho : o + (L.length + 1) < 2 ^ 31 := ho
    have hcap : ml.length + ((m.2.2.2.1 h).length + (L.length + 1)) < 144 := hcap
    have hf : fstF s 8 (nI (e + 1)) 80 = (ps e).head? := (hR.2.2.2.1.2.2.2.2.1 e he).first
    rw [hf, hps, show (p :: L).head? = some p from rfl]
    obtain ⟨p1, hP⟩ := hR.part hh he hps (by omega)
    have h10 : s 10 = nI o := hR.2.2.2.1.1
    refine go_iload (z := 46) dX6_errandArrives_44 rfl rfl ?_
    refine go_bipush (z := 48) (v := (-5)) dX6_errandArrives_46 rfl (by decide) ?_
    refine go_icmp_eq (z := 108) (z2 := 51) dX6_errandArrives_48 rfl (by decide) (fun h => absurd h (o2i_n (by omega))) (fun _ => ?_)
    refine go_aload_n (z := 52) dX6_errandArrives_51 rfl rfl ?_
    refine go_getR (z := 55) dX6_errandArrives_52 rfl fX6_7 (by assumption) rfl (by assumption) ?_
    refine go_bipush (z := 57) (v := 10) dX6_errandArrives_55 rfl (by decide) ?_
    refine go_dup2 (z := 58) dX6_errandArrives_57 rfl rfl rfl ?_
    refine go_ialdM (z := 59) 10 (by assumption) (by decide) rfl (by omega) dX6_errandArrives_58 rfl ?_
    refine go_iconst (z := 60) (v := 1) dX6_errandArrives_59 rfl (by decide) ?_
    rw [h10]
    refine go_iadd (z := 61) dX6_errandArrives_60 rfl ?_
    rw [nI_1]
    refine go_iastM (z := 62) 10 (by assumption) (by decide) rfl (by omega) dX6_errandArrives_61 rfl ?_
    refine go_aload_n (z := 63) dX6_errandArrives_62 rfl rfl ?_
    refine go_iload (z := 65) dX6_errandArrives_63 rfl rfl ?_
    refine go_iconst (z := 66) (v := 3) dX6_errandArrives_65 rfl (by decide) ?_
    refine go_aload_n (z := 67) dX6_errandArrives_66 rfl rfl ?_
    refine go_getR (z := 70) dX6_errandArrives_67 rfl fX6_7 (by assumption) rfl (by assumption) ?_
    refine go_bipush (z := 72) (v := 10) dX6_errandArrives_70 rfl (by decide) ?_
    refine go_ialdM (z := 73) 10 (by assumption) (by decide) rfl (by omega) dX6_errandArrives_72 rfl ?_
    rw [up1_s]
    refine go_callV (z := 76) (t := 6) [.int (nI p), .int (nI 3), .int (nI (o + 1))] dX6_errandArrives_73 rfl mlX6_setErrand vX6_53 ⟨by decide, rfl⟩ hM rfl rfl (by decide) (cat_i (cat_i (cat_i cat_nil))) (by simp) (by decide) (by first | decide | omega) (by first | decide | omega) (c_mSetErrand hX p1 (by omega)) ?_
    refine ret_elim ?_
    refine go_aload_n (z := 77) dX6_errandArrives_76 rfl rfl ?_
    refine go_iload (z := 79) dX6_errandArrives_77 rfl rfl ?_
    refine go_iconst (z := 80) (v := 2) dX6_errandArrives_79 rfl (by decide) ?_
    refine go_iconst (z := 81) (v := 0) dX6_errandArrives_80 rfl (by decide) ?_
    refine go_callV (z := 84) (t := 6) [.int (nI p), .int (nI 2), .int 0] dX6_errandArrives_81 rfl mlX6_setErrand vX6_53 ⟨by decide, rfl⟩ hM rfl rfl (by decide) (cat_i (cat_i (cat_i cat_nil))) (by simp) (by decide) (by first | decide | omega) (by first | decide | omega) (c_mSetErrand hX p1 (by omega)) ?_
    refine ret_elim ?_
    refine go_aload_n (z := 85) dX6_errandArrives_84 rfl rfl ?_
    refine go_iload (z := 87) dX6_errandArrives_85 rfl rfl ?_
    refine go_iconst (z := 88) (v := 4) dX6_errandArrives_87 rfl (by decide) ?_
    refine go_iload_n (z := 89) dX6_errandArrives_88 rfl rfl ?_
    refine go_iconst (z := 90) (v := 1) dX6_errandArrives_89 rfl (by decide) ?_
    refine go_iadd (z := 91) dX6_errandArrives_90 rfl ?_
    refine go_st (st' := [.int (nI (h + 1)), .int 4, .int (o2i (some p)), .ref M]) (by rw [← nI_1]; rfl) ?_
    refine go_callV (z := 94) (t := 6) [.int (nI p), .int (nI 4), .int (nI (h + 1))] dX6_errandArrives_91 rfl mlX6_setErrand vX6_53 ⟨by decide, rfl⟩ hM rfl rfl (by decide) (cat_i (cat_i (cat_i cat_nil))) (by simp) (by decide) (by first | decide | omega) (by first | decide | omega) (c_mSetErrand hX p1 (by omega)) ?_
    refine ret_elim ?_
    refine go_aload_n (z := 95) dX6_errandArrives_94 rfl rfl ?_
    refine go_bipush (z := 97) (v := 8) dX6_errandArrives_95 rfl (by decide) ?_
    refine go_iload_n (z := 98) dX6_errandArrives_97 rfl rfl ?_
    refine go_iconst (z := 99) (v := 1) dX6_errandArrives_98 rfl (by decide) ?_
    refine go_iadd (z := 100) dX6_errandArrives_99 rfl ?_
    refine go_st (st' := [.int (nI (e + 1)), .int 8, .ref M]) (by rw [← nI_1]; rfl) ?_
    refine go_callV (z := 103) (t := 6) [.int 8, .int (nI (e + 1))] dX6_errandArrives_100 rfl mlX6_first vX6_43 ⟨by decide, rfl⟩ hM rfl rfl (by decide) (cat_i (cat_i cat_nil)) (by simp) (by decide) (by first | decide | omega) (by first | decide | omega) (c_mFirst hX) ?_
    refine ret_elim ?_
    refine go_istore (z := 105) dX6_errandArrives_103 rfl (by decide) ?_
    refine go_goto (z := 44) dX6_errandArrives_105 (by decide) ?_
    have hq : (up1 m.2.2.2.1 h (m.2.2.2.1 h ++ [β p]) h).length = (m.2.2.2.1 h).length + 1 := by rw [up1_s, List.length_append]; rfl
    have key := ih _ _ (o + 1) _ _ up1_s hP (by omega) (by
      show ml.length + ((up1 m.2.2.2.1 h (m.2.2.2.1 h ++ [β p]) h).length + L.length) < 144
      omega)
    have e2 : sQ (sQ m h (m.2.2.2.1 h ++ [β p])) h ((sQ m h (m.2.2.2.1 h ++ [β p])).2.2.2.1 h ++ L.map β) = sQ m h (m.2.2.2.1 h ++ (p :: L).map β) := by
      rw [sQ_sQ, show (sQ m h (m.2.2.2.1 h ++ [β p])).2.2.2.1 h = m.2.2.2.1 h ++ [β p] from up1_s, List.append_assoc]
      rfl
    rw [e2, show o + 1 + L.length = o + (p :: L).length by rw [List.length_cons]; omega] at key
    exact key
/-- an errand that was just taken out arrives -/
theorem c_mErrArr {h e : Nat} {g : Int32} {qs ps : Nat → List Nat} {o : Nat} {m : MS} {s : Nat → Int32} (hX : MoX G n M r) (hE : EOk E Gd) (hh : h < 6) (hR : RelG E Gd β qs ps ml bs 80 o m s) (hb : List.Perm bs (e :: bsOf ml)) (ho : o + 15 < 2 ^ 31) (hcap : ml.length + ((m.2.2.2.1 h).length + (E.2.2.2 (β e)).length) < 144) : Go l G mX6_errandArrives 4 0 0 0 (lentry [.ref M, .int (nI h), .int g, .int (nI e)] 5) [] n (upr i (M + 1) s) r (SQ (RelS E Gd (o + 15) ml (mSend E h (mTake E h (β e) (sH m h 1 (m.2.2.1 h 1 + g))))) M n i r) := by
  obtain ⟨hM, hr0, hs⟩ := id hX
  obtain ⟨e1, e2⟩ := (hR.2.2.2.1.2.2.2.2.2.2 e).mp (hb.mem_iff.mpr List.mem_cons_self)
  have ea : 0 < eF s e 4 := by rw [e2]; decide
  obtain ⟨l1, l2, l3, l4⟩ := hR.2.2.2.2.1 e e1 (by omega) ea
  have hkl := (hE _ l1).2.2.1
  have hpl : (ps e).length ≤ 15 := by rw [← l4, List.length_map] at hkl; exact hkl
  have g1 : hF s h 1 = m.2.2.1 h 1 := (hR.2.2.1 h hh).1 1 (by omega)
  have g2 : hF s h 2 = m.2.2.1 h 2 := (hR.2.2.1 h hh).1 2 (by omega)
  have g4 : hF s h 4 = m.2.2.1 h 6 := (hR.2.2.1 h hh).1 4 (by omega)
  have hA := (((hR.house (h := h) (w := 0) (x := 1) hh (by omega) (fun _ => Or.inr rfl)).house (h := h) (w := 1) (x := m.2.2.1 h 1 + g) hh (by omega) (by omega)).house (h := h) (w := 2) (x := m.2.2.1 h 2 + E.2.1 (β e)) hh (by omega) (by omega)).house (h := h) (w := 4) (x := m.2.2.1 h 6 + 1) hh (by omega) (by omega)
  have hA' : RelG E Gd β qs ps ml bs e o _ _ := ⟨hA.1, hA.2.1, hA.2.2.1, hA.2.2.2.1, hA.2.2.2.2.1.weak e, hA.2.2.2.2.2⟩
  refine go_aload_n (z := 1) dX6_errandArrives_0 rfl rfl ?_
  refine go_iload_n (z := 2) dX6_errandArrives_1 rfl rfl ?_
  refine go_iconst (z := 3) (v := 0) dX6_errandArrives_2 rfl (by decide) ?_
  refine go_iconst (z := 4) (v := 1) dX6_errandArrives_3 rfl (by decide) ?_
  refine go_callV (z := 7) (t := 6) [.int (nI h), .int (nI 0), .int 1] dX6_errandArrives_4 rfl mlX6_setHouse vX6_77 ⟨by decide, rfl⟩ hM rfl rfl (by decide) (cat_i (cat_i (cat_i cat_nil))) (by simp) (by decide) (by first | decide | omega) (by first | decide | omega) (c_mSetHouse hX hh (by omega)) ?_
  refine ret_elim ?_
  refine go_aload_n (z := 8) dX6_errandArrives_7 rfl rfl ?_
  refine go_iload_n (z := 9) dX6_errandArrives_8 rfl rfl ?_
  refine go_iconst (z := 10) (v := 1) dX6_errandArrives_9 rfl (by decide) ?_
  refine go_iload_n (z := 11) dX6_errandArrives_10 rfl rfl ?_
  refine go_callV (z := 14) (t := 6) [.int (nI h), .int (nI 1), .int g] dX6_errandArrives_11 rfl mlX6_addToHouse vX6_70 ⟨by decide, rfl⟩ hM rfl rfl (by decide) (cat_i (cat_i (cat_i cat_nil))) (by simp) (by decide) (by first | decide | omega) (by first | decide | omega) (c_mAddHouse hX hh (by omega)) ?_
  refine ret_elim ?_
  refine go_aload_n (z := 15) dX6_errandArrives_14 rfl rfl ?_
  refine go_iload_n (z := 16) dX6_errandArrives_15 rfl rfl ?_
  refine go_iconst (z := 17) (v := 2) dX6_errandArrives_16 rfl (by decide) ?_
  refine go_aload_n (z := 18) dX6_errandArrives_17 rfl rfl ?_
  refine go_iload_n (z := 19) dX6_errandArrives_18 rfl rfl ?_
  refine go_iconst (z := 20) (v := 1) dX6_errandArrives_19 rfl (by decide) ?_
  refine go_callV (z := 23) (t := 6) [.int (nI e), .int (nI 1)] dX6_errandArrives_20 rfl mlX6_ofErrand vX6_39 ⟨by decide, rfl⟩ hM rfl rfl (by decide) (cat_i (cat_i cat_nil)) (by simp) (by decide) (by first | decide | omega) (by first | decide | omega) (c_mOfErrand hX e1 (by omega)) ?_
  refine ret_elim ?_
  rw [uH_o (by omega) (by omega) (by omega), g1]
  rw [show eF (uH (uH s h 0 1) h 1 (m.2.2.1 h 1 + g)) e 1 = E.2.1 (β e) from by
    refine Eq.trans ?_ l3
    exact (uH_n hh (by omega) (by omega)).trans (uH_n hh (by omega) (by omega))]
  refine go_callV (z := 26) (t := 6) [.int (nI h), .int (nI 2), .int (E.2.1 (β e))] dX6_errandArrives_23 rfl mlX6_addToHouse vX6_70 ⟨by decide, rfl⟩ hM rfl rfl (by decide) (cat_i (cat_i (cat_i cat_nil))) (by simp) (by decide) (by first | decide | omega) (by first | decide | omega) (c_mAddHouse hX hh (by omega)) ?_
  refine ret_elim ?_
  rw [uH_o (by omega) (by omega) (by omega), uH_o (by omega) (by omega) (by omega), g2]
  refine go_aload_n (z := 27) dX6_errandArrives_26 rfl rfl ?_
  refine go_iload_n (z := 28) dX6_errandArrives_27 rfl rfl ?_
  refine go_iconst (z := 29) (v := 4) dX6_errandArrives_28 rfl (by decide) ?_
  refine go_iconst (z := 30) (v := 1) dX6_errandArrives_29 rfl (by decide) ?_
  refine go_callV (z := 33) (t := 6) [.int (nI h), .int (nI 4), .int 1] dX6_errandArrives_30 rfl mlX6_addToHouse vX6_70 ⟨by decide, rfl⟩ hM rfl rfl (by decide) (cat_i (cat_i (cat_i cat_nil))) (by simp) (by decide) (by first | decide | omega) (by first | decide | omega) (c_mAddHouse hX hh (by omega)) ?_
  refine ret_elim ?_
  refine go_aload_n (z := 34) dX6_errandArrives_33 rfl rfl ?_
  refine go_bipush (z := 36) (v := 8) dX6_errandArrives_34 rfl (by decide) ?_
  refine go_iload_n (z := 37) dX6_errandArrives_36 rfl rfl ?_
  refine go_iconst (z := 38) (v := 1) dX6_errandArrives_37 rfl (by decide) ?_
  rw [uH_o (by omega) (by omega) (by omega), uH_o (by omega) (by omega) (by omega), uH_o (by omega) (by omega) (by omega), g4]
  refine go_iadd (z := 39) dX6_errandArrives_38 rfl ?_
  refine go_st (st' := [.int (nI (e + 1)), .int 8, .ref M]) (by rw [← nI_1]; rfl) ?_
  refine go_callV (z := 42) (t := 6) [.int 8, .int (nI (e + 1))] dX6_errandArrives_39 rfl mlX6_first vX6_43 ⟨by decide, rfl⟩ hM rfl rfl (by decide) (cat_i (cat_i cat_nil)) (by simp) (by decide) (by first | decide | omega) (by first | decide | omega) (c_mFirst hX) ?_
  refine ret_elim ?_
  refine go_istore (z := 44) dX6_errandArrives_42 rfl (by decide) ?_
  have key := c_mErrLoop (l := l) (i := i) (n := n) (g := g) hX hE hh hb e1 (ps e) qs ps o _ _ rfl hA' (by omega) (by
    show ml.length + ((m.2.2.2.1 h).length + (ps e).length) < 144
    rw [← l4, List.length_map] at hcap
    exact hcap)
  refine go_post key (fun v n' i' r' hp => ?_)
  obtain ⟨q1, q2, q3, s', q4, β', qs', ps', ml', o', q5, q6⟩ := hp
  refine ⟨q1, q2, q3, s', q4, β', qs', ps', ml', o', by omega, ?_⟩
  have em : sQ (sH (sH (sH (sH m h (hP 0) 1) h (hP 1) (m.2.2.1 h 1 + g)) h (hP 2) (m.2.2.1 h 2 + E.2.1 (β e))) h (hP 4) (m.2.2.1 h 6 + 1)) h ((sH (sH (sH (sH m h (hP 0) 1) h (hP 1) (m.2.2.1 h 1 + g)) h (hP 2) (m.2.2.1 h 2 + E.2.1 (β e))) h (hP 4) (m.2.2.1 h 6 + 1)).2.2.2.1 h ++ (ps e).map β) = mTake E h (β e) (sH m h 1 (m.2.2.1 h 1 + g)) := by
    rw [l4]
    show sQ (sH (sH (sH (sH m h 0 1) h 1 (m.2.2.1 h 1 + g)) h 2 (m.2.2.1 h 2 + E.2.1 (β e))) h 6 (m.2.2.1 h 6 + 1)) h (m.2.2.2.1 h ++ E.2.2.2 (β e)) = _
    rw [sH_comm (show (0 : Nat) ≠ 1 by decide), sH_comm (show (2 : Nat) ≠ 6 by decide)]
    unfold mTake
    rw [show (sH m h 1 (m.2.2.1 h 1 + g)).2.2.1 h 6 = m.2.2.1 h 6 from ups_k (by decide), show (sH m h 1 (m.2.2.1 h 1 + g)).2.2.1 h 2 = m.2.2.1 h 2 from ups_k (by decide)]
    rfl
  rw [em] at q6
  exact q6
end MARRW
