/-! making, calling -/
theorem fTk (t f : Nat) (ht : t < 7) (hk : f < (cT t).2.2) : fT t f = .int ∨ fT t f = .boolean ∨ isR (fT t f) = true := by
  have h0 : ∀ t, t < 7 → ∀ f, f < (cT t).2.2 → fT t f = .int ∨ fT t f = .boolean ∨ isR (fT t f) = true := by decide +kernel
  exact h0 t ht f hk
theorem dvT (t f : Nat) (ht : t < 7) (hk : f < (cT t).2.2) : defaultValue (fT t f) = vl t f 0 none := by
  rcases fTk t f ht hk with h | h | h
  · rw [vl_i (by rw [h]; rfl), h]; rfl
  · rw [vl_i (by rw [h]; rfl), h]; rfl
  · rw [vl_r h]
    cases h' : fT t f with
    | object C => rfl
    | array C => rfl
    | _ => rw [h'] at h; cases h
theorem Abs.push {G : GG} {U : State} {H H' : Heap} {n : Nat} {i : IP} {r : RP} (A : Abs G U H n i r) (hz : H'.size = n + 1) (ho : ∀ q, q < n → H'[q]? = H[q]?) (hc : Cel U H' n (G.2.1 n) (fun _ => 0) (fun _ => none)) : Abs G U H' (n + 1) (upa i n 0) (upa r n none) := by
  refine ⟨hz, Nat.le_succ_of_le A.2.1, fun q h1 h2 => ?_, A.2.2.2.1.kept (ho _ (by have := A.2.2.2.2; have := A.2.1; omega)), A.2.2.2.2⟩
  by_cases hq : q = n
  · subst hq
    have e1 : upa i q 0 q = fun _ => 0 := by funext p; simp [upa]
    have e2 : upa r q none q = fun _ => none := by funext p; simp [upa]
    rw [e1, e2]; exact hc
  · rw [upa_row hq, upa_row hq]
    exact (A.2.2.1 q h1 (by omega)).kept (ho q (by omega))
theorem S_push {A : Nat → Prop} {H0 H H' : Heap} {n : Nat} {locs : List Loc} (S : va_S A H0 H locs) (hn : H.size = n) (hz : H'.size = n + 1) (ho : ∀ q, q < n → H'[q]? = H[q]?) : va_S A H0 H' locs :=
  ⟨Nat.le_trans S.1 (by omega), fun x h1 h2 => (ho x (by have := S.1; omega)).trans (S.2.1 x h1 h2), S.2.2⟩
section GOMAKE
variable {l : Launch} {G : GG} {Y : AM} {D k j pc z : Nat} {lo : List (Option Value)} {st : List Value} {n : Nat} {i : IP} {r : RP} {Q : QP}
theorem go_new {idx t : Nat} (hd : decode Y.2.1 pc = .ok (.new idx, 3)) (hz : pc + 3 = z) (ht : t < 7) (hcl : Cond.classLink Y.1.cls idx (cT t).1 ∈ lw_gd) (hin : Cond.instantiable (cT t).1 (cT t).2.2 ∈ lw_gd) (hini : Cond.initialized (cT t).1 ∈ lw_gd) (hk : 1 ≤ k) (hj : (cT t).2.2 ≤ j) (hG : (G.2.1 n).1 = t) (K : Go l G Y D (k - 1) (j - (cT t).2.2) z lo (.ref n :: st) (n + 1) (upa i n 0) (upa r n none) Q) : Go l G Y D k j pc lo st n i r Q := by
  subst hz
  intro p e R s m args below meth c H locs cells slots ls ⟨C, B, A, L, S, hb⟩
  have hts := C.2.2.2.2.2.1
  obtain ⟨cC, iS, hKn⟩ := u_known hts (inT t ht) (hts _ hin)
  refine W.newcK C.1 C.2.1 C.2.2.2.2.1 (hts _ hcl) (hts _ hin) (hts _ hini) rfl hd (by omega) (by omega) hKn.2.1 A.1 fun H' kC hkC e1 z1 o1 => ?_
  refine K p e R s m args below meth c H' locs (cells + 1) (slots + (cT t).2.2) ls ⟨C, ⟨B.1, B.2.1, by omega, by omega⟩, A.push z1 o1 ?_, L, S_push S A.1 z1 o1, hb⟩
  have h3' : G.2.1 n = (t, (G.2.1 n).2) := Prod.ext hG rfl
  rw [h3']
  refine ⟨fun f hf hr => ?_, fun _ => ⟨cC, iS, hKn, (u_born (fT t) hts (inT t ht) hKn hkC e1 (fdT t ht)).to (fun f hf => dvT t f ht hf)⟩, fun h => absurd ht (Nat.not_lt.mpr h)⟩
  have hf' : f < (cT t).2.2 := by
    have h := hf
    simp only [nS, ht, if_true] at h
    exact h
  rcases fTk t f ht hf' with h | h | h
  · show narrow (fT t f) (.int 0) = .int 0; rw [h]; rfl
  · show narrow (fT t f) (.int 0) = .int 0; rw [h]; exact congrArg Value.int (by decide)
  · exact absurd (h.symm.trans hr) (by decide)
theorem go_newa {at_ : ArrayType} {t : Nat} {x : Int32} (len : Nat) (hd : decode Y.2.1 pc = .ok (.newarray at_, 2)) (hz : pc + 2 = z) (harr : Cond.arrayClass (newarray.typeOf at_) ∈ lw_gd) (hta : (at_ = .int ∧ t = 7) ∨ (at_ = .char ∧ t = 8)) (hx : x = nI len) (hl : len * 8 ≤ 536870912) (hk : 1 ≤ k) (hj : len ≤ j) (hG : G.2.1 n = (t, len)) (K : Go l G Y D (k - 1) (j - len) z lo (.ref n :: st) (n + 1) (upa i n 0) (upa r n none) Q) : Go l G Y D k j pc lo (.int x :: st) n i r Q := by
  subst hz; subst hx
  intro p e R s m args below meth c H locs cells slots ls ⟨C, B, A, L, S, hb⟩
  have hts := C.2.2.2.2.2.1
  have hN : (nI len).toNatClampNeg = len := nI_clamp (by omega)
  refine va_newaK C.1 C.2.1 (hts _ harr) rfl hd rfl (nI_pos (by omega)) hN ?_ (by omega) (by omega) A.1 fun H' cA e1 z1 o1 hAr hNm => ?_
  · rcases hta with ⟨rfl, -⟩ | ⟨rfl, -⟩
    · show len * 4 ≤ _; omega
    · show len * 2 ≤ _; omega
  refine K p e R s m args below meth c H' locs (cells + 1) (slots + len) ls ⟨C, ⟨B.1, B.2.1, by omega, by omega⟩, A.push z1 o1 ?_, L, S_push S A.1 z1 o1, hb⟩
  rw [hG]
  rcases hta with ⟨rfl, rfl⟩ | ⟨rfl, rfl⟩
  · exact ⟨fun _ _ _ => rfl, fun h => absurd h (show ¬ (7:Nat) < 7 by omega), fun _ => ⟨cA, e1, hAr, hNm⟩⟩
  · exact ⟨fun _ _ _ => rfl, fun h => absurd h (show ¬ (8:Nat) < 7 by omega), fun _ => ⟨cA, e1, hAr, hNm⟩⟩
theorem go_anewa {idx t tb : Nat} {x : Int32} (len : Nat) (hd : decode Y.2.1 pc = .ok (.anewarray idx, 3)) (hz : pc + 3 = z) (hcl : Cond.classLink Y.1.cls idx (cT tb).1 ∈ lw_gd) (hov : ∀ U, Ex U → va_AO (cT tb).1 U) (ht : 9 ≤ t ∧ t ≤ 12) (hcc : ∀ q, fT t q = .object (cT tb).1) (hx : x = nI len) (hl : len * 4 ≤ 536870912) (hk : 1 ≤ k) (hj : len ≤ j) (hG : G.2.1 n = (t, len)) (K : Go l G Y D (k - 1) (j - len) z lo (.ref n :: st) (n + 1) (upa i n 0) (upa r n none) Q) : Go l G Y D k j pc lo (.int x :: st) n i r Q := by
  subst hz; subst hx
  intro p e R s m args below meth c H locs cells slots ls ⟨C, B, A, L, S, hb⟩
  have hts := C.2.2.2.2.2.1
  have hN : (nI len).toNatClampNeg = len := nI_clamp (by omega)
  refine W.anew C.1 C.2.1 C.2.2.2.2.1 (hts _ hcl) (va_AO.use (hov _ C.2.2.2.2.2.2.2.2)) rfl hd rfl (nI_pos (by omega)) (by rw [hN]; exact hl) (by omega) (by rw [hN]; omega) fun cA kA comp f1 f2 f3 f4 => ?_
  rw [hN, A.1]
  generalize hH1 : H.push ({ cls := cA, slots := Array.replicate len .null, vm := .none } : Cell) = H1
  have z1 : H1.size = n + 1 := by rw [← hH1, Array.size_push, A.1]
  have e1 : H1[n]? = some (arrV cA len (fun _ => .null)) := by rw [← hH1, ← A.1, Array.getElem?_push_size, ← arrV_new]
  have o1 : ∀ q : Nat, q < n → H1[q]? = H[q]? := fun q hq => by rw [← hH1, Array.getElem?_push, if_neg (by rw [A.1]; omega)]
  have hAr : ArrOfT s cA (.object (cT tb).1) := fun N z => ⟨(fun k h => by cases h), kA, f2, comp, f3⟩
  refine K p e R s m args below meth c H1 locs (cells + 1) (slots + len) ls ⟨C, ⟨B.1, B.2.1, by omega, by omega⟩, A.push z1 o1 ?_, L, S_push S A.1 z1 o1, hb⟩
  rw [hG]
  refine ⟨fun q _ hr => absurd ((fT9r ht q).1.symm.trans hr) (by decide), fun h => absurd (show t < 7 from h) (by omega), fun _ => ⟨cA, ?_, by show ArrOfT s cA (fT t 0); rw [hcc 0]; exact hAr, by show va_RA s cA (fT t 0); rw [hcc 0]; exact ⟨kA, comp, f2, f3, f4, f1⟩⟩⟩
  rw [e1]
  congr 2
  funext q
  show Value.null = vl t q 0 none
  exact (vl_r (o := none) (fT9r ht q).1).symm
/-! a method's contract out of the judgement at its entry -/
theorem go_met {As : List Value} (hpl : plainName Y.1.cls = true) (hcat : catOk As) (hlen : As.length ≤ Y.2.2.1) (hC : Go l G Y D k j 0 (lentry As Y.2.2.1) [] n i r Q) :
    Met l Y.1 (Cond.code Y.1 Y.2.1 Y.2.2.1 Y.2.2.2 :: lw_gd) { frames := D, cells := k, slots := j, locals := 33 * D } (va_Pc As (fun U => Abs G U U.heap n i r ∧ G.1 ≤ U.heap.size ∧ Ex U)) (Qc G Q) k j (fun q => G.1 ≤ q) := by
  refine Met.ofW (cc := Y.2.1) (maxL := Y.2.2.1) (ret := Y.2.2.2) hpl rfl ?_
  intro p e s m args below meth c s₁ B hml hv
  obtain ⟨rfl, hA, hb, hex⟩ := hv
  have hts := atoms_spec (ws := Cond.code Y.1 Y.2.1 Y.2.2.1 Y.2.2.2 :: lw_gd) B.pre
  rw [lg_entry_eq]
  exact hC p e _ s m As.toArray below meth c s.heap [] 0 0 _ ⟨⟨B.exec, B.bytes, B.returns, hml, findClass_of_methodNamed B.named, fun w hw => hts w (List.mem_cons_of_mem _ hw), B.notSynchronized, (name_of_methodNamed B.named B.method).1, hex⟩, ⟨Nat.le_refl _, Nat.le_refl _, by show 0 + k ≤ k; omega, by show 0 + j ≤ j; omega⟩, hA, Lcl.entry hcat hlen, va_S.rf, hb⟩
/-- what a call says, and how the caller goes on -/
theorem go_after {k' j' : Nat} {rest st0 : List Value} {Q' : QP} {a : Array Value} {p : Program} {e : Env} {R : Room} {s : State} {m : MethodId} {args : Array Value} {below : List Frame} {meth : Method} {c : Code} {H : Heap} {locs : List Loc} {cells slots : Nat} {ls : Array Slot}
    (E : EN G Y D k j lo n i r p R s m args meth c H locs cells slots ls) (hk : k' ≤ k) (hj : j' ≤ j)
    (hr : va_Run p l e R s m args below meth c H locs cells slots k' j' (F0 m pc ls st0) rest (Qc G Q' a) (fun q => G.1 ≤ q))
    (K : ∀ v n2 i2 r2, Q' v n2 i2 r2 → Go l G Y D (k - k') (j - j') (pc + 3) lo (v.toList ++ rest) n2 i2 r2 Q) :
    W p l e R s m args below meth c H locs cells slots (MQ below (Qc G Q) args s R.cells R.slots (fun q => G.1 ≤ q)) (F0 m pc ls st0) := by
  intro T hT X
  obtain ⟨C, B, A, L, S, hb⟩ := E
  obtain ⟨v, st₀, t, T', L2, h0, X', hL, e1, e2, ⟨⟨v', n2, i2, r2, hv, hA2, hQ⟩, hz, hkp⟩, st⟩ := hr T hT X
  have hv' : v = v' := Outcome.returned.inj hv
  subst hv'
  rw [h0] at hz hkp
  have hS' : va_S (fun q => G.1 ≤ q) s.heap T'.heap (locs ++ L2) := ⟨Nat.le_trans S.1 (by rw [e1]; exact hz), fun q h1 h2 => by rw [e1, hkp q (Nat.lt_of_lt_of_le h1 S.1) h2]; exact S.2.1 q h1 h2, fun q hq => by
      rcases List.mem_append.mp hq with h | h
      · exact S.2.2 q h
      · exact hL q h⟩
  have hal : t.vm.Alike s.vm := by rw [← e2]; exact X'.warmed.alike.symm
  have hA' : Abs G s T'.heap n2 i2 r2 := by rw [e1]; exact hA2.moved hal
  obtain ⟨t2, a1, b1⟩ := K v n2 i2 r2 hQ p e R s m args below meth c T'.heap (locs ++ L2) (cells + k') (slots + j') ls ⟨C, ⟨B.1, B.2.1, by omega, by omega⟩, hA', L, hS', hb⟩ T' rfl X'
  exact ⟨t2, st t2 a1, b1⟩
/-- what a call site needs of the tables -/
def MLink (Y' : AM) (nP : Nat) : Prop := Cond.code Y'.1 Y'.2.1 Y'.2.2.1 Y'.2.2.2 ∈ lw_gd ∧ Cond.initialized Y'.1.cls ∈ lw_gd ∧ (Y'.1.cls ≠ "java/lang/invoke/MethodHandle" ∧ Y'.1.cls ≠ "java/lang/invoke/VarHandle" ∧ (parseMethodDescriptor Y'.1.desc).map (fun d => d.parameters.length) = some nP) ∧ plainName Y'.1.cls = true ∧ Y'.2.2.1 ≤ 14
theorem good_ws {Y' : AM} {nP : Nat} (h : MLink Y' nP) : GoodIn lw_gd (Cond.code Y'.1 Y'.2.1 Y'.2.2.1 Y'.2.2.2 :: lw_gd) := by
  intro w hw
  have hm : w ∈ lw_gd := by
    rcases List.mem_cons.mp hw with rfl | q
    · exact h.1
    · exact q
  exact ⟨hm, good_of_word (lw_gdGood w hm)⟩
theorem rest_cat {rest : List Value} (h : rest.length ≤ 4) : (rest.map fun v => v.category).sum ≤ 8 := by
  have : ∀ l : List Value, (l.map fun v => v.category).sum ≤ 2 * l.length := by
    intro l
    induction l with
    | nil => simp
    | cons v t ih =>
      have := lv_cat v
      simp only [List.map_cons, List.sum_cons, List.length_cons]
      omega
  have := this rest
  omega
theorem abs_blind {As : List Value} : FrameBlind (va_Pc As (fun U => Abs G U U.heap n i r ∧ G.1 ≤ U.heap.size ∧ Ex U)) := fun a U g mk q => ⟨q.1, Abs.moved (u := U) (U := U.calling g mk a) (Vm.Alike.refl U.vm) q.2.1, q.2.2.1, Ex.same (s := U) (U := U.calling g mk a) rfl q.2.2.2⟩
theorem go_callV {Y' : AM} {D' k' j' idx t b nP : Nat} {rest : List Value} {Q' : QP} (As : List Value) (hd : decode Y.2.1 pc = .ok (.invokevirtual idx, 3)) (hz : pc + 3 = z) (hM : MLink Y' nP)
    (hw : Cond.methodLink Y.1.cls idx Y'.1 ∈ lw_gd ∧ Cond.instanceMethod Y'.1 ∈ lw_gd ∧ Cond.selects Y'.1.cls Y'.1 Y'.1 ∈ lw_gd) (ht : t < 7 ∧ (cT t).1 = Y'.1.cls) (hok : Ok G n b t) (hst : st = As.reverse ++ .ref b :: rest) (hAn : As.length = nP) (hAl : nP + 1 ≤ Y'.2.2.1) (hcat : catOk As) (hr : rest.length ≤ 4) (hD : D' + 1 ≤ D) (hk : k' ≤ k) (hj : j' ≤ j)
    (hC : Go l G Y' D' k' j' 0 (lentry (.ref b :: As) Y'.2.2.1) [] n i r Q') (K : ∀ v n2 i2 r2, Q' v n2 i2 r2 → Go l G Y D (k - k') (j - j') z lo (v.toList ++ rest) n2 i2 r2 Q) : Go l G Y D k j pc lo st n i r Q := by
  subst hz; subst hst; subst hAn
  intro p e R s m args below meth c H locs cells slots ls E
  have E' := E
  obtain ⟨C, B, A, L, S, hb⟩ := E'
  have hts := C.2.2.2.2.2.1
  have hmet := go_met hM.2.2.2.1 (cat_r (x := b) hcat) (by simpa using hAl) hC
  refine go_after E hk hj (va_runV (As := As) (C := Y'.1.cls) ⟨C.1, C.2.1, C.2.2.2.1, C.2.2.2.2.1, hts⟩ hmet ⟨callB_of As.length hts (good_ws hM) rfl rfl rfl (hts _ hM.2.1) (hts _ hw.1) hM.2.2.1 ⟨by show D' + 1 ≤ R.frames; omega, by show 8 + (Y'.2.2.1 + 11) + 33 * D' ≤ R.locals; have := hM.2.2.2.2; omega⟩, hts _ hw.2.1, hts _ hw.2.2⟩ ⟨abs_blind, ?_, fun U hU hW => ⟨rfl, by rw [hU]; exact A.moved hW.alike, by rw [hU]; exact Nat.le_trans hb S.1, C.2.2.2.2.2.2.2.2.warm hW⟩⟩ rfl rfl (L.1) rfl (lv_room (rest_cat hr)) hd ⟨by omega, by omega⟩) K
  obtain ⟨h1, h2, h3⟩ := hok
  obtain ⟨-, hc, -⟩ := A.2.2.1 b h1 h2
  rw [h3] at hc
  obtain ⟨cC, iS, hKn, cell, q1, q2, q3, q4⟩ := hc ht.1
  exact ⟨cell, q1, by rw [q3]; rfl, by rw [← ht.2, q2]; exact hKn.2.1⟩
theorem go_callS {Y' : AM} {D' k' j' idx nP : Nat} {rest : List Value} {Q' : QP} (As : List Value) (hd : decode Y.2.1 pc = .ok (.invokestatic idx, 3)) (hz : pc + 3 = z) (hM : MLink Y' nP)
    (hw : Cond.methodLink Y.1.cls idx Y'.1 ∈ lw_gd ∧ Cond.static Y'.1 ∈ lw_gd) (hst : st = As.reverse ++ rest) (hAn : As.length = nP) (hAl : nP ≤ Y'.2.2.1) (hcat : catOk As) (hr : rest.length ≤ 4) (hD : D' + 1 ≤ D) (hk : k' ≤ k) (hj : j' ≤ j)
    (hC : Go l G Y' D' k' j' 0 (lentry As Y'.2.2.1) [] n i r Q') (K : ∀ v n2 i2 r2, Q' v n2 i2 r2 → Go l G Y D (k - k') (j - j') z lo (v.toList ++ rest) n2 i2 r2 Q) : Go l G Y D k j pc lo st n i r Q := by
  subst hz; subst hst; subst hAn
  intro p e R s m args below meth c H locs cells slots ls E
  have E' := E
  obtain ⟨C, B, A, L, S, hb⟩ := E'
  have hts := C.2.2.2.2.2.1
  have hmet := go_met hM.2.2.2.1 hcat hAl hC
  exact go_after E hk hj (va_runS (As := As) ⟨C.1, C.2.1, C.2.2.2.1, C.2.2.2.2.1, hts⟩ hmet ⟨callB_of As.length hts (good_ws hM) rfl rfl rfl (hts _ hM.2.1) (hts _ hw.1) hM.2.2.1 ⟨by show D' + 1 ≤ R.frames; omega, by show 8 + (Y'.2.2.1 + 11) + 33 * D' ≤ R.locals; have := hM.2.2.2.2; omega⟩, hts _ hw.2⟩ ⟨abs_blind, fun U hU hW => ⟨rfl, by rw [hU]; exact A.moved hW.alike, by rw [hU]; exact Nat.le_trans hb S.1, C.2.2.2.2.2.2.2.2.warm hW⟩⟩ rfl rfl (L.1) rfl (lv_room (rest_cat hr)) hd ⟨by omega, by omega⟩) K
theorem go_callSN {Y' : AM} {host : String} {D' k' j' idx nP : Nat} {rest : List Value} {Q' : QP} (As : List Value) (hd : decode Y.2.1 pc = .ok (.invokestatic idx, 3)) (hz : pc + 3 = z) (hM : MLink Y' nP)
    (hw : (∀ U, Ex U → va_Nw (.methodLinkNest Y.1.cls idx Y'.1 host) U) ∧ Cond.static Y'.1 ∈ lw_gd) (hst : st = As.reverse ++ rest) (hAn : As.length = nP) (hAl : nP ≤ Y'.2.2.1) (hcat : catOk As) (hr : rest.length ≤ 4) (hD : D' + 1 ≤ D) (hk : k' ≤ k) (hj : j' ≤ j)
    (hC : Go l G Y' D' k' j' 0 (lentry As Y'.2.2.1) [] n i r Q') (K : ∀ v n2 i2 r2, Q' v n2 i2 r2 → Go l G Y D (k - k') (j - j') z lo (v.toList ++ rest) n2 i2 r2 Q) : Go l G Y D k j pc lo st n i r Q := by
  subst hz; subst hst; subst hAn
  intro p e R s m args below meth c H locs cells slots ls E
  have E' := E
  obtain ⟨C, B, A, L, S, hb⟩ := E'
  have hts := C.2.2.2.2.2.1
  have hmet := go_met hM.2.2.2.1 hcat hAl hC
  exact go_after E hk hj (va_runSN (As := As) ⟨C.1, C.2.1, C.2.2.2.1, C.2.2.2.2.1, hts⟩ hmet ⟨va_cnB As.length hts (good_ws hM) rfl rfl rfl (hw.1 _ C.2.2.2.2.2.2.2.2) (hts _ hM.2.1) hM.2.2.1 ⟨by show D' + 1 ≤ R.frames; omega, by show 8 + (Y'.2.2.1 + 11) + 33 * D' ≤ R.locals; have := hM.2.2.2.2; omega⟩, hts _ hw.2, trivial⟩ ⟨abs_blind, fun U hU hW => ⟨rfl, by rw [hU]; exact A.moved hW.alike, by rw [hU]; exact Nat.le_trans hb S.1, C.2.2.2.2.2.2.2.2.warm hW⟩⟩ rfl rfl (L.1) rfl (lv_room (rest_cat hr)) hd ⟨by omega, by omega⟩) K
theorem go_callI {Y' : AM} {D' k' j' idx b nP : Nat} {rest : List Value} {Q' : QP} (As : List Value) (hd : decode Y.2.1 pc = .ok (.invokespecial idx, 3)) (hz : pc + 3 = z) (hM : MLink Y' nP) (hret : Y'.2.2.2 = none)
    (hw : Cond.methodLink Y.1.cls idx Y'.1 ∈ lw_gd ∧ Cond.instanceMethod Y'.1 ∈ lw_gd ∧ Y'.1.name = "<init>") (hst : st = As.reverse ++ .ref b :: rest) (hAn : As.length = nP) (hAl : nP + 1 ≤ Y'.2.2.1) (hcat : catOk As) (hr : rest.length ≤ 4) (hD : D' + 1 ≤ D) (hk : k' ≤ k) (hj : j' ≤ j)
    (hC : Go l G Y' D' k' j' 0 (lentry (.ref b :: As) Y'.2.2.1) [] n i r Q') (K : ∀ v n2 i2 r2, Q' v n2 i2 r2 → Go l G Y D (k - k') (j - j') z lo (v.toList ++ rest) n2 i2 r2 Q) : Go l G Y D k j pc lo st n i r Q := by
  subst hz; subst hst; subst hAn
  intro p e R s m args below meth c H locs cells slots ls E
  have E' := E
  obtain ⟨C, B, A, L, S, hb⟩ := E'
  have hts := C.2.2.2.2.2.1
  have hmet := go_met hM.2.2.2.1 (cat_r (x := b) hcat) (by simpa using hAl) hC
  rw [hret] at hmet
  have hg := good_ws hM
  rw [hret] at hg
  exact go_after E hk hj (va_runI (As := As) ⟨C.1, C.2.1, C.2.2.2.1, C.2.2.2.2.1, hts⟩ hmet ⟨callB_of As.length hts hg rfl rfl rfl (hts _ hM.2.1) (hts _ hw.1) hM.2.2.1 ⟨by show D' + 1 ≤ R.frames; omega, by show 8 + (Y'.2.2.1 + 11) + 33 * D' ≤ R.locals; have := hM.2.2.2.2; omega⟩, hw.2.2, hts _ hw.2.1⟩ ⟨abs_blind, fun U hU hW => ⟨rfl, by rw [hU]; exact A.moved hW.alike, by rw [hU]; exact Nat.le_trans hb S.1, C.2.2.2.2.2.2.2.2.warm hW⟩⟩ rfl rfl (L.1) rfl (lv_room (rest_cat hr)) hd ⟨by omega, by omega⟩) K
theorem go_callIN {Y' : AM} {host : String} {D' k' j' idx b nP : Nat} {rest : List Value} {Q' : QP} (As : List Value) (hd : decode Y.2.1 pc = .ok (.invokespecial idx, 3)) (hz : pc + 3 = z) (hM : MLink Y' nP) (hret : Y'.2.2.2 = none)
    (hw : (∀ U, Ex U → va_Nw (.methodLinkNest Y.1.cls idx Y'.1 host) U) ∧ Cond.instanceMethod Y'.1 ∈ lw_gd ∧ Y'.1.name = "<init>") (hst : st = As.reverse ++ .ref b :: rest) (hAn : As.length = nP) (hAl : nP + 1 ≤ Y'.2.2.1) (hcat : catOk As) (hr : rest.length ≤ 4) (hD : D' + 1 ≤ D) (hk : k' ≤ k) (hj : j' ≤ j)
    (hC : Go l G Y' D' k' j' 0 (lentry (.ref b :: As) Y'.2.2.1) [] n i r Q') (K : ∀ v n2 i2 r2, Q' v n2 i2 r2 → Go l G Y D (k - k') (j - j') z lo (v.toList ++ rest) n2 i2 r2 Q) : Go l G Y D k j pc lo st n i r Q := by
  subst hz; subst hst; subst hAn
  intro p e R s m args below meth c H locs cells slots ls E
  have E' := E
  obtain ⟨C, B, A, L, S, hb⟩ := E'
  have hts := C.2.2.2.2.2.1
  have hmet := go_met hM.2.2.2.1 (cat_r (x := b) hcat) (by simpa using hAl) hC
  rw [hret] at hmet
  have hg := good_ws hM
  rw [hret] at hg
  exact go_after E hk hj (va_runIN (As := As) ⟨C.1, C.2.1, C.2.2.2.1, C.2.2.2.2.1, hts⟩ hmet ⟨va_cnB As.length hts hg rfl rfl rfl (hw.1 _ C.2.2.2.2.2.2.2.2) (hts _ hM.2.1) hM.2.2.1 ⟨by show D' + 1 ≤ R.frames; omega, by show 8 + (Y'.2.2.1 + 11) + 33 * D' ≤ R.locals; have := hM.2.2.2.2; omega⟩, hw.2.2, hts _ hw.2.1⟩ ⟨abs_blind, fun U hU hW => ⟨rfl, by rw [hU]; exact A.moved hW.alike, by rw [hU]; exact Nat.le_trans hb S.1, C.2.2.2.2.2.2.2.2.warm hW⟩⟩ rfl rfl (L.1) rfl (lv_room (rest_cat hr)) hd ⟨by omega, by omega⟩) K
theorem go_objinit {idx a : Nat} (hd : decode Y.2.1 pc = .ok (.invokespecial idx, 3)) (hz : pc + 3 = z) (hw : Cond.methodLink Y.1.cls idx Lib.objectInit ∈ lw_gd) (hr : st.length ≤ 4) (hD : 1 ≤ D) (K : Go l G Y D k j z lo st n i r Q) : Go l G Y D k j pc lo (.ref a :: st) n i r Q := by
  subst hz
  intro p e R s m args below meth c H locs cells slots ls E
  have KK := K p e R s m args below meth c H locs cells slots ls E
  obtain ⟨C, B, A, L, S, hb⟩ := E
  have hts := C.2.2.2.2.2.1
  have h8 := lv_room (m := m) (pc := pc) (ls := ls) (rest := .ref a :: st) (rest_cat hr)
  exact W.objInit C.1 C.2.1 C.2.2.2.2.1 (hts _ hw) (hts _ (lw_in (by decide +kernel) rfl)) (hts _ (lw_in (by decide +kernel) rfl)) rfl (L.1.trans C.2.2.2.1.symm) rfl hd (by omega) (by omega) KK
theorem go_max {idx : Nat} {x y v : Int32} (hd : decode Y.2.1 pc = .ok (.invokestatic idx, 3)) (hz : pc + 3 = z) (hw : Cond.methodLink Y.1.cls idx Lib.Math.max.name ∈ lw_gd) (hr : st.length ≤ 4) (hD : 1 ≤ D) (hv : (if x < y then y else x) = v) (K : Go l G Y D k j z lo (.int v :: st) n i r Q) : Go l G Y D k j pc lo (.int y :: .int x :: st) n i r Q := by
  subst hz; subst hv
  intro p e R s m args below meth c H locs cells slots ls E
  have KK := K p e R s m args below meth c H locs cells slots ls E
  obtain ⟨C, B, A, L, S, hb⟩ := E
  have hts := C.2.2.2.2.2.1
  have h8 := rest_cat hr
  exact va_mmax C.1 C.2.1 (C.2.2.2.1.trans L.1.symm) C.2.2.2.2.1 (hts _ hw) (hts _ (lw_in (by decide +kernel) rfl)) (hts _ (lw_in (by decide +kernel) rfl)) (hts _ (lw_in (by decide +kernel) rfl)) (by omega) (by omega) (by omega) (by omega) hd KK
end GOMAKE
