/-! rows of the judgement: constants, locals, stack, arithmetic, branches -/
section GOROWS
variable {l : Launch} {G : GG} {Y : AM} {D k j pc z : Nat} {lo : List (Option Value)} {st : List Value} {n : Nat} {i : IP} {r : RP} {Q : QP}
theorem go_iconst {q : Int} {v : Int32} (hd : decode Y.2.1 pc = .ok (.iconst q, 1)) (hz : pc + 1 = z) (hv : Int32.ofInt q = v) (K : Go l G Y D k j z lo (.int v :: st) n i r Q) : Go l G Y D k j pc lo st n i r Q := by
  subst hz
  intro p e R s m args below meth c H locs cells slots ls E
  exact lv_iconst E.1.1 E.1.2.1 hd hv (K p e R s m args below meth c H locs cells slots ls E)
theorem go_bipush {q : Int} {v : Int32} (hd : decode Y.2.1 pc = .ok (.bipush q, 2)) (hz : pc + 2 = z) (hv : (Int8.ofInt q).toInt32 = v) (K : Go l G Y D k j z lo (.int v :: st) n i r Q) : Go l G Y D k j pc lo st n i r Q := by
  subst hz
  intro p e R s m args below meth c H locs cells slots ls E
  exact lv_bipush E.1.1 E.1.2.1 hd hv (K p e R s m args below meth c H locs cells slots ls E)
theorem go_sipush {q : Int} {v : Int32} (hd : decode Y.2.1 pc = .ok (.sipush q, 3)) (hz : pc + 3 = z) (hv : (Int16.ofInt q).toInt32 = v) (K : Go l G Y D k j z lo (.int v :: st) n i r Q) : Go l G Y D k j pc lo st n i r Q := by
  subst hz
  intro p e R s m args below meth c H locs cells slots ls E
  exact lv_sipush E.1.1 E.1.2.1 hd hv (K p e R s m args below meth c H locs cells slots ls E)
theorem go_ldc {q : Nat} {v : Int32} (hd : decode Y.2.1 pc = .ok (.ldc q, 2)) (hz : pc + 2 = z) (hw : Cond.constant Y.1.cls q v ∈ lw_gd) (K : Go l G Y D k j z lo (.int v :: st) n i r Q) : Go l G Y D k j pc lo st n i r Q := by
  subst hz
  intro p e R s m args below meth c H locs cells slots ls E
  exact lv_ldc E.1.1 E.1.2.1 E.1.2.2.2.2.1 (E.1.2.2.2.2.2.1 _ hw) hd (K p e R s m args below meth c H locs cells slots ls E)
theorem go_null (hd : decode Y.2.1 pc = .ok (.aconst_null, 1)) (hz : pc + 1 = z) (K : Go l G Y D k j z lo (.null :: st) n i r Q) : Go l G Y D k j pc lo st n i r Q := by
  subst hz
  intro p e R s m args below meth c H locs cells slots ls E
  exact lv_null E.1.1 E.1.2.1 hd (K p e R s m args below meth c H locs cells slots ls E)
theorem go_iload_n {q : Fin 4} {x : Int32} (hd : decode Y.2.1 pc = .ok (.iload_n q, 1)) (hz : pc + 1 = z) (hl : lget lo q = some (.int x)) (K : Go l G Y D k j z lo (.int x :: st) n i r Q) : Go l G Y D k j pc lo st n i r Q := by
  subst hz
  intro p e R s m args below meth c H locs cells slots ls E
  exact lv_iload_n E.1.1 E.1.2.1 hd rfl (E.2.2.2.1.2.2.2 _ _ hl).1 (K p e R s m args below meth c H locs cells slots ls E)
theorem go_iload {q : Nat} {x : Int32} (hd : decode Y.2.1 pc = .ok (.iload q, 2)) (hz : pc + 2 = z) (hl : lget lo q = some (.int x)) (K : Go l G Y D k j z lo (.int x :: st) n i r Q) : Go l G Y D k j pc lo st n i r Q := by
  subst hz
  intro p e R s m args below meth c H locs cells slots ls E
  exact lv_iload E.1.1 E.1.2.1 hd (E.2.2.2.1.2.2.2 _ _ hl).1 (K p e R s m args below meth c H locs cells slots ls E)
theorem go_aload_n {q : Fin 4} {x : Nat} (hd : decode Y.2.1 pc = .ok (.aload_n q, 1)) (hz : pc + 1 = z) (hl : lget lo q = some (.ref x)) (K : Go l G Y D k j z lo (.ref x :: st) n i r Q) : Go l G Y D k j pc lo st n i r Q := by
  subst hz
  intro p e R s m args below meth c H locs cells slots ls E
  exact lv_aload_n E.1.1 E.1.2.1 hd rfl (E.2.2.2.1.2.2.2 _ _ hl).1 (K p e R s m args below meth c H locs cells slots ls E)
theorem go_aload_nN {q : Fin 4} (hd : decode Y.2.1 pc = .ok (.aload_n q, 1)) (hz : pc + 1 = z) (hl : lget lo q = some .null) (K : Go l G Y D k j z lo (.null :: st) n i r Q) : Go l G Y D k j pc lo st n i r Q := by
  subst hz
  intro p e R s m args below meth c H locs cells slots ls E
  exact lv_aload_nN E.1.1 E.1.2.1 hd rfl (E.2.2.2.1.2.2.2 _ _ hl).1 (K p e R s m args below meth c H locs cells slots ls E)
theorem go_aload_nO {q : Fin 4} {o : Option Nat} (hd : decode Y.2.1 pc = .ok (.aload_n q, 1)) (hz : pc + 1 = z) (hl : lget lo q = some (va_rf o)) (K : Go l G Y D k j z lo (va_rf o :: st) n i r Q) : Go l G Y D k j pc lo st n i r Q := by
  cases o with
  | none => exact go_aload_nN hd hz hl K
  | some x => exact go_aload_n hd hz hl K
theorem go_aload {q : Nat} {x : Nat} (hd : decode Y.2.1 pc = .ok (.aload q, 2)) (hz : pc + 2 = z) (hl : lget lo q = some (.ref x)) (K : Go l G Y D k j z lo (.ref x :: st) n i r Q) : Go l G Y D k j pc lo st n i r Q := by
  subst hz
  intro p e R s m args below meth c H locs cells slots ls E
  exact lv_aload E.1.1 E.1.2.1 hd (E.2.2.2.1.2.2.2 _ _ hl).1 (K p e R s m args below meth c H locs cells slots ls E)
theorem go_aloadN {q : Nat} (hd : decode Y.2.1 pc = .ok (.aload q, 2)) (hz : pc + 2 = z) (hl : lget lo q = some .null) (K : Go l G Y D k j z lo (.null :: st) n i r Q) : Go l G Y D k j pc lo st n i r Q := by
  subst hz
  intro p e R s m args below meth c H locs cells slots ls E
  exact lv_aloadN E.1.1 E.1.2.1 hd (E.2.2.2.1.2.2.2 _ _ hl).1 (K p e R s m args below meth c H locs cells slots ls E)
theorem go_aloadO {q : Nat} {o : Option Nat} (hd : decode Y.2.1 pc = .ok (.aload q, 2)) (hz : pc + 2 = z) (hl : lget lo q = some (va_rf o)) (K : Go l G Y D k j z lo (va_rf o :: st) n i r Q) : Go l G Y D k j pc lo st n i r Q := by
  cases o with
  | none => exact go_aloadN hd hz hl K
  | some x => exact go_aload hd hz hl K
theorem go_istore_n {q : Fin 4} {x : Int32} (hd : decode Y.2.1 pc = .ok (.istore_n q, 1)) (hz : pc + 1 = z) (hq : (q : Nat) < Y.2.2.1) (K : Go l G Y D k j z (lset lo q (.int x)) st n i r Q) : Go l G Y D k j pc lo (.int x :: st) n i r Q := by
  subst hz
  intro p e R s m args below meth c H locs cells slots ls ⟨C, B, A, L, S, hb⟩
  exact lv_istore_n C.1 C.2.1 hd rfl L.enum hq rfl (fun ls' h' => K p e R s m args below meth c H locs cells slots ls' ⟨C, B, A, L.stored rfl h', S, hb⟩)
theorem go_istore {q : Nat} {x : Int32} (hd : decode Y.2.1 pc = .ok (.istore q, 2)) (hz : pc + 2 = z) (hq : q < Y.2.2.1) (K : Go l G Y D k j z (lset lo q (.int x)) st n i r Q) : Go l G Y D k j pc lo (.int x :: st) n i r Q := by
  subst hz
  intro p e R s m args below meth c H locs cells slots ls ⟨C, B, A, L, S, hb⟩
  exact lv_istore C.1 C.2.1 hd L.enum hq rfl (fun ls' h' => K p e R s m args below meth c H locs cells slots ls' ⟨C, B, A, L.stored rfl h', S, hb⟩)
theorem go_astore_n {q : Fin 4} {x : Nat} (hd : decode Y.2.1 pc = .ok (.astore_n q, 1)) (hz : pc + 1 = z) (hq : (q : Nat) < Y.2.2.1) (K : Go l G Y D k j z (lset lo q (.ref x)) st n i r Q) : Go l G Y D k j pc lo (.ref x :: st) n i r Q := by
  subst hz
  intro p e R s m args below meth c H locs cells slots ls ⟨C, B, A, L, S, hb⟩
  exact lv_astore_n C.1 C.2.1 hd rfl L.enum hq rfl (fun ls' h' => K p e R s m args below meth c H locs cells slots ls' ⟨C, B, A, L.stored rfl h', S, hb⟩)
theorem go_astore_nN {q : Fin 4} (hd : decode Y.2.1 pc = .ok (.astore_n q, 1)) (hz : pc + 1 = z) (hq : (q : Nat) < Y.2.2.1) (K : Go l G Y D k j z (lset lo q .null) st n i r Q) : Go l G Y D k j pc lo (.null :: st) n i r Q := by
  subst hz
  intro p e R s m args below meth c H locs cells slots ls ⟨C, B, A, L, S, hb⟩
  exact lv_astore_nN C.1 C.2.1 hd rfl L.enum hq rfl (fun ls' h' => K p e R s m args below meth c H locs cells slots ls' ⟨C, B, A, L.stored rfl h', S, hb⟩)
theorem go_astore_nO {q : Fin 4} {o : Option Nat} (hd : decode Y.2.1 pc = .ok (.astore_n q, 1)) (hz : pc + 1 = z) (hq : (q : Nat) < Y.2.2.1) (K : Go l G Y D k j z (lset lo q (va_rf o)) st n i r Q) : Go l G Y D k j pc lo (va_rf o :: st) n i r Q := by
  cases o with
  | none => exact go_astore_nN hd hz hq K
  | some x => exact go_astore_n hd hz hq K
theorem go_astore {q : Nat} {x : Nat} (hd : decode Y.2.1 pc = .ok (.astore q, 2)) (hz : pc + 2 = z) (hq : q < Y.2.2.1) (K : Go l G Y D k j z (lset lo q (.ref x)) st n i r Q) : Go l G Y D k j pc lo (.ref x :: st) n i r Q := by
  subst hz
  intro p e R s m args below meth c H locs cells slots ls ⟨C, B, A, L, S, hb⟩
  exact lv_astore C.1 C.2.1 hd L.enum hq rfl (fun ls' h' => K p e R s m args below meth c H locs cells slots ls' ⟨C, B, A, L.stored rfl h', S, hb⟩)
theorem go_astoreN {q : Nat} (hd : decode Y.2.1 pc = .ok (.astore q, 2)) (hz : pc + 2 = z) (hq : q < Y.2.2.1) (K : Go l G Y D k j z (lset lo q .null) st n i r Q) : Go l G Y D k j pc lo (.null :: st) n i r Q := by
  subst hz
  intro p e R s m args below meth c H locs cells slots ls ⟨C, B, A, L, S, hb⟩
  exact lv_astoreN C.1 C.2.1 hd L.enum hq rfl (fun ls' h' => K p e R s m args below meth c H locs cells slots ls' ⟨C, B, A, L.stored rfl h', S, hb⟩)
theorem go_astoreO {q : Nat} {o : Option Nat} (hd : decode Y.2.1 pc = .ok (.astore q, 2)) (hz : pc + 2 = z) (hq : q < Y.2.2.1) (K : Go l G Y D k j z (lset lo q (va_rf o)) st n i r Q) : Go l G Y D k j pc lo (va_rf o :: st) n i r Q := by
  cases o with
  | none => exact go_astoreN hd hz hq K
  | some x => exact go_astore hd hz hq K
theorem go_iinc {q : Nat} {y : Int} {x v : Int32} (hd : decode Y.2.1 pc = .ok (.iinc q y, 3)) (hz : pc + 3 = z) (hl : lget lo q = some (.int x)) (hv : x + Int32.ofInt y = v) (hq : q < Y.2.2.1) (K : Go l G Y D k j z (lset lo q (.int v)) st n i r Q) : Go l G Y D k j pc lo st n i r Q := by
  subst hz
  intro p e R s m args below meth c H locs cells slots ls ⟨C, B, A, L, S, hb⟩
  obtain ⟨w, hw⟩ := List.getElem?_of_mem (lenum_mem.mpr hl)
  exact lv_iinc C.1 C.2.1 hd L.enum hw hv hq rfl (fun ls' h' => K p e R s m args below meth c H locs cells slots ls' ⟨C, B, A, L.stored rfl h', S, hb⟩)
theorem go_forget (q : Nat) (K : Go l G Y D k j pc (lclr lo q) st n i r Q) : Go l G Y D k j pc lo st n i r Q := by
  intro p e R s m args below meth c H locs cells slots ls ⟨C, B, A, L, S, hb⟩
  exact K p e R s m args below meth c H locs cells slots ls ⟨C, B, A, L.clr q, S, hb⟩
theorem go_iadd {x y : Int32} (hd : decode Y.2.1 pc = .ok (.iadd, 1)) (hz : pc + 1 = z) (K : Go l G Y D k j z lo (.int (x + y) :: st) n i r Q) : Go l G Y D k j pc lo (.int y :: .int x :: st) n i r Q := by
  subst hz
  intro p e R s m args below meth c H locs cells slots ls E
  exact lv_iadd E.1.1 E.1.2.1 hd (K p e R s m args below meth c H locs cells slots ls E)
theorem go_isub {x y : Int32} (hd : decode Y.2.1 pc = .ok (.isub, 1)) (hz : pc + 1 = z) (K : Go l G Y D k j z lo (.int (x - y) :: st) n i r Q) : Go l G Y D k j pc lo (.int y :: .int x :: st) n i r Q := by
  subst hz
  intro p e R s m args below meth c H locs cells slots ls E
  exact lv_isub E.1.1 E.1.2.1 hd (K p e R s m args below meth c H locs cells slots ls E)
theorem go_imul {x y : Int32} (hd : decode Y.2.1 pc = .ok (.imul, 1)) (hz : pc + 1 = z) (K : Go l G Y D k j z lo (.int (x * y) :: st) n i r Q) : Go l G Y D k j pc lo (.int y :: .int x :: st) n i r Q := by
  subst hz
  intro p e R s m args below meth c H locs cells slots ls E
  exact lv_imul E.1.1 E.1.2.1 hd (K p e R s m args below meth c H locs cells slots ls E)
theorem go_iand {x y : Int32} (hd : decode Y.2.1 pc = .ok (.iand, 1)) (hz : pc + 1 = z) (K : Go l G Y D k j z lo (.int (x &&& y) :: st) n i r Q) : Go l G Y D k j pc lo (.int y :: .int x :: st) n i r Q := by
  subst hz
  intro p e R s m args below meth c H locs cells slots ls E
  exact lv_iand E.1.1 E.1.2.1 hd (K p e R s m args below meth c H locs cells slots ls E)
theorem go_ineg {x v : Int32} (hd : decode Y.2.1 pc = .ok (.ineg, 1)) (hz : pc + 1 = z) (hv : -x = v) (K : Go l G Y D k j z lo (.int v :: st) n i r Q) : Go l G Y D k j pc lo (.int x :: st) n i r Q := by
  subst hz hv
  intro p e R s m args below meth c H locs cells slots ls E
  exact lv_ineg E.1.1 E.1.2.1 hd (K p e R s m args below meth c H locs cells slots ls E)
theorem go_ishl {x y v : Int32} (hd : decode Y.2.1 pc = .ok (.ishl, 1)) (hz : pc + 1 = z) (hv : x <<< (y &&& 31) = v) (K : Go l G Y D k j z lo (.int v :: st) n i r Q) : Go l G Y D k j pc lo (.int y :: .int x :: st) n i r Q := by
  subst hz hv
  intro p e R s m args below meth c H locs cells slots ls E
  exact lv_ishl E.1.1 E.1.2.1 hd (K p e R s m args below meth c H locs cells slots ls E)
theorem go_idiv {x y : Int32} (hd : decode Y.2.1 pc = .ok (.idiv, 1)) (hz : pc + 1 = z) (hy : ¬ y = 0) (K : Go l G Y D k j z lo (.int (x / y) :: st) n i r Q) : Go l G Y D k j pc lo (.int y :: .int x :: st) n i r Q := by
  subst hz
  intro p e R s m args below meth c H locs cells slots ls E
  exact lv_idiv E.1.1 E.1.2.1 hd hy (K p e R s m args below meth c H locs cells slots ls E)
theorem go_irem {x y v : Int32} (hd : decode Y.2.1 pc = .ok (.irem, 1)) (hz : pc + 1 = z) (hy : ¬ y = 0) (hv : x - x / y * y = v) (K : Go l G Y D k j z lo (.int v :: st) n i r Q) : Go l G Y D k j pc lo (.int y :: .int x :: st) n i r Q := by
  subst hz hv
  intro p e R s m args below meth c H locs cells slots ls E
  exact lv_irem E.1.1 E.1.2.1 hd hy (K p e R s m args below meth c H locs cells slots ls E)
theorem go_i2c {x v : Int32} (hd : decode Y.2.1 pc = .ok (.i2c, 1)) (hz : pc + 1 = z) (hv : (x.toUInt32 % 65536).toInt32 = v) (K : Go l G Y D k j z lo (.int v :: st) n i r Q) : Go l G Y D k j pc lo (.int x :: st) n i r Q := by
  subst hz
  intro p e R s m args below meth c H locs cells slots ls E
  exact lv_i2c E.1.1 E.1.2.1 hd hv (K p e R s m args below meth c H locs cells slots ls E)
theorem go_dup {v : Value} (hd : decode Y.2.1 pc = .ok (.dup, 1)) (hz : pc + 1 = z) (hc : v.category = 1) (K : Go l G Y D k j z lo (v :: v :: st) n i r Q) : Go l G Y D k j pc lo (v :: st) n i r Q := by
  subst hz
  intro p e R s m args below meth c H locs cells slots ls E
  exact lv_dup E.1.1 E.1.2.1 hd hc (K p e R s m args below meth c H locs cells slots ls E)
theorem go_dup2 {v w : Value} (hd : decode Y.2.1 pc = .ok (.dup2, 1)) (hz : pc + 1 = z) (hc : v.category = 1) (hc2 : w.category = 1) (K : Go l G Y D k j z lo (v :: w :: v :: w :: st) n i r Q) : Go l G Y D k j pc lo (v :: w :: st) n i r Q := by
  subst hz
  intro p e R s m args below meth c H locs cells slots ls E
  exact lv_dup2_11 E.1.1 E.1.2.1 hd hc hc2 (K p e R s m args below meth c H locs cells slots ls E)
theorem go_goto {o : Int} (hd : decode Y.2.1 pc = .ok (.goto o, 3)) (hz : (pc : Int) + o = (z : Int)) (K : Go l G Y D k j z lo st n i r Q) : Go l G Y D k j pc lo st n i r Q := by
  intro p e R s m args below meth c H locs cells slots ls E
  exact lv_goto E.1.1 E.1.2.1 hd hz (K p e R s m args below meth c H locs cells slots ls E)
theorem go_if_eq {o : Int} {x : Int32} {z2 : Nat} (hd : decode Y.2.1 pc = .ok (.ifCond .eq o, 3)) (hz : pc + 3 = z2) (ht : (pc : Int) + o = (z : Int)) (K1 : x = 0 → Go l G Y D k j z lo st n i r Q) (K2 : ¬ x = 0 → Go l G Y D k j z2 lo st n i r Q) : Go l G Y D k j pc lo (.int x :: st) n i r Q := by
  subst hz
  intro p e R s m args below meth c H locs cells slots ls E
  exact lv_if_eq E.1.1 E.1.2.1 hd ht (fun h => K1 h p e R s m args below meth c H locs cells slots ls E) (fun h => K2 h p e R s m args below meth c H locs cells slots ls E)
theorem go_icmp_eq {o : Int} {x y : Int32} {z2 : Nat} (hd : decode Y.2.1 pc = .ok (.if_icmp .eq o, 3)) (hz : pc + 3 = z2) (ht : (pc : Int) + o = (z : Int)) (K1 : x = y → Go l G Y D k j z lo st n i r Q) (K2 : ¬ x = y → Go l G Y D k j z2 lo st n i r Q) : Go l G Y D k j pc lo (.int y :: .int x :: st) n i r Q := by
  subst hz
  intro p e R s m args below meth c H locs cells slots ls E
  exact lv_icmp_eq E.1.1 E.1.2.1 hd ht (fun h => K1 h p e R s m args below meth c H locs cells slots ls E) (fun h => K2 h p e R s m args below meth c H locs cells slots ls E)
theorem go_if_ne {o : Int} {x : Int32} {z2 : Nat} (hd : decode Y.2.1 pc = .ok (.ifCond .ne o, 3)) (hz : pc + 3 = z2) (ht : (pc : Int) + o = (z : Int)) (K1 : ¬ x = 0 → Go l G Y D k j z lo st n i r Q) (K2 : x = 0 → Go l G Y D k j z2 lo st n i r Q) : Go l G Y D k j pc lo (.int x :: st) n i r Q := by
  subst hz
  intro p e R s m args below meth c H locs cells slots ls E
  exact lv_if_ne E.1.1 E.1.2.1 hd ht (fun h => K1 h p e R s m args below meth c H locs cells slots ls E) (fun h => K2 h p e R s m args below meth c H locs cells slots ls E)
theorem go_icmp_ne {o : Int} {x y : Int32} {z2 : Nat} (hd : decode Y.2.1 pc = .ok (.if_icmp .ne o, 3)) (hz : pc + 3 = z2) (ht : (pc : Int) + o = (z : Int)) (K1 : ¬ x = y → Go l G Y D k j z lo st n i r Q) (K2 : x = y → Go l G Y D k j z2 lo st n i r Q) : Go l G Y D k j pc lo (.int y :: .int x :: st) n i r Q := by
  subst hz
  intro p e R s m args below meth c H locs cells slots ls E
  exact lv_icmp_ne E.1.1 E.1.2.1 hd ht (fun h => K1 h p e R s m args below meth c H locs cells slots ls E) (fun h => K2 h p e R s m args below meth c H locs cells slots ls E)
theorem go_if_lt {o : Int} {x : Int32} {z2 : Nat} (hd : decode Y.2.1 pc = .ok (.ifCond .lt o, 3)) (hz : pc + 3 = z2) (ht : (pc : Int) + o = (z : Int)) (K1 : x < 0 → Go l G Y D k j z lo st n i r Q) (K2 : ¬ x < 0 → Go l G Y D k j z2 lo st n i r Q) : Go l G Y D k j pc lo (.int x :: st) n i r Q := by
  subst hz
  intro p e R s m args below meth c H locs cells slots ls E
  exact lv_if_lt E.1.1 E.1.2.1 hd ht (fun h => K1 h p e R s m args below meth c H locs cells slots ls E) (fun h => K2 h p e R s m args below meth c H locs cells slots ls E)
theorem go_icmp_lt {o : Int} {x y : Int32} {z2 : Nat} (hd : decode Y.2.1 pc = .ok (.if_icmp .lt o, 3)) (hz : pc + 3 = z2) (ht : (pc : Int) + o = (z : Int)) (K1 : x < y → Go l G Y D k j z lo st n i r Q) (K2 : ¬ x < y → Go l G Y D k j z2 lo st n i r Q) : Go l G Y D k j pc lo (.int y :: .int x :: st) n i r Q := by
  subst hz
  intro p e R s m args below meth c H locs cells slots ls E
  exact lv_icmp_lt E.1.1 E.1.2.1 hd ht (fun h => K1 h p e R s m args below meth c H locs cells slots ls E) (fun h => K2 h p e R s m args below meth c H locs cells slots ls E)
theorem go_if_ge {o : Int} {x : Int32} {z2 : Nat} (hd : decode Y.2.1 pc = .ok (.ifCond .ge o, 3)) (hz : pc + 3 = z2) (ht : (pc : Int) + o = (z : Int)) (K1 : 0 ≤ x → Go l G Y D k j z lo st n i r Q) (K2 : ¬ 0 ≤ x → Go l G Y D k j z2 lo st n i r Q) : Go l G Y D k j pc lo (.int x :: st) n i r Q := by
  subst hz
  intro p e R s m args below meth c H locs cells slots ls E
  exact lv_if_ge E.1.1 E.1.2.1 hd ht (fun h => K1 h p e R s m args below meth c H locs cells slots ls E) (fun h => K2 h p e R s m args below meth c H locs cells slots ls E)
theorem go_icmp_ge {o : Int} {x y : Int32} {z2 : Nat} (hd : decode Y.2.1 pc = .ok (.if_icmp .ge o, 3)) (hz : pc + 3 = z2) (ht : (pc : Int) + o = (z : Int)) (K1 : y ≤ x → Go l G Y D k j z lo st n i r Q) (K2 : ¬ y ≤ x → Go l G Y D k j z2 lo st n i r Q) : Go l G Y D k j pc lo (.int y :: .int x :: st) n i r Q := by
  subst hz
  intro p e R s m args below meth c H locs cells slots ls E
  exact lv_icmp_ge E.1.1 E.1.2.1 hd ht (fun h => K1 h p e R s m args below meth c H locs cells slots ls E) (fun h => K2 h p e R s m args below meth c H locs cells slots ls E)
theorem go_if_gt {o : Int} {x : Int32} {z2 : Nat} (hd : decode Y.2.1 pc = .ok (.ifCond .gt o, 3)) (hz : pc + 3 = z2) (ht : (pc : Int) + o = (z : Int)) (K1 : 0 < x → Go l G Y D k j z lo st n i r Q) (K2 : ¬ 0 < x → Go l G Y D k j z2 lo st n i r Q) : Go l G Y D k j pc lo (.int x :: st) n i r Q := by
  subst hz
  intro p e R s m args below meth c H locs cells slots ls E
  exact lv_if_gt E.1.1 E.1.2.1 hd ht (fun h => K1 h p e R s m args below meth c H locs cells slots ls E) (fun h => K2 h p e R s m args below meth c H locs cells slots ls E)
theorem go_icmp_gt {o : Int} {x y : Int32} {z2 : Nat} (hd : decode Y.2.1 pc = .ok (.if_icmp .gt o, 3)) (hz : pc + 3 = z2) (ht : (pc : Int) + o = (z : Int)) (K1 : y < x → Go l G Y D k j z lo st n i r Q) (K2 : ¬ y < x → Go l G Y D k j z2 lo st n i r Q) : Go l G Y D k j pc lo (.int y :: .int x :: st) n i r Q := by
  subst hz
  intro p e R s m args below meth c H locs cells slots ls E
  exact lv_icmp_gt E.1.1 E.1.2.1 hd ht (fun h => K1 h p e R s m args below meth c H locs cells slots ls E) (fun h => K2 h p e R s m args below meth c H locs cells slots ls E)
theorem go_if_le {o : Int} {x : Int32} {z2 : Nat} (hd : decode Y.2.1 pc = .ok (.ifCond .le o, 3)) (hz : pc + 3 = z2) (ht : (pc : Int) + o = (z : Int)) (K1 : x ≤ 0 → Go l G Y D k j z lo st n i r Q) (K2 : ¬ x ≤ 0 → Go l G Y D k j z2 lo st n i r Q) : Go l G Y D k j pc lo (.int x :: st) n i r Q := by
  subst hz
  intro p e R s m args below meth c H locs cells slots ls E
  exact lv_if_le E.1.1 E.1.2.1 hd ht (fun h => K1 h p e R s m args below meth c H locs cells slots ls E) (fun h => K2 h p e R s m args below meth c H locs cells slots ls E)
theorem go_icmp_le {o : Int} {x y : Int32} {z2 : Nat} (hd : decode Y.2.1 pc = .ok (.if_icmp .le o, 3)) (hz : pc + 3 = z2) (ht : (pc : Int) + o = (z : Int)) (K1 : x ≤ y → Go l G Y D k j z lo st n i r Q) (K2 : ¬ x ≤ y → Go l G Y D k j z2 lo st n i r Q) : Go l G Y D k j pc lo (.int y :: .int x :: st) n i r Q := by
  subst hz
  intro p e R s m args below meth c H locs cells slots ls E
  exact lv_icmp_le E.1.1 E.1.2.1 hd ht (fun h => K1 h p e R s m args below meth c H locs cells slots ls E) (fun h => K2 h p e R s m args below meth c H locs cells slots ls E)
theorem go_ifnull {o : Int} {a : Option Nat} {z2 : Nat} (hd : decode Y.2.1 pc = .ok (.ifnull o, 3)) (hz : pc + 3 = z2) (ht : (pc : Int) + o = (z : Int)) (K1 : a = none → Go l G Y D k j z lo st n i r Q) (K2 : ∀ b, a = some b → Go l G Y D k j z2 lo st n i r Q) : Go l G Y D k j pc lo (va_rf a :: st) n i r Q := by
  subst hz
  intro p e R s m args below meth c H locs cells slots ls E
  cases a with
  | none => exact lv_ifnullN E.1.1 E.1.2.1 hd ht (K1 rfl p e R s m args below meth c H locs cells slots ls E)
  | some b => exact lv_ifnull E.1.1 E.1.2.1 hd (K2 b rfl p e R s m args below meth c H locs cells slots ls E)
theorem go_ifnonnull {o : Int} {a : Option Nat} {z2 : Nat} (hd : decode Y.2.1 pc = .ok (.ifnonnull o, 3)) (hz : pc + 3 = z2) (ht : (pc : Int) + o = (z : Int)) (K1 : ∀ b, a = some b → Go l G Y D k j z lo st n i r Q) (K2 : a = none → Go l G Y D k j z2 lo st n i r Q) : Go l G Y D k j pc lo (va_rf a :: st) n i r Q := by
  subst hz
  intro p e R s m args below meth c H locs cells slots ls E
  cases a with
  | none => exact lv_ifnonnullN E.1.1 E.1.2.1 hd (K2 rfl p e R s m args below meth c H locs cells slots ls E)
  | some b => exact lv_ifnonnull E.1.1 E.1.2.1 hd ht (K1 b rfl p e R s m args below meth c H locs cells slots ls E)
theorem go_tabOut {df a b : Int} {os : Array Int} {len : Nat} {x : Int32} (hd : decode Y.2.1 pc = .ok (.tableswitch df a b os, len)) (hx : x.toInt < a ∨ b < x.toInt) (ht : (pc : Int) + df = (z : Int)) (K : Go l G Y D k j z lo st n i r Q) : Go l G Y D k j pc lo (.int x :: st) n i r Q := by
  intro p e R s m args below meth c H locs cells slots ls E
  exact lv_tableOut E.1.1 E.1.2.1 hd hx ht (K p e R s m args below meth c H locs cells slots ls E)
theorem go_tabIn {df a b o : Int} {os : Array Int} {len : Nat} {x : Int32} (q : Int) (hd : decode Y.2.1 pc = .ok (.tableswitch df a b os, len)) (hx : x.toInt = q) (h1 : a ≤ q) (h2 : q ≤ b) (ho : os[(q - a).toNat]? = some o) (ht : (pc : Int) + o = (z : Int)) (K : Go l G Y D k j z lo st n i r Q) : Go l G Y D k j pc lo (.int x :: st) n i r Q := by
  intro p e R s m args below meth c H locs cells slots ls E
  exact lv_tableIn E.1.1 E.1.2.1 hd (by omega) (by omega) (by rw [hx]; exact ho) ht (K p e R s m args below meth c H locs cells slots ls E)
theorem go_eq {n' : Nat} {i' : IP} {r' : RP} (hi : i = i') (hr : r = r') (K : Go l G Y D k j pc lo st n i' r' Q) : Go l G Y D k j pc lo st n i r Q := by subst hi; subst hr; exact K
theorem go_post {Q' : QP} (K : Go l G Y D k j pc lo st n i r Q') (h : ∀ v n' i' r', Q' v n' i' r' → Q v n' i' r') : Go l G Y D k j pc lo st n i r Q := by
  intro p e R s m args below meth c H locs cells slots ls E T hT X
  obtain ⟨t, a, o, b1, b2, ⟨⟨v, n', i', r', c1, c2, c3⟩, c4⟩, b4⟩ := K p e R s m args below meth c H locs cells slots ls E T hT X
  exact ⟨t, a, o, b1, b2, ⟨⟨v, n', i', r', c1, c2, h _ _ _ _ c3⟩, c4⟩, b4⟩
theorem go_less {D' k' j' : Nat} (K : Go l G Y D' k' j' pc lo st n i r Q) (h1 : D' ≤ D) (h2 : k' ≤ k) (h3 : j' ≤ j) : Go l G Y D k j pc lo st n i r Q := by
  intro p e R s m args below meth c H locs cells slots ls ⟨C, ⟨b1, b2, b3, b4⟩, E⟩
  exact K p e R s m args below meth c H locs cells slots ls ⟨C, ⟨by omega, by omega, by omega, by omega⟩, E⟩
end GOROWS
/-! returns -/
section GORET
variable {l : Launch} {G : GG} {Y : AM} {D k j pc : Nat} {lo : List (Option Value)} {n : Nat} {i : IP} {r : RP} {Q : QP}
theorem go_iret {x : Int32} (hd : decode Y.2.1 pc = .ok (.ireturn, 1)) (hr : Y.2.2.2 = some .int) (hq : Q (some (.int x)) n i r) : Go l G Y D k j pc lo [.int x] n i r Q := by
  intro p e R s m args below meth c H locs cells slots ls ⟨C, B, A, L, S, hb⟩
  refine W.widen (k := R.cells) (n := R.slots) (by omega) (by omega) ?_
  have hlocks := C.2.2.2.2.2.2.1
  exact W.iret C.1 C.2.1 (C.2.2.1.trans hr) (fun t ht hW => ⟨⟨_, n, i, r, rfl, by rw [ht]; exact A.moved hW.alike, hq⟩, S.F ht⟩) S.2.2 hd
theorem go_zret {x : Int32} (hd : decode Y.2.1 pc = .ok (.ireturn, 1)) (hr : Y.2.2.2 = some .boolean) (hx : narrow .boolean (.int x) = .int x) (hq : Q (some (.int x)) n i r) : Go l G Y D k j pc lo [.int x] n i r Q := by
  intro p e R s m args below meth c H locs cells slots ls ⟨C, B, A, L, S, hb⟩
  refine W.widen (k := R.cells) (n := R.slots) (by omega) (by omega) ?_
  have hlocks := C.2.2.2.2.2.2.1
  exact W.zret C.1 C.2.1 (C.2.2.1.trans hr) hx (fun t ht hW => ⟨⟨_, n, i, r, rfl, by rw [ht]; exact A.moved hW.alike, hq⟩, S.F ht⟩) S.2.2 hd
theorem go_vret (hd : decode Y.2.1 pc = .ok (.return_, 1)) (hr : Y.2.2.2 = none) (hq : Q none n i r) : Go l G Y D k j pc lo [] n i r Q := by
  intro p e R s m args below meth c H locs cells slots ls ⟨C, B, A, L, S, hb⟩
  refine W.widen (k := R.cells) (n := R.slots) (by omega) (by omega) ?_
  have hlocks := C.2.2.2.2.2.2.1
  exact W.vret C.1 C.2.1 (C.2.2.1.trans hr) (fun t ht hW => ⟨⟨_, n, i, r, rfl, by rw [ht]; exact A.moved hW.alike, hq⟩, S.F ht⟩) S.2.2 hd
theorem go_aret {o : Option Nat} {rt : String} (hd : decode Y.2.1 pc = .ok (.areturn, 1)) (hr : Y.2.2.2 = some (.object rt)) (hq : Q (some (va_rf o)) n i r) : Go l G Y D k j pc lo [va_rf o] n i r Q := by
  intro p e R s m args below meth c H locs cells slots ls ⟨C, B, A, L, S, hb⟩
  refine W.widen (k := R.cells) (n := R.slots) (by omega) (by omega) ?_
  have hlocks := C.2.2.2.2.2.2.1
  exact W.aret C.1 C.2.1 (C.2.2.1.trans hr) (Or.inl ⟨_, rfl⟩) (by cases o with | none => exact Or.inl rfl | some a => exact Or.inr ⟨a, rfl⟩) (fun t ht hW => ⟨⟨_, n, i, r, rfl, by rw [ht]; exact A.moved hW.alike, hq⟩, S.F ht⟩) S.2.2 hd
end GORET
