theorem cX3_9 : Cond.classLink RX3 9 RX0 ∈ lw_gd := lw_in (List.mem_of_getElem? (i := 171) (by decide +kernel)) rfl
theorem ibX5 : Cond.instantiable RX5 9 ∈ lw_gd := lw_in (List.mem_of_getElem? (i := 14) (by decide +kernel)) rfl
theorem inX5z : Cond.initialized RX5 ∈ lw_gd := lw_in (List.mem_of_getElem? (i := 6) (by decide +kernel)) rfl
theorem ibX4 : Cond.instantiable RX4 14 ∈ lw_gd := lw_in (List.mem_of_getElem? (i := 22) (by decide +kernel)) rfl
theorem inX4z : Cond.initialized RX4 ∈ lw_gd := lw_in (List.mem_of_getElem? (i := 7) (by decide +kernel)) rfl
theorem ibX1 : Cond.instantiable RX1 11 ∈ lw_gd := lw_in (List.mem_of_getElem? (i := 34) (by decide +kernel)) rfl
theorem inX1z : Cond.initialized RX1 ∈ lw_gd := lw_in (List.mem_of_getElem? (i := 8) (by decide +kernel)) rfl
theorem ibX2 : Cond.instantiable RX2 6 ∈ lw_gd := lw_in (List.mem_of_getElem? (i := 85) (by decide +kernel)) rfl
theorem inX2z : Cond.initialized RX2 ∈ lw_gd := lw_in (List.mem_of_getElem? (i := 9) (by decide +kernel)) rfl
theorem ibX3 : Cond.instantiable RX3 9 ∈ lw_gd := lw_in (List.mem_of_getElem? (i := 166) (by decide +kernel)) rfl
theorem inX3z : Cond.initialized RX3 ∈ lw_gd := lw_in (List.mem_of_getElem? (i := 10) (by decide +kernel)) rfl
theorem ibX0 : Cond.instantiable RX0 7 ∈ lw_gd := lw_in (List.mem_of_getElem? (i := 519) (by decide +kernel)) rfl
theorem inX0z : Cond.initialized RX0 ∈ lw_gd := lw_in (List.mem_of_getElem? (i := 11) (by decide +kernel)) rfl
theorem ovX0 : ∀ U, Ex U → va_AO RX0 U := fun _ h => h.2.2.2.2.1
theorem ovX1 : ∀ U, Ex U → va_AO RX1 U := fun _ h => h.2.2.2.2.2.1
theorem ovX2 : ∀ U, Ex U → va_AO RX2 U := fun _ h => h.2.2.2.2.2.2.1
theorem ovX4 : ∀ U, Ex U → va_AO RX4 U := fun _ h => h.2.2.2.2.2.2.2
theorem ac_int : Cond.arrayClass (newarray.typeOf .int) ∈ lw_gd := lw_in (List.mem_of_getElem? (i := 84) (by decide +kernel)) rfl
theorem ac_char : Cond.arrayClass (newarray.typeOf .char) ∈ lw_gd := lw_in (List.mem_of_getElem? (i := 204) (by decide +kernel)) rfl
theorem kL_7 : Cond.constant RL 7 796540049 ∈ lw_gd := lw_in (List.mem_of_getElem? (i := 358) (by decide +kernel)) rfl
theorem kL_8 : Cond.constant RL 8 462310711 ∈ lw_gd := lw_in (List.mem_of_getElem? (i := 359) (by decide +kernel)) rfl
theorem kX5_83 : Cond.constant RX5 83 1000000 ∈ lw_gd := lw_in (List.mem_of_getElem? (i := 434) (by decide +kernel)) rfl
theorem kL_9 : Cond.constant RL 9 2147483647 ∈ lw_gd := lw_in (List.mem_of_getElem? (i := 445) (by decide +kernel)) rfl
