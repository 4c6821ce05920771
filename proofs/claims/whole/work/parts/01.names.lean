-- ===== PART A: goes FIRST, ahead of the names: the tables' words, and 'selects' of the private methods out of them =====
/-- a private method of a class that the tables say can be made, by its rows of tables_1 -/
def lw_okq (q : MethodName × Nat) : Prop := (q.1.cls ≠ "java/lang/invoke/MethodHandle" ∧ q.1.cls ≠ "java/lang/invoke/VarHandle") ∧ Cond.instantiable q.1.cls q.2 ∈ tables_1 ∧ Cond.privateMethod q.1 ∈ tables_1 ∧ Cond.instanceMethod q.1 ∈ tables_1
theorem lw_p0 : lw_okq (⟨"CoinErrands", "changeWay", "(III)I"⟩, 9) := ⟨⟨by decide +kernel, by decide +kernel⟩, List.mem_of_getElem? (i := 10) (by decide +kernel), List.mem_of_getElem? (i := 240) (by decide +kernel), List.mem_of_getElem? (i := 241) (by decide +kernel)⟩
theorem lw_p1 : lw_okq (⟨"CoinErrands", "record", "()V"⟩, 9) := ⟨⟨by decide +kernel, by decide +kernel⟩, List.mem_of_getElem? (i := 10) (by decide +kernel), List.mem_of_getElem? (i := 248) (by decide +kernel), List.mem_of_getElem? (i := 249) (by decide +kernel)⟩
theorem lw_p2 : lw_okq (⟨"CoinErrands", "changePower", "(I)I"⟩, 9) := ⟨⟨by decide +kernel, by decide +kernel⟩, List.mem_of_getElem? (i := 10) (by decide +kernel), List.mem_of_getElem? (i := 284) (by decide +kernel), List.mem_of_getElem? (i := 285) (by decide +kernel)⟩
theorem lw_p3 : lw_okq (⟨"CoinErrands", "changeLeastPart", "(I)I"⟩, 9) := ⟨⟨by decide +kernel, by decide +kernel⟩, List.mem_of_getElem? (i := 10) (by decide +kernel), List.mem_of_getElem? (i := 288) (by decide +kernel), List.mem_of_getElem? (i := 289) (by decide +kernel)⟩
theorem lw_p4 : lw_okq (⟨"CoinErrands", "ticksUntil", "(Z)I"⟩, 9) := ⟨⟨by decide +kernel, by decide +kernel⟩, List.mem_of_getElem? (i := 10) (by decide +kernel), List.mem_of_getElem? (i := 561) (by decide +kernel), List.mem_of_getElem? (i := 562) (by decide +kernel)⟩
theorem lw_p5 : lw_okq (⟨"CoinErrands", "wouldAskWith", "(I)Z"⟩, 9) := ⟨⟨by decide +kernel, by decide +kernel⟩, List.mem_of_getElem? (i := 10) (by decide +kernel), List.mem_of_getElem? (i := 591) (by decide +kernel), List.mem_of_getElem? (i := 592) (by decide +kernel)⟩
theorem lw_p6 : lw_okq (⟨"CoinErrandsModel", "record", "()V"⟩, 13) := ⟨⟨by decide +kernel, by decide +kernel⟩, List.mem_of_getElem? (i := 607) (by decide +kernel), List.mem_of_getElem? (i := 663) (by decide +kernel), List.mem_of_getElem? (i := 664) (by decide +kernel)⟩
theorem lw_p7 : lw_okq (⟨"CoinErrandsModel", "readText", "()I"⟩, 13) := ⟨⟨by decide +kernel, by decide +kernel⟩, List.mem_of_getElem? (i := 607) (by decide +kernel), List.mem_of_getElem? (i := 687) (by decide +kernel), List.mem_of_getElem? (i := 688) (by decide +kernel)⟩
theorem lw_p8 : lw_okq (⟨"CoinErrandsModel", "readHead", "()Z"⟩, 13) := ⟨⟨by decide +kernel, by decide +kernel⟩, List.mem_of_getElem? (i := 607) (by decide +kernel), List.mem_of_getElem? (i := 691) (by decide +kernel), List.mem_of_getElem? (i := 692) (by decide +kernel)⟩
theorem lw_p9 : lw_okq (⟨"CoinErrandsModel", "isNext", "(II)Z"⟩, 13) := ⟨⟨by decide +kernel, by decide +kernel⟩, List.mem_of_getElem? (i := 607) (by decide +kernel), List.mem_of_getElem? (i := 695) (by decide +kernel), List.mem_of_getElem? (i := 696) (by decide +kernel)⟩
theorem lw_p10 : lw_okq (⟨"CoinErrandsModel", "takes", "(I)Z"⟩, 13) := ⟨⟨by decide +kernel, by decide +kernel⟩, List.mem_of_getElem? (i := 607) (by decide +kernel), List.mem_of_getElem? (i := 699) (by decide +kernel), List.mem_of_getElem? (i := 700) (by decide +kernel)⟩
theorem lw_p11 : lw_okq (⟨"CoinErrandsModel", "underWay", "()I"⟩, 13) := ⟨⟨by decide +kernel, by decide +kernel⟩, List.mem_of_getElem? (i := 607) (by decide +kernel), List.mem_of_getElem? (i := 703) (by decide +kernel), List.mem_of_getElem? (i := 704) (by decide +kernel)⟩
theorem lw_p12 : lw_okq (⟨"CoinErrandsModel", "ofErrand", "(II)I"⟩, 13) := ⟨⟨by decide +kernel, by decide +kernel⟩, List.mem_of_getElem? (i := 607) (by decide +kernel), List.mem_of_getElem? (i := 707) (by decide +kernel), List.mem_of_getElem? (i := 708) (by decide +kernel)⟩
theorem lw_p13 : lw_okq (⟨"CoinErrandsModel", "launchAll", "()I"⟩, 13) := ⟨⟨by decide +kernel, by decide +kernel⟩, List.mem_of_getElem? (i := 607) (by decide +kernel), List.mem_of_getElem? (i := 711) (by decide +kernel), List.mem_of_getElem? (i := 712) (by decide +kernel)⟩
theorem lw_p14 : lw_okq (⟨"CoinErrandsModel", "add", "(III)I"⟩, 13) := ⟨⟨by decide +kernel, by decide +kernel⟩, List.mem_of_getElem? (i := 607) (by decide +kernel), List.mem_of_getElem? (i := 715) (by decide +kernel), List.mem_of_getElem? (i := 716) (by decide +kernel)⟩
theorem lw_p15 : lw_okq (⟨"CoinErrandsModel", "setErrand", "(III)V"⟩, 13) := ⟨⟨by decide +kernel, by decide +kernel⟩, List.mem_of_getElem? (i := 607) (by decide +kernel), List.mem_of_getElem? (i := 719) (by decide +kernel), List.mem_of_getElem? (i := 720) (by decide +kernel)⟩
def lw_privs_1 : List (MethodName × Nat) := [(⟨"CoinErrands", "changeWay", "(III)I"⟩, 9), (⟨"CoinErrands", "record", "()V"⟩, 9), (⟨"CoinErrands", "changePower", "(I)I"⟩, 9), (⟨"CoinErrands", "changeLeastPart", "(I)I"⟩, 9), (⟨"CoinErrands", "ticksUntil", "(Z)I"⟩, 9), (⟨"CoinErrands", "wouldAskWith", "(I)Z"⟩, 9), (⟨"CoinErrandsModel", "record", "()V"⟩, 13), (⟨"CoinErrandsModel", "readText", "()I"⟩, 13), (⟨"CoinErrandsModel", "readHead", "()Z"⟩, 13), (⟨"CoinErrandsModel", "isNext", "(II)Z"⟩, 13), (⟨"CoinErrandsModel", "takes", "(I)Z"⟩, 13), (⟨"CoinErrandsModel", "underWay", "()I"⟩, 13), (⟨"CoinErrandsModel", "ofErrand", "(II)I"⟩, 13), (⟨"CoinErrandsModel", "launchAll", "()I"⟩, 13), (⟨"CoinErrandsModel", "add", "(III)I"⟩, 13), (⟨"CoinErrandsModel", "setErrand", "(III)V"⟩, 13)]
theorem lw_r1 : ∀ q ∈ lw_privs_1, lw_okq q := List.forall_mem_cons.mpr ⟨lw_p0, List.forall_mem_cons.mpr ⟨lw_p1, List.forall_mem_cons.mpr ⟨lw_p2, List.forall_mem_cons.mpr ⟨lw_p3, List.forall_mem_cons.mpr ⟨lw_p4, List.forall_mem_cons.mpr ⟨lw_p5, List.forall_mem_cons.mpr ⟨lw_p6, List.forall_mem_cons.mpr ⟨lw_p7, List.forall_mem_cons.mpr ⟨lw_p8, List.forall_mem_cons.mpr ⟨lw_p9, List.forall_mem_cons.mpr ⟨lw_p10, List.forall_mem_cons.mpr ⟨lw_p11, List.forall_mem_cons.mpr ⟨lw_p12, List.forall_mem_cons.mpr ⟨lw_p13, List.forall_mem_cons.mpr ⟨lw_p14, List.forall_mem_cons.mpr ⟨lw_p15, fun _ h => absurd h List.not_mem_nil⟩⟩⟩⟩⟩⟩⟩⟩⟩⟩⟩⟩⟩⟩⟩⟩
theorem lw_p16 : lw_okq (⟨"CoinErrandsModel", "mint", "()I"⟩, 13) := ⟨⟨by decide +kernel, by decide +kernel⟩, List.mem_of_getElem? (i := 607) (by decide +kernel), List.mem_of_getElem? (i := 723) (by decide +kernel), List.mem_of_getElem? (i := 724) (by decide +kernel)⟩
theorem lw_p17 : lw_okq (⟨"CoinErrandsModel", "send", "(IIIII)V"⟩, 13) := ⟨⟨by decide +kernel, by decide +kernel⟩, List.mem_of_getElem? (i := 607) (by decide +kernel), List.mem_of_getElem? (i := 727) (by decide +kernel), List.mem_of_getElem? (i := 728) (by decide +kernel)⟩
theorem lw_p18 : lw_okq (⟨"CoinErrandsModel", "timeBetween", "(II)I"⟩, 13) := ⟨⟨by decide +kernel, by decide +kernel⟩, List.mem_of_getElem? (i := 607) (by decide +kernel), List.mem_of_getElem? (i := 731) (by decide +kernel), List.mem_of_getElem? (i := 732) (by decide +kernel)⟩
theorem lw_p19 : lw_okq (⟨"CoinErrandsModel", "partsOfRead", "(I)I"⟩, 13) := ⟨⟨by decide +kernel, by decide +kernel⟩, List.mem_of_getElem? (i := 607) (by decide +kernel), List.mem_of_getElem? (i := 739) (by decide +kernel), List.mem_of_getElem? (i := 740) (by decide +kernel)⟩
theorem lw_p20 : lw_okq (⟨"CoinErrandsModel", "tick", "()V"⟩, 13) := ⟨⟨by decide +kernel, by decide +kernel⟩, List.mem_of_getElem? (i := 607) (by decide +kernel), List.mem_of_getElem? (i := 748) (by decide +kernel), List.mem_of_getElem? (i := 749) (by decide +kernel)⟩
theorem lw_p21 : lw_okq (⟨"CoinErrandsModel", "ofMessage", "(II)I"⟩, 13) := ⟨⟨by decide +kernel, by decide +kernel⟩, List.mem_of_getElem? (i := 607) (by decide +kernel), List.mem_of_getElem? (i := 752) (by decide +kernel), List.mem_of_getElem? (i := 753) (by decide +kernel)⟩
theorem lw_p22 : lw_okq (⟨"CoinErrandsModel", "arrive", "(I)V"⟩, 13) := ⟨⟨by decide +kernel, by decide +kernel⟩, List.mem_of_getElem? (i := 607) (by decide +kernel), List.mem_of_getElem? (i := 756) (by decide +kernel), List.mem_of_getElem? (i := 757) (by decide +kernel)⟩
theorem lw_p23 : lw_okq (⟨"CoinErrandsModel", "takeAway", "(I)V"⟩, 13) := ⟨⟨by decide +kernel, by decide +kernel⟩, List.mem_of_getElem? (i := 607) (by decide +kernel), List.mem_of_getElem? (i := 760) (by decide +kernel), List.mem_of_getElem? (i := 761) (by decide +kernel)⟩
theorem lw_p24 : lw_okq (⟨"CoinErrandsModel", "errandArrives", "(III)V"⟩, 13) := ⟨⟨by decide +kernel, by decide +kernel⟩, List.mem_of_getElem? (i := 607) (by decide +kernel), List.mem_of_getElem? (i := 764) (by decide +kernel), List.mem_of_getElem? (i := 765) (by decide +kernel)⟩
theorem lw_p25 : lw_okq (⟨"CoinErrandsModel", "setHouse", "(III)V"⟩, 13) := ⟨⟨by decide +kernel, by decide +kernel⟩, List.mem_of_getElem? (i := 607) (by decide +kernel), List.mem_of_getElem? (i := 768) (by decide +kernel), List.mem_of_getElem? (i := 769) (by decide +kernel)⟩
theorem lw_p26 : lw_okq (⟨"CoinErrandsModel", "addToHouse", "(III)V"⟩, 13) := ⟨⟨by decide +kernel, by decide +kernel⟩, List.mem_of_getElem? (i := 607) (by decide +kernel), List.mem_of_getElem? (i := 772) (by decide +kernel), List.mem_of_getElem? (i := 773) (by decide +kernel)⟩
theorem lw_p27 : lw_okq (⟨"CoinErrandsModel", "first", "(II)I"⟩, 13) := ⟨⟨by decide +kernel, by decide +kernel⟩, List.mem_of_getElem? (i := 607) (by decide +kernel), List.mem_of_getElem? (i := 776) (by decide +kernel), List.mem_of_getElem? (i := 777) (by decide +kernel)⟩
theorem lw_p28 : lw_okq (⟨"CoinErrandsModel", "sendWhatItCan", "(I)V"⟩, 13) := ⟨⟨by decide +kernel, by decide +kernel⟩, List.mem_of_getElem? (i := 607) (by decide +kernel), List.mem_of_getElem? (i := 780) (by decide +kernel), List.mem_of_getElem? (i := 781) (by decide +kernel)⟩
theorem lw_p29 : lw_okq (⟨"CoinErrandsModel", "firstWaiting", "(I)I"⟩, 13) := ⟨⟨by decide +kernel, by decide +kernel⟩, List.mem_of_getElem? (i := 607) (by decide +kernel), List.mem_of_getElem? (i := 784) (by decide +kernel), List.mem_of_getElem? (i := 785) (by decide +kernel)⟩
theorem lw_p30 : lw_okq (⟨"CoinErrandsModel", "ofHouse", "(II)I"⟩, 13) := ⟨⟨by decide +kernel, by decide +kernel⟩, List.mem_of_getElem? (i := 607) (by decide +kernel), List.mem_of_getElem? (i := 788) (by decide +kernel), List.mem_of_getElem? (i := 789) (by decide +kernel)⟩
theorem lw_p31 : lw_okq (⟨"CoinErrandsModel", "work", "(I)V"⟩, 13) := ⟨⟨by decide +kernel, by decide +kernel⟩, List.mem_of_getElem? (i := 607) (by decide +kernel), List.mem_of_getElem? (i := 792) (by decide +kernel), List.mem_of_getElem? (i := 793) (by decide +kernel)⟩
def lw_privs_2 : List (MethodName × Nat) := [(⟨"CoinErrandsModel", "mint", "()I"⟩, 13), (⟨"CoinErrandsModel", "send", "(IIIII)V"⟩, 13), (⟨"CoinErrandsModel", "timeBetween", "(II)I"⟩, 13), (⟨"CoinErrandsModel", "partsOfRead", "(I)I"⟩, 13), (⟨"CoinErrandsModel", "tick", "()V"⟩, 13), (⟨"CoinErrandsModel", "ofMessage", "(II)I"⟩, 13), (⟨"CoinErrandsModel", "arrive", "(I)V"⟩, 13), (⟨"CoinErrandsModel", "takeAway", "(I)V"⟩, 13), (⟨"CoinErrandsModel", "errandArrives", "(III)V"⟩, 13), (⟨"CoinErrandsModel", "setHouse", "(III)V"⟩, 13), (⟨"CoinErrandsModel", "addToHouse", "(III)V"⟩, 13), (⟨"CoinErrandsModel", "first", "(II)I"⟩, 13), (⟨"CoinErrandsModel", "sendWhatItCan", "(I)V"⟩, 13), (⟨"CoinErrandsModel", "firstWaiting", "(I)I"⟩, 13), (⟨"CoinErrandsModel", "ofHouse", "(II)I"⟩, 13), (⟨"CoinErrandsModel", "work", "(I)V"⟩, 13)]
theorem lw_r2 : ∀ q ∈ lw_privs_2, lw_okq q := List.forall_mem_cons.mpr ⟨lw_p16, List.forall_mem_cons.mpr ⟨lw_p17, List.forall_mem_cons.mpr ⟨lw_p18, List.forall_mem_cons.mpr ⟨lw_p19, List.forall_mem_cons.mpr ⟨lw_p20, List.forall_mem_cons.mpr ⟨lw_p21, List.forall_mem_cons.mpr ⟨lw_p22, List.forall_mem_cons.mpr ⟨lw_p23, List.forall_mem_cons.mpr ⟨lw_p24, List.forall_mem_cons.mpr ⟨lw_p25, List.forall_mem_cons.mpr ⟨lw_p26, List.forall_mem_cons.mpr ⟨lw_p27, List.forall_mem_cons.mpr ⟨lw_p28, List.forall_mem_cons.mpr ⟨lw_p29, List.forall_mem_cons.mpr ⟨lw_p30, List.forall_mem_cons.mpr ⟨lw_p31, fun _ h => absurd h List.not_mem_nil⟩⟩⟩⟩⟩⟩⟩⟩⟩⟩⟩⟩⟩⟩⟩⟩
theorem lw_p32 : lw_okq (⟨"CoinErrandsModel", "ranked", "(I)I"⟩, 13) := ⟨⟨by decide +kernel, by decide +kernel⟩, List.mem_of_getElem? (i := 607) (by decide +kernel), List.mem_of_getElem? (i := 800) (by decide +kernel), List.mem_of_getElem? (i := 801) (by decide +kernel)⟩
theorem lw_p33 : lw_okq (⟨"CoinErrandsModel", "drop", "(I)V"⟩, 13) := ⟨⟨by decide +kernel, by decide +kernel⟩, List.mem_of_getElem? (i := 607) (by decide +kernel), List.mem_of_getElem? (i := 804) (by decide +kernel), List.mem_of_getElem? (i := 805) (by decide +kernel)⟩
theorem lw_p34 : lw_okq (⟨"CoinErrandsModel", "isWithin", "(II)Z"⟩, 13) := ⟨⟨by decide +kernel, by decide +kernel⟩, List.mem_of_getElem? (i := 607) (by decide +kernel), List.mem_of_getElem? (i := 808) (by decide +kernel), List.mem_of_getElem? (i := 809) (by decide +kernel)⟩
theorem lw_p35 : lw_okq (⟨"CoinErrandsModel", "count", "(II)I"⟩, 13) := ⟨⟨by decide +kernel, by decide +kernel⟩, List.mem_of_getElem? (i := 607) (by decide +kernel), List.mem_of_getElem? (i := 843) (by decide +kernel), List.mem_of_getElem? (i := 844) (by decide +kernel)⟩
theorem lw_p36 : lw_okq (⟨"CoinErrandsModel", "waitingAt", "(II)I"⟩, 13) := ⟨⟨by decide +kernel, by decide +kernel⟩, List.mem_of_getElem? (i := 607) (by decide +kernel), List.mem_of_getElem? (i := 851) (by decide +kernel), List.mem_of_getElem? (i := 852) (by decide +kernel)⟩
theorem lw_p37 : lw_okq (⟨"CoinErrandsModel", "partsOf", "(I)I"⟩, 13) := ⟨⟨by decide +kernel, by decide +kernel⟩, List.mem_of_getElem? (i := 607) (by decide +kernel), List.mem_of_getElem? (i := 855) (by decide +kernel), List.mem_of_getElem? (i := 856) (by decide +kernel)⟩
theorem lw_p38 : lw_okq (⟨"CoinErrandsModel", "sizeOf", "(I)I"⟩, 13) := ⟨⟨by decide +kernel, by decide +kernel⟩, List.mem_of_getElem? (i := 607) (by decide +kernel), List.mem_of_getElem? (i := 859) (by decide +kernel), List.mem_of_getElem? (i := 860) (by decide +kernel)⟩
theorem lw_p39 : lw_okq (⟨"CoinErrandsModel", "sumOfHouses", "(I)I"⟩, 13) := ⟨⟨by decide +kernel, by decide +kernel⟩, List.mem_of_getElem? (i := 607) (by decide +kernel), List.mem_of_getElem? (i := 871) (by decide +kernel), List.mem_of_getElem? (i := 872) (by decide +kernel)⟩
theorem lw_p40 : lw_okq (⟨"CoinErrandsModel", "grainsOnWay", "()I"⟩, 13) := ⟨⟨by decide +kernel, by decide +kernel⟩, List.mem_of_getElem? (i := 607) (by decide +kernel), List.mem_of_getElem? (i := 875) (by decide +kernel), List.mem_of_getElem? (i := 876) (by decide +kernel)⟩
theorem lw_p41 : lw_okq (⟨"CoinErrandsModel", "isQuiet", "()Z"⟩, 13) := ⟨⟨by decide +kernel, by decide +kernel⟩, List.mem_of_getElem? (i := 607) (by decide +kernel), List.mem_of_getElem? (i := 879) (by decide +kernel), List.mem_of_getElem? (i := 880) (by decide +kernel)⟩
theorem lw_p42 : lw_okq (⟨"CoinErrandsModel", "isIdle", "()Z"⟩, 13) := ⟨⟨by decide +kernel, by decide +kernel⟩, List.mem_of_getElem? (i := 607) (by decide +kernel), List.mem_of_getElem? (i := 883) (by decide +kernel), List.mem_of_getElem? (i := 884) (by decide +kernel)⟩
theorem lw_p43 : lw_okq (⟨"CoinErrandsModel", "isEnough", "(I)Z"⟩, 13) := ⟨⟨by decide +kernel, by decide +kernel⟩, List.mem_of_getElem? (i := 607) (by decide +kernel), List.mem_of_getElem? (i := 899) (by decide +kernel), List.mem_of_getElem? (i := 900) (by decide +kernel)⟩
theorem lw_p44 : lw_okq (⟨"CoinErrandsModel", "beginAnew", "(I)V"⟩, 13) := ⟨⟨by decide +kernel, by decide +kernel⟩, List.mem_of_getElem? (i := 607) (by decide +kernel), List.mem_of_getElem? (i := 903) (by decide +kernel), List.mem_of_getElem? (i := 904) (by decide +kernel)⟩
def lw_privs_3 : List (MethodName × Nat) := [(⟨"CoinErrandsModel", "ranked", "(I)I"⟩, 13), (⟨"CoinErrandsModel", "drop", "(I)V"⟩, 13), (⟨"CoinErrandsModel", "isWithin", "(II)Z"⟩, 13), (⟨"CoinErrandsModel", "count", "(II)I"⟩, 13), (⟨"CoinErrandsModel", "waitingAt", "(II)I"⟩, 13), (⟨"CoinErrandsModel", "partsOf", "(I)I"⟩, 13), (⟨"CoinErrandsModel", "sizeOf", "(I)I"⟩, 13), (⟨"CoinErrandsModel", "sumOfHouses", "(I)I"⟩, 13), (⟨"CoinErrandsModel", "grainsOnWay", "()I"⟩, 13), (⟨"CoinErrandsModel", "isQuiet", "()Z"⟩, 13), (⟨"CoinErrandsModel", "isIdle", "()Z"⟩, 13), (⟨"CoinErrandsModel", "isEnough", "(I)Z"⟩, 13), (⟨"CoinErrandsModel", "beginAnew", "(I)V"⟩, 13)]
theorem lw_r3 : ∀ q ∈ lw_privs_3, lw_okq q := List.forall_mem_cons.mpr ⟨lw_p32, List.forall_mem_cons.mpr ⟨lw_p33, List.forall_mem_cons.mpr ⟨lw_p34, List.forall_mem_cons.mpr ⟨lw_p35, List.forall_mem_cons.mpr ⟨lw_p36, List.forall_mem_cons.mpr ⟨lw_p37, List.forall_mem_cons.mpr ⟨lw_p38, List.forall_mem_cons.mpr ⟨lw_p39, List.forall_mem_cons.mpr ⟨lw_p40, List.forall_mem_cons.mpr ⟨lw_p41, List.forall_mem_cons.mpr ⟨lw_p42, List.forall_mem_cons.mpr ⟨lw_p43, List.forall_mem_cons.mpr ⟨lw_p44, fun _ h => absurd h List.not_mem_nil⟩⟩⟩⟩⟩⟩⟩⟩⟩⟩⟩⟩⟩
def lw_privs : List (MethodName × Nat) := lw_privs_1 ++ (lw_privs_2 ++ (lw_privs_3))
def lw_tbl : List Cond := k2_sels lw_privs ++ tables_1
theorem lw_privs_ok : ∀ q ∈ lw_privs, lw_okq q := by
  show ∀ q ∈ lw_privs_1 ++ (lw_privs_2 ++ (lw_privs_3)), lw_okq q
  exact List.forall_mem_append.mpr ⟨lw_r1, List.forall_mem_append.mpr ⟨lw_r2, lw_r3⟩⟩
def RX0 : String := "CoinErrands$Errand"
def TX0 : u_T := fun k => match k with
  | 0 => ("CoinErrands$Errand", "house", "I", true)
  | 1 => ("CoinErrands$Errand", "work", "I", false)
  | 2 => ("CoinErrands$Errand", "parts", "I", false)
  | 3 => ("CoinErrands$Errand", "all", "I", false)
  | 4 => ("CoinErrands$Errand", "firstPart", "LCoinErrands$Errand;", false)
  | 5 => ("CoinErrands$Errand", "lastPart", "LCoinErrands$Errand;", false)
  | _ => ("CoinErrands$Errand", "nextPart", "LCoinErrands$Errand;", false)
def tyX0 : Nat → FieldType := fun k => match k with
  | 0 => .int
  | 1 => .int
  | 2 => .int
  | 3 => .int
  | 4 => .object "CoinErrands$Errand"
  | 5 => .object "CoinErrands$Errand"
  | _ => .object "CoinErrands$Errand"
abbrev wsX00 : List Cond := u_ws RX0 TX0 7
theorem nmX0 : ∀ a, a < 7 → ∀ b, b < 7 → a ≠ b → (TX0 a).2.1 ≠ (TX0 b).2.1 := by decide +kernel
theorem tyX0_ok : ∀ k, k < 7 → parseFieldDescriptor (TX0 k).2.2.1 = some (tyX0 k) := by decide +kernel
abbrev cX0_init : ByteArray := prog_2_method_1_code
def yX0_init : MethodName := ⟨RX0, "<init>", "(I)V"⟩
abbrev cX0_addPart : ByteArray := prog_2_method_2_code
def yX0_addPart : MethodName := ⟨RX0, "addPart", "(LCoinErrands$Errand;)V"⟩
abbrev cX0_tell : ByteArray := prog_2_method_3_code
def yX0_tell : MethodName := ⟨RX0, "tell", "(I)I"⟩
def RX1 : String := "CoinErrands$House"
def TX1 : u_T := fun k => match k with
  | 0 => ("CoinErrands$House", "isBusy", "Z", false)
  | 1 => ("CoinErrands$House", "grains", "I", false)
  | 2 => ("CoinErrands$House", "work", "I", false)
  | 3 => ("CoinErrands$House", "waits", "I", false)
  | 4 => ("CoinErrands$House", "isAskOut", "Z", false)
  | 5 => ("CoinErrands$House", "isAskLost", "Z", false)
  | 6 => ("CoinErrands$House", "arrived", "I", false)
  | 7 => ("CoinErrands$House", "sent", "I", false)
  | 8 => ("CoinErrands$House", "asks", "I", false)
  | 9 => ("CoinErrands$House", "idles", "I", false)
  | _ => ("CoinErrands$House", "line", "[LCoinErrands$Errand;", true)
def tyX1 : Nat → FieldType := fun k => match k with
  | 0 => .boolean
  | 1 => .int
  | 2 => .int
  | 3 => .int
  | 4 => .boolean
  | 5 => .boolean
  | 6 => .int
  | 7 => .int
  | 8 => .int
  | 9 => .int
  | _ => .array (.object "CoinErrands$Errand")
abbrev wsX10 : List Cond := u_ws RX1 TX1 11
theorem nmX1 : ∀ a, a < 11 → ∀ b, b < 11 → a ≠ b → (TX1 a).2.1 ≠ (TX1 b).2.1 := by decide +kernel
theorem tyX1_ok : ∀ k, k < 11 → parseFieldDescriptor (TX1 k).2.2.1 = some (tyX1 k) := by decide +kernel
abbrev cX1_init : ByteArray := prog_3_method_1_code
def yX1_init : MethodName := ⟨RX1, "<init>", "()V"⟩
abbrev cX1_makeNew : ByteArray := prog_3_method_2_code
def yX1_makeNew : MethodName := ⟨RX1, "makeNew", "()V"⟩
abbrev cX1_copyFrom : ByteArray := prog_3_method_3_code
def yX1_copyFrom : MethodName := ⟨RX1, "copyFrom", "(LCoinErrands$House;)V"⟩
abbrev cX1_takeIn : ByteArray := prog_3_method_4_code
def yX1_takeIn : MethodName := ⟨RX1, "takeIn", "(LCoinErrands$Errand;)V"⟩
abbrev cX1_lineUp : ByteArray := prog_3_method_5_code
def yX1_lineUp : MethodName := ⟨RX1, "lineUp", "(LCoinErrands$Errand;)V"⟩
abbrev cX1_waitingAt : ByteArray := prog_3_method_6_code
def yX1_waitingAt : MethodName := ⟨RX1, "waitingAt", "(I)LCoinErrands$Errand;"⟩
abbrev cX1_removeFirst : ByteArray := prog_3_method_7_code
def yX1_removeFirst : MethodName := ⟨RX1, "removeFirst", "()V"⟩
abbrev cX1_errandsWithin : ByteArray := prog_3_method_8_code
def yX1_errandsWithin : MethodName := ⟨RX1, "errandsWithin", "()I"⟩
abbrev cX1_isStuck : ByteArray := prog_3_method_9_code
def yX1_isStuck : MethodName := ⟨RX1, "isStuck", "()Z"⟩
abbrev cX1_tell : ByteArray := prog_3_method_10_code
def yX1_tell : MethodName := ⟨RX1, "tell", "(I)I"⟩
def RX2 : String := "CoinErrands$Message"
def TX2 : u_T := fun k => match k with
  | 0 => ("CoinErrands$Message", "kind", "I", false)
  | 1 => ("CoinErrands$Message", "from", "I", false)
  | 2 => ("CoinErrands$Message", "to", "I", false)
  | 3 => ("CoinErrands$Message", "grains", "I", false)
  | 4 => ("CoinErrands$Message", "arrives", "I", false)
  | _ => ("CoinErrands$Message", "errand", "LCoinErrands$Errand;", false)
def tyX2 : Nat → FieldType := fun k => match k with
  | 0 => .int
  | 1 => .int
  | 2 => .int
  | 3 => .int
  | 4 => .int
  | _ => .object "CoinErrands$Errand"
abbrev wsX20 : List Cond := u_ws RX2 TX2 6
theorem nmX2 : ∀ a, a < 6 → ∀ b, b < 6 → a ≠ b → (TX2 a).2.1 ≠ (TX2 b).2.1 := by decide +kernel
theorem tyX2_ok : ∀ k, k < 6 → parseFieldDescriptor (TX2 k).2.2.1 = some (tyX2 k) := by decide +kernel
abbrev cX2_init : ByteArray := prog_4_method_1_code
def yX2_init : MethodName := ⟨RX2, "<init>", "()V"⟩
abbrev cX2_copyFrom : ByteArray := prog_4_method_2_code
def yX2_copyFrom : MethodName := ⟨RX2, "copyFrom", "(LCoinErrands$Message;)V"⟩
abbrev cX2_errands : ByteArray := prog_4_method_3_code
def yX2_errands : MethodName := ⟨RX2, "errands", "()I"⟩
abbrev cX2_tell : ByteArray := prog_4_method_4_code
def yX2_tell : MethodName := ⟨RX2, "tell", "(II)I"⟩
def RX3 : String := "CoinErrands$Reader"
def TX3 : u_T := fun k => match k with
  | 0 => ("CoinErrands$Reader", "head", "[LCoinErrands$Errand;", true)
  | 1 => ("CoinErrands$Reader", "heads", "I", false)
  | 2 => ("CoinErrands$Reader", "latest", "[LCoinErrands$Errand;", true)
  | 3 => ("CoinErrands$Reader", "depth", "I", false)
  | 4 => ("CoinErrands$Reader", "due", "I", false)
  | 5 => ("CoinErrands$Reader", "all", "I", false)
  | 6 => ("CoinErrands$Reader", "allWork", "I", false)
  | 7 => ("CoinErrands$Reader", "greatestDepth", "I", false)
  | _ => ("CoinErrands$Reader", "mostParts", "I", false)
def tyX3 : Nat → FieldType := fun k => match k with
  | 0 => .array (.object "CoinErrands$Errand")
  | 1 => .int
  | 2 => .array (.object "CoinErrands$Errand")
  | 3 => .int
  | 4 => .int
  | 5 => .int
  | 6 => .int
  | 7 => .int
  | _ => .int
abbrev wsX30 : List Cond := u_ws RX3 TX3 9
theorem nmX3 : ∀ a, a < 9 → ∀ b, b < 9 → a ≠ b → (TX3 a).2.1 ≠ (TX3 b).2.1 := by decide +kernel
theorem tyX3_ok : ∀ k, k < 9 → parseFieldDescriptor (TX3 k).2.2.1 = some (tyX3 k) := by decide +kernel
abbrev cX3_init : ByteArray := prog_5_method_1_code
def yX3_init : MethodName := ⟨RX3, "<init>", "()V"⟩
abbrev cX3_read : ByteArray := prog_5_method_2_code
def yX3_read : MethodName := ⟨RX3, "read", "([CI)I"⟩
abbrev cX3_take : ByteArray := prog_5_method_3_code
def yX3_take : MethodName := ⟨RX3, "take", "(C)Z"⟩
abbrev cX3_takeHouse : ByteArray := prog_5_method_4_code
def yX3_takeHouse : MethodName := ⟨RX3, "takeHouse", "(C)Z"⟩
abbrev cX3_putInPlace : ByteArray := prog_5_method_5_code
def yX3_putInPlace : MethodName := ⟨RX3, "putInPlace", "(LCoinErrands$Errand;)Z"⟩
abbrev cX3_countWithin : ByteArray := prog_5_method_6_code
def yX3_countWithin : MethodName := ⟨RX3, "countWithin", "()V"⟩
abbrev cX3_takeDigit : ByteArray := prog_5_method_7_code
def yX3_takeDigit : MethodName := ⟨RX3, "takeDigit", "(C)Z"⟩
abbrev cX3_takeInWork : ByteArray := prog_5_method_8_code
def yX3_takeInWork : MethodName := ⟨RX3, "takeInWork", "(C)Z"⟩
abbrev cX3_isWorkZero : ByteArray := prog_5_method_9_code
def yX3_isWorkZero : MethodName := ⟨RX3, "isWorkZero", "()Z"⟩
abbrev cX3_takeAfter : ByteArray := prog_5_method_10_code
def yX3_takeAfter : MethodName := ⟨RX3, "takeAfter", "(C)Z"⟩
abbrev cX3_tell : ByteArray := prog_5_method_11_code
def yX3_tell : MethodName := ⟨RX3, "tell", "(I)I"⟩
def RX4 : String := "CoinErrands$State"
def TX4 : u_T := fun k => match k with
  | 0 => ("CoinErrands$State", "time", "I", false)
  | 1 => ("CoinErrands$State", "power", "I", false)
  | 2 => ("CoinErrands$State", "leastPart", "I", false)
  | 3 => ("CoinErrands$State", "ways", "[I", true)
  | 4 => ("CoinErrands$State", "houses", "[LCoinErrands$House;", true)
  | 5 => ("CoinErrands$State", "messages", "[LCoinErrands$Message;", true)
  | 6 => ("CoinErrands$State", "onTheirWay", "I", false)
  | 7 => ("CoinErrands$State", "minted", "I", false)
  | 8 => ("CoinErrands$State", "back", "I", false)
  | 9 => ("CoinErrands$State", "lost", "I", false)
  | 10 => ("CoinErrands$State", "launched", "I", false)
  | 11 => ("CoinErrands$State", "coins", "I", false)
  | 12 => ("CoinErrands$State", "messagesLost", "I", false)
  | _ => ("CoinErrands$State", "isSomethingLost", "Z", false)
def tyX4 : Nat → FieldType := fun k => match k with
  | 0 => .int
  | 1 => .int
  | 2 => .int
  | 3 => .array .int
  | 4 => .array (.object "CoinErrands$House")
  | 5 => .array (.object "CoinErrands$Message")
  | 6 => .int
  | 7 => .int
  | 8 => .int
  | 9 => .int
  | 10 => .int
  | 11 => .int
  | 12 => .int
  | _ => .boolean
abbrev wsX40 : List Cond := u_ws RX4 TX4 14
theorem nmX4 : ∀ a, a < 14 → ∀ b, b < 14 → a ≠ b → (TX4 a).2.1 ≠ (TX4 b).2.1 := by decide +kernel
theorem tyX4_ok : ∀ k, k < 14 → parseFieldDescriptor (TX4 k).2.2.1 = some (tyX4 k) := by decide +kernel
abbrev cX4_init : ByteArray := prog_6_method_1_code
def yX4_init : MethodName := ⟨RX4, "<init>", "()V"⟩
abbrev cX4_firstWay : ByteArray := prog_6_method_2_code
def yX4_firstWay : MethodName := ⟨RX4, "firstWay", "(II)I"⟩
abbrev cX4_copyFrom : ByteArray := prog_6_method_3_code
def yX4_copyFrom : MethodName := ⟨RX4, "copyFrom", "(LCoinErrands$State;)V"⟩
abbrev cX4_startAnew : ByteArray := prog_6_method_4_code
def yX4_startAnew : MethodName := ⟨RX4, "startAnew", "(LCoinErrands$State;I)V"⟩
abbrev cX4_copyWays : ByteArray := prog_6_method_5_code
def yX4_copyWays : MethodName := ⟨RX4, "copyWays", "(LCoinErrands$State;)V"⟩
abbrev cX4_way : ByteArray := prog_6_method_6_code
def yX4_way : MethodName := ⟨RX4, "way", "(II)I"⟩
abbrev cX4_putWay : ByteArray := prog_6_method_7_code
def yX4_putWay : MethodName := ⟨RX4, "putWay", "(III)V"⟩
abbrev cX4_mint : ByteArray := prog_6_method_8_code
def yX4_mint : MethodName := ⟨RX4, "mint", "()I"⟩
abbrev cX4_startErrands : ByteArray := prog_6_method_9_code
def yX4_startErrands : MethodName := ⟨RX4, "startErrands", "(LCoinErrands$Reader;)V"⟩
abbrev cX4_post : ByteArray := prog_6_method_10_code
def yX4_post : MethodName := ⟨RX4, "post", "(IIIILCoinErrands$Errand;)V"⟩
abbrev cX4_isOnItsWay : ByteArray := prog_6_method_11_code
def yX4_isOnItsWay : MethodName := ⟨RX4, "isOnItsWay", "(I)Z"⟩
abbrev cX4_takeOut : ByteArray := prog_6_method_12_code
def yX4_takeOut : MethodName := ⟨RX4, "takeOut", "(I)V"⟩
abbrev cX4_dropMessage : ByteArray := prog_6_method_13_code
def yX4_dropMessage : MethodName := ⟨RX4, "dropMessage", "(I)I"⟩
abbrev cX4_loseAskOf : ByteArray := prog_6_method_14_code
def yX4_loseAskOf : MethodName := ⟨RX4, "loseAskOf", "(I)V"⟩
abbrev cX4_replaceLost : ByteArray := prog_6_method_15_code
def yX4_replaceLost : MethodName := ⟨RX4, "replaceLost", "()I"⟩
abbrev cX4_tick : ByteArray := prog_6_method_16_code
def yX4_tick : MethodName := ⟨RX4, "tick", "()V"⟩
abbrev cX4_countArriving : ByteArray := prog_6_method_17_code
def yX4_countArriving : MethodName := ⟨RX4, "countArriving", "()I"⟩
abbrev cX4_arrive : ByteArray := prog_6_method_18_code
def yX4_arrive : MethodName := ⟨RX4, "arrive", "(LCoinErrands$Message;)V"⟩
abbrev cX4_sendWhatItCan : ByteArray := prog_6_method_19_code
def yX4_sendWhatItCan : MethodName := ⟨RX4, "sendWhatItCan", "(I)V"⟩
abbrev cX4_sendFirst : ByteArray := prog_6_method_20_code
def yX4_sendFirst : MethodName := ⟨RX4, "sendFirst", "(ILCoinErrands$House;)V"⟩
abbrev cX4_workIn : ByteArray := prog_6_method_21_code
def yX4_workIn : MethodName := ⟨RX4, "workIn", "(I)V"⟩
abbrev cX4_isQuiet : ByteArray := prog_6_method_22_code
def yX4_isQuiet : MethodName := ⟨RX4, "isQuiet", "()Z"⟩
abbrev cX4_isIdle : ByteArray := prog_6_method_23_code
def yX4_isIdle : MethodName := ⟨RX4, "isIdle", "()Z"⟩
abbrev cX4_isMoreThanGrainsOnItsWay : ByteArray := prog_6_method_24_code
def yX4_isMoreThanGrainsOnItsWay : MethodName := ⟨RX4, "isMoreThanGrainsOnItsWay", "()Z"⟩
abbrev cX4_isStuck : ByteArray := prog_6_method_25_code
def yX4_isStuck : MethodName := ⟨RX4, "isStuck", "()Z"⟩
abbrev cX4_hasAsked : ByteArray := prog_6_method_26_code
def yX4_hasAsked : MethodName := ⟨RX4, "hasAsked", "()Z"⟩
abbrev cX4_busyHouses : ByteArray := prog_6_method_27_code
def yX4_busyHouses : MethodName := ⟨RX4, "busyHouses", "()I"⟩
abbrev cX4_grainsInHouses : ByteArray := prog_6_method_28_code
def yX4_grainsInHouses : MethodName := ⟨RX4, "grainsInHouses", "()I"⟩
abbrev cX4_grainsOnTheirWay : ByteArray := prog_6_method_29_code
def yX4_grainsOnTheirWay : MethodName := ⟨RX4, "grainsOnTheirWay", "()I"⟩
abbrev cX4_errandsInAll : ByteArray := prog_6_method_30_code
def yX4_errandsInAll : MethodName := ⟨RX4, "errandsInAll", "()I"⟩
abbrev cX4_tell : ByteArray := prog_6_method_31_code
def yX4_tell : MethodName := ⟨RX4, "tell", "(I)I"⟩
def RX5 : String := "CoinErrands"
def TX5 : u_T := fun k => match k with
  | 0 => ("CoinErrands", "now", "LCoinErrands$State;", true)
  | 1 => ("CoinErrands", "snapshot", "LCoinErrands$State;", true)
  | 2 => ("CoinErrands", "trial", "LCoinErrands$State;", true)
  | 3 => ("CoinErrands", "history", "[LCoinErrands$State;", true)
  | 4 => ("CoinErrands", "states", "I", false)
  | 5 => ("CoinErrands", "kept", "Z", false)
  | 6 => ("CoinErrands", "text", "[C", true)
  | 7 => ("CoinErrands", "textLength", "I", false)
  | _ => ("CoinErrands", "reader", "LCoinErrands$Reader;", true)
def tyX5 : Nat → FieldType := fun k => match k with
  | 0 => .object "CoinErrands$State"
  | 1 => .object "CoinErrands$State"
  | 2 => .object "CoinErrands$State"
  | 3 => .array (.object "CoinErrands$State")
  | 4 => .int
  | 5 => .boolean
  | 6 => .array .char
  | 7 => .int
  | _ => .object "CoinErrands$Reader"
abbrev wsX50 : List Cond := u_ws RX5 TX5 9
theorem nmX5 : ∀ a, a < 9 → ∀ b, b < 9 → a ≠ b → (TX5 a).2.1 ≠ (TX5 b).2.1 := by decide +kernel
theorem tyX5_ok : ∀ k, k < 9 → parseFieldDescriptor (TX5 k).2.2.1 = some (tyX5 k) := by decide +kernel
abbrev cX5_init : ByteArray := prog_1_method_1_code
def yX5_init : MethodName := ⟨RX5, "<init>", "()V"⟩
abbrev cX5_setTime : ByteArray := prog_1_method_2_code
def yX5_setTime : MethodName := ⟨RX5, "setTime", "(III)I"⟩
abbrev cX5_setBankTime : ByteArray := prog_1_method_3_code
def yX5_setBankTime : MethodName := ⟨RX5, "setBankTime", "(II)I"⟩
abbrev cX5_set : ByteArray := prog_1_method_4_code
def yX5_set : MethodName := ⟨RX5, "set", "(II)I"⟩
abbrev cX5_launch : ByteArray := prog_1_method_5_code
def yX5_launch : MethodName := ⟨RX5, "launch", "()I"⟩
abbrev cX5_pass : ByteArray := prog_1_method_6_code
def yX5_pass : MethodName := ⟨RX5, "pass", "(I)I"⟩
abbrev cX5_lose : ByteArray := prog_1_method_7_code
def yX5_lose : MethodName := ⟨RX5, "lose", "(I)I"⟩
abbrev cX5_makeGood : ByteArray := prog_1_method_8_code
def yX5_makeGood : MethodName := ⟨RX5, "makeGood", "()I"⟩
abbrev cX5_type : ByteArray := prog_1_method_9_code
def yX5_type : MethodName := ⟨RX5, "type", "(C)I"⟩
abbrev cX5_clearText : ByteArray := prog_1_method_10_code
def yX5_clearText : MethodName := ⟨RX5, "clearText", "()I"⟩
abbrev cX5_undo : ByteArray := prog_1_method_11_code
def yX5_undo : MethodName := ⟨RX5, "undo", "()I"⟩
abbrev cX5_keep : ByteArray := prog_1_method_12_code
def yX5_keep : MethodName := ⟨RX5, "keep", "()I"⟩
abbrev cX5_restore : ByteArray := prog_1_method_13_code
def yX5_restore : MethodName := ⟨RX5, "restore", "()I"⟩
abbrev cX5_time : ByteArray := prog_1_method_14_code
def yX5_time : MethodName := ⟨RX5, "time", "(II)I"⟩
abbrev cX5_bankTime : ByteArray := prog_1_method_15_code
def yX5_bankTime : MethodName := ⟨RX5, "bankTime", "(I)I"⟩
abbrev cX5_house : ByteArray := prog_1_method_16_code
def yX5_house : MethodName := ⟨RX5, "house", "(II)I"⟩
abbrev cX5_waiting : ByteArray := prog_1_method_17_code
def yX5_waiting : MethodName := ⟨RX5, "waiting", "(III)I"⟩
abbrev cX5_message : ByteArray := prog_1_method_18_code
def yX5_message : MethodName := ⟨RX5, "message", "(II)I"⟩
abbrev cX5_total : ByteArray := prog_1_method_19_code
def yX5_total : MethodName := ⟨RX5, "total", "(I)I"⟩
abbrev cX5_quietIn : ByteArray := prog_1_method_20_code
def yX5_quietIn : MethodName := ⟨RX5, "quietIn", "()I"⟩
abbrev cX5_idleIn : ByteArray := prog_1_method_21_code
def yX5_idleIn : MethodName := ⟨RX5, "idleIn", "()I"⟩
abbrev cX5_planned : ByteArray := prog_1_method_22_code
def yX5_planned : MethodName := ⟨RX5, "planned", "(I)I"⟩
abbrev cX5_leastCoin : ByteArray := prog_1_method_23_code
def yX5_leastCoin : MethodName := ⟨RX5, "leastCoin", "()I"⟩
abbrev cX5_isHouse : ByteArray := prog_1_method_24_code
def yX5_isHouse : MethodName := ⟨RX5, "isHouse", "(I)Z"⟩
abbrev cX5_isWay : ByteArray := prog_1_method_25_code
def yX5_isWay : MethodName := ⟨RX5, "isWay", "(I)Z"⟩
abbrev cX5_changeWay : ByteArray := prog_1_method_26_code
def yX5_changeWay : MethodName := ⟨RX5, "changeWay", "(III)I"⟩
abbrev cX5_changePower : ByteArray := prog_1_method_27_code
def yX5_changePower : MethodName := ⟨RX5, "changePower", "(I)I"⟩
abbrev cX5_changeLeastPart : ByteArray := prog_1_method_28_code
def yX5_changeLeastPart : MethodName := ⟨RX5, "changeLeastPart", "(I)I"⟩
abbrev cX5_record : ByteArray := prog_1_method_29_code
def yX5_record : MethodName := ⟨RX5, "record", "()V"⟩
abbrev cX5_ticksUntil : ByteArray := prog_1_method_30_code
def yX5_ticksUntil : MethodName := ⟨RX5, "ticksUntil", "(Z)I"⟩
abbrev cX5_wouldAskWith : ByteArray := prog_1_method_31_code
def yX5_wouldAskWith : MethodName := ⟨RX5, "wouldAskWith", "(I)Z"⟩
def RX6 : String := "CoinErrandsModel"
def TX6 : u_T := fun k => match k with
  | 0 => ("CoinErrandsModel", "s", "[I", true)
  | 1 => ("CoinErrandsModel", "history", "[I", true)
  | 2 => ("CoinErrandsModel", "kept", "I", false)
  | 3 => ("CoinErrandsModel", "snapshot", "[I", true)
  | 4 => ("CoinErrandsModel", "isTaken", "Z", false)
  | 5 => ("CoinErrandsModel", "before", "[I", true)
  | 6 => ("CoinErrandsModel", "text", "[I", true)
  | 7 => ("CoinErrandsModel", "length", "I", false)
  | 8 => ("CoinErrandsModel", "read", "[I", true)
  | 9 => ("CoinErrandsModel", "many", "I", false)
  | 10 => ("CoinErrandsModel", "place", "I", false)
  | 11 => ("CoinErrandsModel", "depth", "I", false)
  | _ => ("CoinErrandsModel", "latest", "[I", true)
def tyX6 : Nat → FieldType := fun k => match k with
  | 0 => .array .int
  | 1 => .array .int
  | 2 => .int
  | 3 => .array .int
  | 4 => .boolean
  | 5 => .array .int
  | 6 => .array .int
  | 7 => .int
  | 8 => .array .int
  | 9 => .int
  | 10 => .int
  | 11 => .int
  | _ => .array .int
abbrev wsX60 : List Cond := u_ws RX6 TX6 13
theorem nmX6 : ∀ a, a < 13 → ∀ b, b < 13 → a ≠ b → (TX6 a).2.1 ≠ (TX6 b).2.1 := by decide +kernel
theorem tyX6_ok : ∀ k, k < 13 → parseFieldDescriptor (TX6 k).2.2.1 = some (tyX6 k) := by decide +kernel
abbrev cX6_init : ByteArray := prog_8_method_1_code
def yX6_init : MethodName := ⟨RX6, "<init>", "()V"⟩
abbrev cX6_in : ByteArray := prog_8_method_3_code
def yX6_in : MethodName := ⟨RX6, "in", "(III)Z"⟩
abbrev cX6_isHouse : ByteArray := prog_8_method_4_code
def yX6_isHouse : MethodName := ⟨RX6, "isHouse", "(I)Z"⟩
abbrev cX6_copy : ByteArray := prog_8_method_5_code
def yX6_copy : MethodName := ⟨RX6, "copy", "([I[I)V"⟩
abbrev cX6_record : ByteArray := prog_8_method_6_code
def yX6_record : MethodName := ⟨RX6, "record", "()V"⟩
abbrev cX6_ofHouse : ByteArray := prog_8_method_7_code
def yX6_ofHouse : MethodName := ⟨RX6, "ofHouse", "(II)I"⟩
abbrev cX6_setHouse : ByteArray := prog_8_method_8_code
def yX6_setHouse : MethodName := ⟨RX6, "setHouse", "(III)V"⟩
abbrev cX6_addToHouse : ByteArray := prog_8_method_9_code
def yX6_addToHouse : MethodName := ⟨RX6, "addToHouse", "(III)V"⟩
abbrev cX6_ofErrand : ByteArray := prog_8_method_10_code
def yX6_ofErrand : MethodName := ⟨RX6, "ofErrand", "(II)I"⟩
abbrev cX6_setErrand : ByteArray := prog_8_method_11_code
def yX6_setErrand : MethodName := ⟨RX6, "setErrand", "(III)V"⟩
abbrev cX6_ofMessage : ByteArray := prog_8_method_12_code
def yX6_ofMessage : MethodName := ⟨RX6, "ofMessage", "(II)I"⟩
abbrev cX6_first : ByteArray := prog_8_method_13_code
def yX6_first : MethodName := ⟨RX6, "first", "(II)I"⟩
abbrev cX6_firstWaiting : ByteArray := prog_8_method_14_code
def yX6_firstWaiting : MethodName := ⟨RX6, "firstWaiting", "(I)I"⟩
abbrev cX6_count : ByteArray := prog_8_method_15_code
def yX6_count : MethodName := ⟨RX6, "count", "(II)I"⟩
abbrev cX6_partsOf : ByteArray := prog_8_method_16_code
def yX6_partsOf : MethodName := ⟨RX6, "partsOf", "(I)I"⟩
abbrev cX6_isWithin : ByteArray := prog_8_method_17_code
def yX6_isWithin : MethodName := ⟨RX6, "isWithin", "(II)Z"⟩
abbrev cX6_sizeOf : ByteArray := prog_8_method_18_code
def yX6_sizeOf : MethodName := ⟨RX6, "sizeOf", "(I)I"⟩
abbrev cX6_underWay : ByteArray := prog_8_method_19_code
def yX6_underWay : MethodName := ⟨RX6, "underWay", "()I"⟩
abbrev cX6_drop : ByteArray := prog_8_method_20_code
def yX6_drop : MethodName := ⟨RX6, "drop", "(I)V"⟩
abbrev cX6_add : ByteArray := prog_8_method_21_code
def yX6_add : MethodName := ⟨RX6, "add", "(III)I"⟩
abbrev cX6_timeBetween : ByteArray := prog_8_method_22_code
def yX6_timeBetween : MethodName := ⟨RX6, "timeBetween", "(II)I"⟩
abbrev cX6_send : ByteArray := prog_8_method_23_code
def yX6_send : MethodName := ⟨RX6, "send", "(IIIII)V"⟩
abbrev cX6_takeAway : ByteArray := prog_8_method_24_code
def yX6_takeAway : MethodName := ⟨RX6, "takeAway", "(I)V"⟩
abbrev cX6_ranked : ByteArray := prog_8_method_25_code
def yX6_ranked : MethodName := ⟨RX6, "ranked", "(I)I"⟩
abbrev cX6_mint : ByteArray := prog_8_method_26_code
def yX6_mint : MethodName := ⟨RX6, "mint", "()I"⟩
abbrev cX6_sendWhatItCan : ByteArray := prog_8_method_27_code
def yX6_sendWhatItCan : MethodName := ⟨RX6, "sendWhatItCan", "(I)V"⟩
abbrev cX6_errandArrives : ByteArray := prog_8_method_28_code
def yX6_errandArrives : MethodName := ⟨RX6, "errandArrives", "(III)V"⟩
abbrev cX6_arrive : ByteArray := prog_8_method_29_code
def yX6_arrive : MethodName := ⟨RX6, "arrive", "(I)V"⟩
abbrev cX6_work : ByteArray := prog_8_method_30_code
def yX6_work : MethodName := ⟨RX6, "work", "(I)V"⟩
abbrev cX6_tick : ByteArray := prog_8_method_31_code
def yX6_tick : MethodName := ⟨RX6, "tick", "()V"⟩
abbrev cX6_sumOfHouses : ByteArray := prog_8_method_32_code
def yX6_sumOfHouses : MethodName := ⟨RX6, "sumOfHouses", "(I)I"⟩
abbrev cX6_grainsOnWay : ByteArray := prog_8_method_33_code
def yX6_grainsOnWay : MethodName := ⟨RX6, "grainsOnWay", "()I"⟩
abbrev cX6_isQuiet : ByteArray := prog_8_method_34_code
def yX6_isQuiet : MethodName := ⟨RX6, "isQuiet", "()Z"⟩
abbrev cX6_isIdle : ByteArray := prog_8_method_35_code
def yX6_isIdle : MethodName := ⟨RX6, "isIdle", "()Z"⟩
abbrev cX6_setTime : ByteArray := prog_8_method_36_code
def yX6_setTime : MethodName := ⟨RX6, "setTime", "(III)I"⟩
abbrev cX6_setBankTime : ByteArray := prog_8_method_37_code
def yX6_setBankTime : MethodName := ⟨RX6, "setBankTime", "(II)I"⟩
abbrev cX6_set : ByteArray := prog_8_method_38_code
def yX6_set : MethodName := ⟨RX6, "set", "(II)I"⟩
abbrev cX6_type : ByteArray := prog_8_method_39_code
def yX6_type : MethodName := ⟨RX6, "type", "(C)I"⟩
abbrev cX6_clearText : ByteArray := prog_8_method_40_code
def yX6_clearText : MethodName := ⟨RX6, "clearText", "()I"⟩
abbrev cX6_isNext : ByteArray := prog_8_method_41_code
def yX6_isNext : MethodName := ⟨RX6, "isNext", "(II)Z"⟩
abbrev cX6_takes : ByteArray := prog_8_method_42_code
def yX6_takes : MethodName := ⟨RX6, "takes", "(I)Z"⟩
abbrev cX6_readHead : ByteArray := prog_8_method_43_code
def yX6_readHead : MethodName := ⟨RX6, "readHead", "()Z"⟩
abbrev cX6_readText : ByteArray := prog_8_method_44_code
def yX6_readText : MethodName := ⟨RX6, "readText", "()I"⟩
abbrev cX6_launchAll : ByteArray := prog_8_method_45_code
def yX6_launchAll : MethodName := ⟨RX6, "launchAll", "()I"⟩
abbrev cX6_launch : ByteArray := prog_8_method_46_code
def yX6_launch : MethodName := ⟨RX6, "launch", "()I"⟩
abbrev cX6_partsOfRead : ByteArray := prog_8_method_47_code
def yX6_partsOfRead : MethodName := ⟨RX6, "partsOfRead", "(I)I"⟩
abbrev cX6_planned : ByteArray := prog_8_method_48_code
def yX6_planned : MethodName := ⟨RX6, "planned", "(I)I"⟩
abbrev cX6_pass : ByteArray := prog_8_method_49_code
def yX6_pass : MethodName := ⟨RX6, "pass", "(I)I"⟩
abbrev cX6_lose : ByteArray := prog_8_method_50_code
def yX6_lose : MethodName := ⟨RX6, "lose", "(I)I"⟩
abbrev cX6_makeGood : ByteArray := prog_8_method_51_code
def yX6_makeGood : MethodName := ⟨RX6, "makeGood", "()I"⟩
abbrev cX6_undo : ByteArray := prog_8_method_52_code
def yX6_undo : MethodName := ⟨RX6, "undo", "()I"⟩
abbrev cX6_keep : ByteArray := prog_8_method_53_code
def yX6_keep : MethodName := ⟨RX6, "keep", "()I"⟩
abbrev cX6_restore : ByteArray := prog_8_method_54_code
def yX6_restore : MethodName := ⟨RX6, "restore", "()I"⟩
abbrev cX6_time : ByteArray := prog_8_method_55_code
def yX6_time : MethodName := ⟨RX6, "time", "(II)I"⟩
abbrev cX6_bankTime : ByteArray := prog_8_method_56_code
def yX6_bankTime : MethodName := ⟨RX6, "bankTime", "(I)I"⟩
abbrev cX6_house : ByteArray := prog_8_method_57_code
def yX6_house : MethodName := ⟨RX6, "house", "(II)I"⟩
abbrev cX6_waitingAt : ByteArray := prog_8_method_58_code
def yX6_waitingAt : MethodName := ⟨RX6, "waitingAt", "(II)I"⟩
abbrev cX6_waiting : ByteArray := prog_8_method_59_code
def yX6_waiting : MethodName := ⟨RX6, "waiting", "(III)I"⟩
abbrev cX6_message : ByteArray := prog_8_method_60_code
def yX6_message : MethodName := ⟨RX6, "message", "(II)I"⟩
abbrev cX6_total : ByteArray := prog_8_method_61_code
def yX6_total : MethodName := ⟨RX6, "total", "(I)I"⟩
abbrev cX6_quietIn : ByteArray := prog_8_method_62_code
def yX6_quietIn : MethodName := ⟨RX6, "quietIn", "()I"⟩
abbrev cX6_idleIn : ByteArray := prog_8_method_63_code
def yX6_idleIn : MethodName := ⟨RX6, "idleIn", "()I"⟩
abbrev cX6_beginAnew : ByteArray := prog_8_method_64_code
def yX6_beginAnew : MethodName := ⟨RX6, "beginAnew", "(I)V"⟩
abbrev cX6_isEnough : ByteArray := prog_8_method_65_code
def yX6_isEnough : MethodName := ⟨RX6, "isEnough", "(I)Z"⟩
abbrev cX6_leastCoin : ByteArray := prog_8_method_66_code
def yX6_leastCoin : MethodName := ⟨RX6, "leastCoin", "()I"⟩
def RJ9 : String := "java/lang/Math"
abbrev cJ9_max_7cf53 : ByteArray := prog_9_method_65_code
def yJ9_max_7cf53 : MethodName := ⟨RJ9, "max", "(II)I"⟩
def RL : String := "CoinErrandsLaw"
abbrev cL_law : ByteArray := code
def yL_law : MethodName := ⟨RL, "law", "([I)Z"⟩
abbrev AM : Type := MethodName × ByteArray × Nat × Option FieldType
abbrev mX0_init : AM := (yX0_init, cX0_init, 2, none)
abbrev mX0_addPart : AM := (yX0_addPart, cX0_addPart, 2, none)
abbrev mX0_tell : AM := (yX0_tell, cX0_tell, 2, (some .int))
abbrev mX1_init : AM := (yX1_init, cX1_init, 1, none)
abbrev mX1_makeNew : AM := (yX1_makeNew, cX1_makeNew, 1, none)
abbrev mX1_copyFrom : AM := (yX1_copyFrom, cX1_copyFrom, 3, none)
abbrev mX1_lineUp : AM := (yX1_lineUp, cX1_lineUp, 2, none)
abbrev mX1_takeIn : AM := (yX1_takeIn, cX1_takeIn, 3, none)
abbrev mX1_waitingAt : AM := (yX1_waitingAt, cX1_waitingAt, 2, (some (.object "CoinErrands$Errand")))
abbrev mX1_removeFirst : AM := (yX1_removeFirst, cX1_removeFirst, 2, none)
abbrev mX1_errandsWithin : AM := (yX1_errandsWithin, cX1_errandsWithin, 3, (some .int))
abbrev mX1_isStuck : AM := (yX1_isStuck, cX1_isStuck, 1, (some .boolean))
abbrev mX1_tell : AM := (yX1_tell, cX1_tell, 2, (some .int))
abbrev mX2_init : AM := (yX2_init, cX2_init, 1, none)
abbrev mX2_copyFrom : AM := (yX2_copyFrom, cX2_copyFrom, 2, none)
abbrev mX2_errands : AM := (yX2_errands, cX2_errands, 1, (some .int))
abbrev mX2_tell : AM := (yX2_tell, cX2_tell, 3, (some .int))
abbrev mX3_init : AM := (yX3_init, cX3_init, 1, none)
abbrev mX3_countWithin : AM := (yX3_countWithin, cX3_countWithin, 2, none)
abbrev mX3_putInPlace : AM := (yX3_putInPlace, cX3_putInPlace, 3, (some .boolean))
abbrev mX3_takeHouse : AM := (yX3_takeHouse, cX3_takeHouse, 3, (some .boolean))
abbrev mX3_takeDigit : AM := (yX3_takeDigit, cX3_takeDigit, 4, (some .boolean))
abbrev mX3_isWorkZero : AM := (yX3_isWorkZero, cX3_isWorkZero, 1, (some .boolean))
abbrev mX3_takeAfter : AM := (yX3_takeAfter, cX3_takeAfter, 2, (some .boolean))
abbrev mX3_takeInWork : AM := (yX3_takeInWork, cX3_takeInWork, 2, (some .boolean))
abbrev mX3_take : AM := (yX3_take, cX3_take, 2, (some .boolean))
abbrev mX3_read : AM := (yX3_read, cX3_read, 4, (some .int))
abbrev mX3_tell : AM := (yX3_tell, cX3_tell, 2, (some .int))
abbrev mX4_firstWay : AM := (yX4_firstWay, cX4_firstWay, 2, (some .int))
abbrev mX4_init : AM := (yX4_init, cX4_init, 3, none)
abbrev mX4_copyWays : AM := (yX4_copyWays, cX4_copyWays, 3, none)
abbrev mX4_isOnItsWay : AM := (yX4_isOnItsWay, cX4_isOnItsWay, 2, (some .boolean))
abbrev mX4_copyFrom : AM := (yX4_copyFrom, cX4_copyFrom, 3, none)
abbrev mX4_startAnew : AM := (yX4_startAnew, cX4_startAnew, 7, none)
abbrev mX4_way : AM := (yX4_way, cX4_way, 4, (some .int))
abbrev mX4_putWay : AM := (yX4_putWay, cX4_putWay, 6, none)
abbrev mX4_mint : AM := (yX4_mint, cX4_mint, 2, (some .int))
abbrev mX4_post : AM := (yX4_post, cX4_post, 9, none)
abbrev mX4_startErrands : AM := (yX4_startErrands, cX4_startErrands, 4, none)
abbrev mX4_takeOut : AM := (yX4_takeOut, cX4_takeOut, 4, none)
abbrev mX5_isHouse : AM := (yX5_isHouse, cX5_isHouse, 1, (some .boolean))
abbrev mX4_loseAskOf : AM := (yX4_loseAskOf, cX4_loseAskOf, 2, none)
abbrev mX4_dropMessage : AM := (yX4_dropMessage, cX4_dropMessage, 4, (some .int))
abbrev mX4_sendFirst : AM := (yX4_sendFirst, cX4_sendFirst, 5, none)
abbrev mX4_sendWhatItCan : AM := (yX4_sendWhatItCan, cX4_sendWhatItCan, 4, none)
abbrev mX4_replaceLost : AM := (yX4_replaceLost, cX4_replaceLost, 3, (some .int))
abbrev mX4_countArriving : AM := (yX4_countArriving, cX4_countArriving, 2, (some .int))
abbrev mX4_arrive : AM := (yX4_arrive, cX4_arrive, 3, none)
abbrev mX4_workIn : AM := (yX4_workIn, cX4_workIn, 3, none)
abbrev mX4_tick : AM := (yX4_tick, cX4_tick, 3, none)
abbrev mX4_isQuiet : AM := (yX4_isQuiet, cX4_isQuiet, 1, (some .boolean))
abbrev mX4_busyHouses : AM := (yX4_busyHouses, cX4_busyHouses, 6, (some .int))
abbrev mX4_isMoreThanGrainsOnItsWay : AM := (yX4_isMoreThanGrainsOnItsWay, cX4_isMoreThanGrainsOnItsWay, 2, (some .boolean))
abbrev mX4_isIdle : AM := (yX4_isIdle, cX4_isIdle, 1, (some .boolean))
abbrev mX4_isStuck : AM := (yX4_isStuck, cX4_isStuck, 5, (some .boolean))
abbrev mX4_hasAsked : AM := (yX4_hasAsked, cX4_hasAsked, 5, (some .boolean))
abbrev mX4_grainsInHouses : AM := (yX4_grainsInHouses, cX4_grainsInHouses, 6, (some .int))
abbrev mX4_grainsOnTheirWay : AM := (yX4_grainsOnTheirWay, cX4_grainsOnTheirWay, 3, (some .int))
abbrev mX4_errandsInAll : AM := (yX4_errandsInAll, cX4_errandsInAll, 6, (some .int))
abbrev mX4_tell : AM := (yX4_tell, cX4_tell, 2, (some .int))
abbrev mX5_init : AM := (yX5_init, cX5_init, 2, none)
abbrev mX5_isWay : AM := (yX5_isWay, cX5_isWay, 1, (some .boolean))
abbrev mX5_record : AM := (yX5_record, cX5_record, 3, none)
abbrev mX5_changeWay : AM := (yX5_changeWay, cX5_changeWay, 5, (some .int))
abbrev mX5_setTime : AM := (yX5_setTime, cX5_setTime, 4, (some .int))
abbrev mX5_setBankTime : AM := (yX5_setBankTime, cX5_setBankTime, 3, (some .int))
abbrev mX5_changePower : AM := (yX5_changePower, cX5_changePower, 3, (some .int))
abbrev mX5_changeLeastPart : AM := (yX5_changeLeastPart, cX5_changeLeastPart, 3, (some .int))
abbrev mX5_set : AM := (yX5_set, cX5_set, 3, (some .int))
abbrev mX5_launch : AM := (yX5_launch, cX5_launch, 2, (some .int))
abbrev mX5_pass : AM := (yX5_pass, cX5_pass, 3, (some .int))
abbrev mX5_lose : AM := (yX5_lose, cX5_lose, 2, (some .int))
abbrev mX5_makeGood : AM := (yX5_makeGood, cX5_makeGood, 1, (some .int))
abbrev mX5_type : AM := (yX5_type, cX5_type, 2, (some .int))
abbrev mX5_clearText : AM := (yX5_clearText, cX5_clearText, 2, (some .int))
abbrev mX5_undo : AM := (yX5_undo, cX5_undo, 2, (some .int))
abbrev mX5_keep : AM := (yX5_keep, cX5_keep, 1, (some .int))
abbrev mX5_restore : AM := (yX5_restore, cX5_restore, 1, (some .int))
abbrev mX5_time : AM := (yX5_time, cX5_time, 3, (some .int))
abbrev mX5_bankTime : AM := (yX5_bankTime, cX5_bankTime, 2, (some .int))
abbrev mX5_house : AM := (yX5_house, cX5_house, 3, (some .int))
abbrev mX5_waiting : AM := (yX5_waiting, cX5_waiting, 5, (some .int))
abbrev mX5_message : AM := (yX5_message, cX5_message, 3, (some .int))
abbrev mX5_total : AM := (yX5_total, cX5_total, 2, (some .int))
abbrev mX5_ticksUntil : AM := (yX5_ticksUntil, cX5_ticksUntil, 3, (some .int))
abbrev mX5_quietIn : AM := (yX5_quietIn, cX5_quietIn, 1, (some .int))
abbrev mX5_idleIn : AM := (yX5_idleIn, cX5_idleIn, 1, (some .int))
abbrev mX5_planned : AM := (yX5_planned, cX5_planned, 3, (some .int))
abbrev mX5_wouldAskWith : AM := (yX5_wouldAskWith, cX5_wouldAskWith, 3, (some .boolean))
abbrev mX5_leastCoin : AM := (yX5_leastCoin, cX5_leastCoin, 3, (some .int))
abbrev mX6_init : AM := (yX6_init, cX6_init, 2, none)
abbrev mX6_in : AM := (yX6_in, cX6_in, 3, (some .boolean))
abbrev mX6_isHouse : AM := (yX6_isHouse, cX6_isHouse, 1, (some .boolean))
abbrev mX6_copy : AM := (yX6_copy, cX6_copy, 3, none)
abbrev mX6_record : AM := (yX6_record, cX6_record, 2, none)
abbrev mX6_ofHouse : AM := (yX6_ofHouse, cX6_ofHouse, 3, (some .int))
abbrev mX6_setHouse : AM := (yX6_setHouse, cX6_setHouse, 4, none)
abbrev mX6_addToHouse : AM := (yX6_addToHouse, cX6_addToHouse, 4, none)
abbrev mX6_ofErrand : AM := (yX6_ofErrand, cX6_ofErrand, 3, (some .int))
abbrev mX6_setErrand : AM := (yX6_setErrand, cX6_setErrand, 4, none)
abbrev mX6_ofMessage : AM := (yX6_ofMessage, cX6_ofMessage, 3, (some .int))
abbrev mX6_first : AM := (yX6_first, cX6_first, 6, (some .int))
abbrev mX6_firstWaiting : AM := (yX6_firstWaiting, cX6_firstWaiting, 2, (some .int))
abbrev mX6_count : AM := (yX6_count, cX6_count, 5, (some .int))
abbrev mX6_partsOf : AM := (yX6_partsOf, cX6_partsOf, 2, (some .int))
abbrev mX6_isWithin : AM := (yX6_isWithin, cX6_isWithin, 4, (some .boolean))
abbrev mX6_sizeOf : AM := (yX6_sizeOf, cX6_sizeOf, 4, (some .int))
abbrev mX6_underWay : AM := (yX6_underWay, cX6_underWay, 3, (some .int))
abbrev mX6_drop : AM := (yX6_drop, cX6_drop, 4, none)
abbrev mX6_add : AM := (yX6_add, cX6_add, 5, (some .int))
abbrev mX6_timeBetween : AM := (yX6_timeBetween, cX6_timeBetween, 3, (some .int))
abbrev mX6_send : AM := (yX6_send, cX6_send, 7, none)
abbrev mX6_takeAway : AM := (yX6_takeAway, cX6_takeAway, 3, none)
abbrev mX6_ranked : AM := (yX6_ranked, cX6_ranked, 6, (some .int))
abbrev mX6_mint : AM := (yX6_mint, cX6_mint, 2, (some .int))
abbrev mX6_sendWhatItCan : AM := (yX6_sendWhatItCan, cX6_sendWhatItCan, 4, none)
abbrev mX6_errandArrives : AM := (yX6_errandArrives, cX6_errandArrives, 5, none)
abbrev mX6_arrive : AM := (yX6_arrive, cX6_arrive, 7, none)
abbrev mX6_work : AM := (yX6_work, cX6_work, 3, none)
abbrev mX6_tick : AM := (yX6_tick, cX6_tick, 3, none)
abbrev mX6_sumOfHouses : AM := (yX6_sumOfHouses, cX6_sumOfHouses, 4, (some .int))
abbrev mX6_grainsOnWay : AM := (yX6_grainsOnWay, cX6_grainsOnWay, 3, (some .int))
abbrev mX6_isQuiet : AM := (yX6_isQuiet, cX6_isQuiet, 1, (some .boolean))
abbrev mX6_isIdle : AM := (yX6_isIdle, cX6_isIdle, 3, (some .boolean))
abbrev mX6_setTime : AM := (yX6_setTime, cX6_setTime, 5, (some .int))
abbrev mX6_setBankTime : AM := (yX6_setBankTime, cX6_setBankTime, 4, (some .int))
abbrev mX6_set : AM := (yX6_set, cX6_set, 4, (some .int))
abbrev mX6_type : AM := (yX6_type, cX6_type, 2, (some .int))
abbrev mX6_clearText : AM := (yX6_clearText, cX6_clearText, 2, (some .int))
abbrev mX6_isNext : AM := (yX6_isNext, cX6_isNext, 3, (some .boolean))
abbrev mX6_takes : AM := (yX6_takes, cX6_takes, 3, (some .boolean))
abbrev mX6_readHead : AM := (yX6_readHead, cX6_readHead, 3, (some .boolean))
abbrev mX6_readText : AM := (yX6_readText, cX6_readText, 3, (some .int))
abbrev mX6_launchAll : AM := (yX6_launchAll, cX6_launchAll, 5, (some .int))
abbrev mX6_launch : AM := (yX6_launch, cX6_launch, 2, (some .int))
abbrev mX6_partsOfRead : AM := (yX6_partsOfRead, cX6_partsOfRead, 5, (some .int))
abbrev mX6_planned : AM := (yX6_planned, cX6_planned, 7, (some .int))
abbrev mX6_pass : AM := (yX6_pass, cX6_pass, 3, (some .int))
abbrev mX6_lose : AM := (yX6_lose, cX6_lose, 6, (some .int))
abbrev mX6_makeGood : AM := (yX6_makeGood, cX6_makeGood, 3, (some .int))
abbrev mX6_undo : AM := (yX6_undo, cX6_undo, 2, (some .int))
abbrev mX6_keep : AM := (yX6_keep, cX6_keep, 1, (some .int))
abbrev mX6_restore : AM := (yX6_restore, cX6_restore, 1, (some .int))
abbrev mX6_time : AM := (yX6_time, cX6_time, 3, (some .int))
abbrev mX6_bankTime : AM := (yX6_bankTime, cX6_bankTime, 2, (some .int))
abbrev mX6_house : AM := (yX6_house, cX6_house, 3, (some .int))
abbrev mX6_waitingAt : AM := (yX6_waitingAt, cX6_waitingAt, 6, (some .int))
abbrev mX6_waiting : AM := (yX6_waiting, cX6_waiting, 5, (some .int))
abbrev mX6_message : AM := (yX6_message, cX6_message, 5, (some .int))
abbrev mX6_total : AM := (yX6_total, cX6_total, 2, (some .int))
abbrev mX6_quietIn : AM := (yX6_quietIn, cX6_quietIn, 2, (some .int))
abbrev mX6_idleIn : AM := (yX6_idleIn, cX6_idleIn, 2, (some .int))
abbrev mX6_beginAnew : AM := (yX6_beginAnew, cX6_beginAnew, 4, none)
abbrev mX6_isEnough : AM := (yX6_isEnough, cX6_isEnough, 4, (some .boolean))
abbrev mX6_leastCoin : AM := (yX6_leastCoin, cX6_leastCoin, 3, (some .int))
abbrev mL_law : AM := (yL_law, cL_law, 4, some .boolean)
def lw_gd : List Cond := lw_tbl.filter goodWord
theorem lw_in {w : Cond} (h : w ∈ lw_tbl) (g : goodWord w = true) : w ∈ lw_gd := List.mem_filter.mpr ⟨h, g⟩
theorem lw_gdIn {w : Cond} (h : w ∈ lw_gd) : w ∈ lw_tbl := (List.mem_filter.mp h).1
theorem lw_gdGood : ∀ w ∈ lw_gd, goodWord w = true := fun _ h => (List.mem_filter.mp h).2
theorem inX0 : ∀ w ∈ wsX00, w ∈ lw_gd := by decide +kernel
theorem inX1 : ∀ w ∈ wsX10, w ∈ lw_gd := by decide +kernel
theorem inX2 : ∀ w ∈ wsX20, w ∈ lw_gd := by decide +kernel
theorem inX3 : ∀ w ∈ wsX30, w ∈ lw_gd := by decide +kernel
theorem inX4 : ∀ w ∈ wsX40, w ∈ lw_gd := by decide +kernel
theorem inX5 : ∀ w ∈ wsX50, w ∈ lw_gd := by decide +kernel
theorem inX6 : ∀ w ∈ wsX60, w ∈ lw_gd := by decide +kernel
