section
-- ===== PART A: goes FIRST, ahead of the names: the tables' words, and 'selects' of the private methods out of them =====
/-- a private method of a class that the tables say can be made, by its rows of tables_1 -/
def lw_okq (q : MethodName × Nat) : Prop := (q.1.cls ≠ "java/lang/invoke/MethodHandle" ∧ q.1.cls ≠ "java/lang/invoke/VarHandle") ∧ Cond.instantiable q.1.cls q.2 ∈ tables_1 ∧ Cond.privateMethod q.1 ∈ tables_1 ∧ Cond.instanceMethod q.1 ∈ tables_1
theorem lw_p0 : lw_okq (⟨"CoinErrands", "changeWay", "(III)I"⟩, 9) := ⟨⟨by decide +kernel, by decide +kernel⟩, List.mem_of_getElem? (i := 10) (by decide +kernel), List.mem_of_getElem? (i := 240) (by decide +kernel), List.mem_of_getElem? (i := 241) (by decide +kernel)⟩
theorem lw_p1 : lw_okq (⟨"CoinErrands", "record", "()V"⟩, 9) := ⟨⟨by decide +kernel, by decide +kernel⟩, List.mem_of_getElem? (i := 10) (by decide +kernel), List.mem_of_getElem? (i := 248) (by decide +kernel), List.mem_of_getElem? (i := 249) (by decide +kernel)⟩
theorem lw_p2 : lw_okq (⟨"CoinErrands", "changePower", "(I)I"⟩, 9) := ⟨⟨by decide +kernel, by decide +kernel⟩, List.mem_of_getElem? (i := 10) (by decide +kernel), List.mem_of_getElem? (i := 280) (by decide +kernel), List.mem_of_getElem? (i := 281) (by decide +kernel)⟩
theorem lw_p3 : lw_okq (⟨"CoinErrands", "changeLeastPart", "(I)I"⟩, 9) := ⟨⟨by decide +kernel, by decide +kernel⟩, List.mem_of_getElem? (i := 10) (by decide +kernel), List.mem_of_getElem? (i := 284) (by decide +kernel), List.mem_of_getElem? (i := 285) (by decide +kernel)⟩
theorem lw_p4 : lw_okq (⟨"CoinErrands", "ticksUntil", "(Z)I"⟩, 9) := ⟨⟨by decide +kernel, by decide +kernel⟩, List.mem_of_getElem? (i := 10) (by decide +kernel), List.mem_of_getElem? (i := 561) (by decide +kernel), List.mem_of_getElem? (i := 562) (by decide +kernel)⟩
theorem lw_p5 : lw_okq (⟨"CoinErrands", "wouldAskWith", "(I)Z"⟩, 9) := ⟨⟨by decide +kernel, by decide +kernel⟩, List.mem_of_getElem? (i := 10) (by decide +kernel), List.mem_of_getElem? (i := 591) (by decide +kernel), List.mem_of_getElem? (i := 592) (by decide +kernel)⟩
theorem lw_p6 : lw_okq (⟨"CoinErrandsModel", "record", "()V"⟩, 13) := ⟨⟨by decide +kernel, by decide +kernel⟩, List.mem_of_getElem? (i := 607) (by decide +kernel), List.mem_of_getElem? (i := 663) (by decide +kernel), List.mem_of_getElem? (i := 664) (by decide +kernel)⟩
theorem lw_p7 : lw_okq (⟨"CoinErrandsModel", "readText", "()I"⟩, 13) := ⟨⟨by decide +kernel, by decide +kernel⟩, List.mem_of_getElem? (i := 607) (by decide +kernel), List.mem_of_getElem? (i := 687) (by decide +kernel), List.mem_of_getElem? (i := 688) (by decide +kernel)⟩
theorem lw_p8 : lw_okq (⟨"CoinErrandsModel", "readHead", "()Z"⟩, 13) := ⟨⟨by decide +kernel, by decide +kernel⟩, List.mem_of_getElem? (i := 607) (by decide +kernel), List.mem_of_getElem? (i := 691) (by decide +kernel), List.mem_of_getElem? (i := 692) (by decide +kernel)⟩
theorem lw_p9 : lw_okq (⟨"CoinErrandsModel", "isNext", "(II)Z"⟩, 13) := ⟨⟨by decide +kernel, by decide +kernel⟩, List.mem_of_getElem? (i := 607) (by decide +kernel), List.mem_of_getElem? (i := 695) (by decide +kernel), List.mem_of_getElem? (i := 696) (by decide +kernel)⟩
theorem lw_p10 : lw_okq (⟨"CoinErrandsModel", "takes", "(I)Z"⟩, 13) := ⟨⟨by decide +kernel, by decide +kernel⟩, List.mem_of_getElem? (i := 607) (by decide +kernel), List.mem_of_getElem? (i := 699) (by decide +kernel), List.mem_of_getElem? (i := 700) (by decide +kernel)⟩
theorem lw_p11 : lw_okq (⟨"CoinErrandsModel", "underWay", "()I"⟩, 13) := ⟨⟨by decide +kernel, by decide +kernel⟩, List.mem_of_getElem? (i := 607) (by decide +kernel), List.mem_of_getElem? (i := 703) (by decide +kernel), List.mem_of_getElem? (i := 704) (by decide +kernel)⟩
theorem lw_p12 : lw_okq (⟨"CoinErrandsModel", "ofErrand", "(II)I"⟩, 13) := ⟨⟨by decide +kernel, by decide +kernel⟩, List.mem_of_getElem? (i := 607) (by decide +kernel), List.mem_of_getElem? (i := 707) (by decide +kernel), List.mem_of_getElem? (i := 708) (by decide +kernel)⟩
theorem lw_p13 : lw_okq (⟨"CoinErrandsModel", "launchAll", "()I"⟩, 13) := ⟨⟨by decide +kernel, by decide +kernel⟩, List.mem_of_getElem? (i := 607) (by decide +kernel), List.mem_of_getElem? (i := 711) (by decide +kernel), List.mem_of_getElem? (i := 712) (by decide +kernel)⟩
theorem lw_p14 : lw_okq (⟨"CoinErrandsModel", "add", "(III)I"⟩, 13) := ⟨⟨by decide +kernel, by decide +kernel⟩, List.mem_of_getElem? (i := 607) (by decide +kernel), List.mem_of_getElem? (i := 715) (by decide +kernel), List.mem_of_getElem? (i := 716) (by decide +kernel)⟩
theorem lw_p15 : lw_okq (⟨"CoinErrandsModel", "setErrand", "(III)V"⟩, 13) := ⟨⟨by decide +kernel, by decide +kernel⟩, List.mem_of_getElem? (i := 607) (by decide +kernel), List.mem_of_getElem? (i := 719) (by decide +kernel), List.mem_of_getElem? (i := 720) (by decide +kernel)⟩
def lw_privs_1 : List (MethodName × Nat) := [(⟨"CoinErrands", "changeWay", "(III)I"⟩, 9), (⟨"CoinErrands", "record", "()V"⟩, 9), (⟨"CoinErrands", "changePower", "(I)I"⟩, 9), (⟨"CoinErrands", "changeLeastPart", "(I)I"⟩, 9), (⟨"CoinErrands", "ticksUntil", "(Z)I"⟩, 9), (⟨"CoinErrands", "wouldAskWith", "(I)Z"⟩, 9), (⟨"CoinErrandsModel", "record", "()V"⟩, 13), (⟨"CoinErrandsModel", "readText", "()I"⟩, 13), (⟨"CoinErrandsModel", "readHead", "()Z"⟩, 13), (⟨"CoinErrandsModel", "isNext", "(II)Z"⟩, 13), (⟨"CoinErrandsModel", "takes", "(I)Z"⟩, 13), (⟨"CoinErrandsModel", "underWay", "()I"⟩, 13), (⟨"CoinErrandsModel", "ofErrand", "(II)I"⟩, 13), (⟨"CoinErrandsModel", "launchAll", "()I"⟩, 13), (⟨"CoinErrandsModel", "add", "(III)I"⟩, 13), (⟨"CoinErrandsModel", "setErrand", "(III)V"⟩, 13)]
theorem lw_r1 : ∀ q ∈ lw_privs_1, lw_okq q := List.forall_mem_cons.mpr ⟨lw_p0, List.forall_mem_cons.mpr ⟨lw_p1, List.forall_mem_cons.mpr ⟨lw_p2, List.forall_mem_cons.mpr ⟨lw_p3, List.forall_mem_cons.mpr ⟨lw_p4, List.forall_mem_cons.mpr ⟨lw_p5, List.forall_mem_cons.mpr ⟨lw_p6, List.forall_mem_cons.mpr ⟨lw_p7, List.forall_mem_cons.mpr ⟨lw_p8, List.forall_mem_cons.mpr ⟨lw_p9, List.forall_mem_cons.mpr ⟨lw_p10, List.forall_mem_cons.mpr ⟨lw_p11, List.forall_mem_cons.mpr ⟨lw_p12, List.forall_mem_cons.mpr ⟨lw_p13, List.forall_mem_cons.mpr ⟨lw_p14, List.forall_mem_cons.mpr ⟨lw_p15, fun _ h => absurd h List.not_mem_nil⟩⟩⟩⟩⟩⟩⟩⟩⟩⟩⟩⟩⟩⟩⟩⟩
theorem lw_p16 : lw_okq (⟨"CoinErrandsModel", "mint", "()I"⟩, 13) := ⟨⟨by decide +kernel, by decide +kernel⟩, List.mem_of_getElem? (i := 607) (by decide +kernel), List.mem_of_getElem? (i := 723) (by decide +kernel), List.mem_of_getElem? (i := 724) (by decide +kernel)⟩
theorem lw_p17 : lw_okq (⟨"CoinErrandsModel", "send", "(IIIII)V"⟩, 13) := ⟨⟨by decide +kernel, by decide +kernel⟩, List.mem_of_getElem? (i := 607) (by decide +kernel), List.mem_of_getElem? (i := 727) (by decide +kernel), List.mem_of_getElem? (i := 728) (by decide +kernel)⟩
theorem lw_p18 : lw_okq (⟨"CoinErrandsModel", "timeBetween", "(II)I"⟩, 13) := ⟨⟨by decide +kernel, by decide +kernel⟩, List.mem_of_getElem? (i := 607) (by decide +kernel), List.mem_of_getElem? (i := 731) (by decide +kernel), List.mem_of_getElem? (i := 732) (by decide +kernel)⟩
theorem lw_p19 : lw_okq (⟨"CoinErrandsModel", "partsOfRead", "(I)I"⟩, 13) := ⟨⟨by decide +kernel, by decide +kernel⟩, List.mem_of_getElem? (i := 607) (by decide +kernel), List.mem_of_getElem? (i := 739) (by decide +kernel), List.mem_of_getElem? (i := 740) (by decide +kernel)⟩
theorem lw_p20 : lw_okq (⟨"CoinErrandsModel", "tick", "()V"⟩, 13) := ⟨⟨by decide +kernel, by decide +kernel⟩, List.mem_of_getElem? (i := 607) (by decide +kernel), List.mem_of_getElem? (i := 748) (by decide +kernel), List.mem_of_getElem? (i := 749) (by decide +kernel)⟩
theorem lw_p21 : lw_okq (⟨"CoinErrandsModel", "ofMessage", "(II)I"⟩, 13) := ⟨⟨by decide +kernel, by decide +kernel⟩, List.mem_of_getElem? (i := 607) (by decide +kernel), List.mem_of_getElem? (i := 752) (by decide +kernel), List.mem_of_getElem? (i := 753) (by decide +kernel)⟩
theorem lw_p22 : lw_okq (⟨"CoinErrandsModel", "arrive", "(I)V"⟩, 13) := ⟨⟨by decide +kernel, by decide +kernel⟩, List.mem_of_getElem? (i := 607) (by decide +kernel), List.mem_of_getElem? (i := 756) (by decide +kernel), List.mem_of_getElem? (i := 757) (by decide +kernel)⟩
theorem lw_p23 : lw_okq (⟨"CoinErrandsModel", "takeAway", "(I)V"⟩, 13) := ⟨⟨by decide +kernel, by decide +kernel⟩, List.mem_of_getElem? (i := 607) (by decide +kernel), List.mem_of_getElem? (i := 760) (by decide +kernel), List.mem_of_getElem? (i := 761) (by decide +kernel)⟩
theorem lw_p24 : lw_okq (⟨"CoinErrandsModel", "errandArrives", "(III)V"⟩, 13) := ⟨⟨by decide +kernel, by decide +kernel⟩, List.mem_of_getElem? (i := 607) (by decide +kernel), List.mem_of_getElem? (i := 764) (by decide +kernel), List.mem_of_getElem? (i := 765) (by decide +kernel)⟩
theorem lw_p25 : lw_okq (⟨"CoinErrandsModel", "setHouse", "(III)V"⟩, 13) := ⟨⟨by decide +kernel, by decide +kernel⟩, List.mem_of_getElem? (i := 607) (by decide +kernel), List.mem_of_getElem? (i := 768) (by decide +kernel), List.mem_of_getElem? (i := 769) (by decide +kernel)⟩
theorem lw_p26 : lw_okq (⟨"CoinErrandsModel", "addToHouse", "(III)V"⟩, 13) := ⟨⟨by decide +kernel, by decide +kernel⟩, List.mem_of_getElem? (i := 607) (by decide +kernel), List.mem_of_getElem? (i := 772) (by decide +kernel), List.mem_of_getElem? (i := 773) (by decide +kernel)⟩
theorem lw_p27 : lw_okq (⟨"CoinErrandsModel", "first", "(II)I"⟩, 13) := ⟨⟨by decide +kernel, by decide +kernel⟩, List.mem_of_getElem? (i := 607) (by decide +kernel), List.mem_of_getElem? (i := 776) (by decide +kernel), List.mem_of_getElem? (i := 777) (by decide +kernel)⟩
theorem lw_p28 : lw_okq (⟨"CoinErrandsModel", "sendWhatItCan", "(I)V"⟩, 13) := ⟨⟨by decide +kernel, by decide +kernel⟩, List.mem_of_getElem? (i := 607) (by decide +kernel), List.mem_of_getElem? (i := 780) (by decide +kernel), List.mem_of_getElem? (i := 781) (by decide +kernel)⟩
theorem lw_p29 : lw_okq (⟨"CoinErrandsModel", "firstWaiting", "(I)I"⟩, 13) := ⟨⟨by decide +kernel, by decide +kernel⟩, List.mem_of_getElem? (i := 607) (by decide +kernel), List.mem_of_getElem? (i := 784) (by decide +kernel), List.mem_of_getElem? (i := 785) (by decide +kernel)⟩
theorem lw_p30 : lw_okq (⟨"CoinErrandsModel", "ofHouse", "(II)I"⟩, 13) := ⟨⟨by decide +kernel, by decide +kernel⟩, List.mem_of_getElem? (i := 607) (by decide +kernel), List.mem_of_getElem? (i := 788) (by decide +kernel), List.mem_of_getElem? (i := 789) (by decide +kernel)⟩
theorem lw_p31 : lw_okq (⟨"CoinErrandsModel", "work", "(I)V"⟩, 13) := ⟨⟨by decide +kernel, by decide +kernel⟩, List.mem_of_getElem? (i := 607) (by decide +kernel), List.mem_of_getElem? (i := 792) (by decide +kernel), List.mem_of_getElem? (i := 793) (by decide +kernel)⟩
def lw_privs_2 : List (MethodName × Nat) := [(⟨"CoinErrandsModel", "mint", "()I"⟩, 13), (⟨"CoinErrandsModel", "send", "(IIIII)V"⟩, 13), (⟨"CoinErrandsModel", "timeBetween", "(II)I"⟩, 13), (⟨"CoinErrandsModel", "partsOfRead", "(I)I"⟩, 13), (⟨"CoinErrandsModel", "tick", "()V"⟩, 13), (⟨"CoinErrandsModel", "ofMessage", "(II)I"⟩, 13), (⟨"CoinErrandsModel", "arrive", "(I)V"⟩, 13), (⟨"CoinErrandsModel", "takeAway", "(I)V"⟩, 13), (⟨"CoinErrandsModel", "errandArrives", "(III)V"⟩, 13), (⟨"CoinErrandsModel", "setHouse", "(III)V"⟩, 13), (⟨"CoinErrandsModel", "addToHouse", "(III)V"⟩, 13), (⟨"CoinErrandsModel", "first", "(II)I"⟩, 13), (⟨"CoinErrandsModel", "sendWhatItCan", "(I)V"⟩, 13), (⟨"CoinErrandsModel", "firstWaiting", "(I)I"⟩, 13), (⟨"CoinErrandsModel", "ofHouse", "(II)I"⟩, 13), (⟨"CoinErrandsModel", "work", "(I)V"⟩, 13)]
theorem lw_r2 : ∀ q ∈ lw_privs_2, lw_okq q := List.forall_mem_cons.mpr ⟨lw_p16, List.forall_mem_cons.mpr ⟨lw_p17, List.forall_mem_cons.mpr ⟨lw_p18, List.forall_mem_cons.mpr ⟨lw_p19, List.forall_mem_cons.mpr ⟨lw_p20, List.forall_mem_cons.mpr ⟨lw_p21, List.forall_mem_cons.mpr ⟨lw_p22, List.forall_mem_cons.mpr ⟨lw_p23, List.forall_mem_cons.mpr ⟨lw_p24, List.forall_mem_cons.mpr ⟨lw_p25, List.forall_mem_cons.mpr ⟨lw_p26, List.forall_mem_cons.mpr ⟨lw_p27, List.forall_mem_cons.mpr ⟨lw_p28, List.forall_mem_cons.mpr ⟨lw_p29, List.forall_mem_cons.mpr ⟨lw_p30, List.forall_mem_cons.mpr ⟨lw_p31, fun _ h => absurd h List.not_mem_nil⟩⟩⟩⟩⟩⟩⟩⟩⟩⟩⟩⟩⟩⟩⟩⟩
theorem lw_p32 : lw_okq (⟨"CoinErrandsModel", "ranked", "(I)I"⟩, 13) := ⟨⟨by decide +kernel, by decide +kernel⟩, List.mem_of_getElem? (i := 607) (by decide +kernel), List.mem_of_getElem? (i := 800) (by decide +kernel), List.mem_of_getElem? (i := 801) (by decide +kernel)⟩
theorem lw_p33 : lw_okq (⟨"CoinErrandsModel", "drop", "(I)V"⟩, 13) := ⟨⟨by decide +kernel, by decide +kernel⟩, List.mem_of_getElem? (i := 607) (by decide +kernel), List.mem_of_getElem? (i := 804) (by decide +kernel), List.mem_of_getElem? (i := 805) (by decide +kernel)⟩
theorem lw_p34 : lw_okq (⟨"CoinErrandsModel", "isWithin", "(II)Z"⟩, 13) := ⟨⟨by decide +kernel, by decide +kernel⟩, List.mem_of_getElem? (i := 607) (by decide +kernel), List.mem_of_getElem? (i := 808) (by decide +kernel), List.mem_of_getElem? (i := 809) (by decide +kernel)⟩
theorem lw_p35 : lw_okq (⟨"CoinErrandsModel", "count", "(II)I"⟩, 13) := ⟨⟨by decide +kernel, by decide +kernel⟩, List.mem_of_getElem? (i := 607) (by decide +kernel), List.mem_of_getElem? (i := 843) (by decide +kernel), List.mem_of_getElem? (i := 844) (by decide +kernel)⟩
theorem lw_p36 : lw_okq (⟨"CoinErrandsModel", "waitingAt", "(II)I"⟩, 13) := ⟨⟨by decide +kernel, by decide +kernel⟩, List.mem_of_getElem? (i := 607) (by decide +kernel), List.mem_of_getElem? (i := 851) (by decide +kernel), List.mem_of_getElem? (i := 852) (by decide +kernel)⟩
theorem lw_p37 : lw_okq (⟨"CoinErrandsModel", "partsOf", "(I)I"⟩, 13) := ⟨⟨by decide +kernel, by decide +kernel⟩, List.mem_of_getElem? (i := 607) (by decide +kernel), List.mem_of_getElem? (i := 855) (by decide +kernel), List.mem_of_getElem? (i := 856) (by decide +kernel)⟩
theorem lw_p38 : lw_okq (⟨"CoinErrandsModel", "sizeOf", "(I)I"⟩, 13) := ⟨⟨by decide +kernel, by decide +kernel⟩, List.mem_of_getElem? (i := 607) (by decide +kernel), List.mem_of_getElem? (i := 859) (by decide +kernel), List.mem_of_getElem? (i := 860) (by decide +kernel)⟩
theorem lw_p39 : lw_okq (⟨"CoinErrandsModel", "sumOfHouses", "(I)I"⟩, 13) := ⟨⟨by decide +kernel, by decide +kernel⟩, List.mem_of_getElem? (i := 607) (by decide +kernel), List.mem_of_getElem? (i := 871) (by decide +kernel), List.mem_of_getElem? (i := 872) (by decide +kernel)⟩
theorem lw_p40 : lw_okq (⟨"CoinErrandsModel", "grainsOnWay", "()I"⟩, 13) := ⟨⟨by decide +kernel, by decide +kernel⟩, List.mem_of_getElem? (i := 607) (by decide +kernel), List.mem_of_getElem? (i := 875) (by decide +kernel), List.mem_of_getElem? (i := 876) (by decide +kernel)⟩
theorem lw_p41 : lw_okq (⟨"CoinErrandsModel", "isQuiet", "()Z"⟩, 13) := ⟨⟨by decide +kernel, by decide +kernel⟩, List.mem_of_getElem? (i := 607) (by decide +kernel), List.mem_of_getElem? (i := 879) (by decide +kernel), List.mem_of_getElem? (i := 880) (by decide +kernel)⟩
theorem lw_p42 : lw_okq (⟨"CoinErrandsModel", "isIdle", "()Z"⟩, 13) := ⟨⟨by decide +kernel, by decide +kernel⟩, List.mem_of_getElem? (i := 607) (by decide +kernel), List.mem_of_getElem? (i := 883) (by decide +kernel), List.mem_of_getElem? (i := 884) (by decide +kernel)⟩
theorem lw_p43 : lw_okq (⟨"CoinErrandsModel", "isEnough", "(I)Z"⟩, 13) := ⟨⟨by decide +kernel, by decide +kernel⟩, List.mem_of_getElem? (i := 607) (by decide +kernel), List.mem_of_getElem? (i := 899) (by decide +kernel), List.mem_of_getElem? (i := 900) (by decide +kernel)⟩
theorem lw_p44 : lw_okq (⟨"CoinErrandsModel", "beginAnew", "(I)V"⟩, 13) := ⟨⟨by decide +kernel, by decide +kernel⟩, List.mem_of_getElem? (i := 607) (by decide +kernel), List.mem_of_getElem? (i := 903) (by decide +kernel), List.mem_of_getElem? (i := 904) (by decide +kernel)⟩
def lw_privs_3 : List (MethodName × Nat) := [(⟨"CoinErrandsModel", "ranked", "(I)I"⟩, 13), (⟨"CoinErrandsModel", "drop", "(I)V"⟩, 13), (⟨"CoinErrandsModel", "isWithin", "(II)Z"⟩, 13), (⟨"CoinErrandsModel", "count", "(II)I"⟩, 13), (⟨"CoinErrandsModel", "waitingAt", "(II)I"⟩, 13), (⟨"CoinErrandsModel", "partsOf", "(I)I"⟩, 13), (⟨"CoinErrandsModel", "sizeOf", "(I)I"⟩, 13), (⟨"CoinErrandsModel", "sumOfHouses", "(I)I"⟩, 13), (⟨"CoinErrandsModel", "grainsOnWay", "()I"⟩, 13), (⟨"CoinErrandsModel", "isQuiet", "()Z"⟩, 13), (⟨"CoinErrandsModel", "isIdle", "()Z"⟩, 13), (⟨"CoinErrandsModel", "isEnough", "(I)Z"⟩, 13), (⟨"CoinErrandsModel", "beginAnew", "(I)V"⟩, 13)]
theorem lw_r3 : ∀ q ∈ lw_privs_3, lw_okq q := List.forall_mem_cons.mpr ⟨lw_p32, List.forall_mem_cons.mpr ⟨lw_p33, List.forall_mem_cons.mpr ⟨lw_p34, List.forall_mem_cons.mpr ⟨lw_p35, List.forall_mem_cons.mpr ⟨lw_p36, List.forall_mem_cons.mpr ⟨lw_p37, List.forall_mem_cons.mpr ⟨lw_p38, List.forall_mem_cons.mpr ⟨lw_p39, List.forall_mem_cons.mpr ⟨lw_p40, List.forall_mem_cons.mpr ⟨lw_p41, List.forall_mem_cons.mpr ⟨lw_p42, List.forall_mem_cons.mpr ⟨lw_p43, List.forall_mem_cons.mpr ⟨lw_p44, fun _ h => absurd h List.not_mem_nil⟩⟩⟩⟩⟩⟩⟩⟩⟩⟩⟩⟩⟩
def lw_privs : List (MethodName × Nat) := lw_privs_1 ++ (lw_privs_2 ++ (lw_privs_3))
def lw_tbl : List Cond := k2_sels lw_privs ++ tables_1
theorem lw_privs_ok : ∀ q ∈ lw_privs, lw_okq q := by
  show ∀ q ∈ lw_privs_1 ++ (lw_privs_2 ++ (lw_privs_3)), lw_okq q
  exact List.forall_mem_append.mpr ⟨lw_r1, List.forall_mem_append.mpr ⟨lw_r2, lw_r3⟩⟩
def RX0 : String := "CoinErrands$Errand"
def TX0 : u_T := fun k => match k with
  | 0 => ("CoinErrands$Errand", "house", "I", true)
  | 1 => ("CoinErrands$Errand", "work", "I", false)
  | 2 => ("CoinErrands$Errand", "parts", "I", false)
  | 3 => ("CoinErrands$Errand", "all", "I", false)
  | 4 => ("CoinErrands$Errand", "firstPart", "LCoinErrands$Errand;", false)
  | 5 => ("CoinErrands$Errand", "lastPart", "LCoinErrands$Errand;", false)
  | _ => ("CoinErrands$Errand", "nextPart", "LCoinErrands$Errand;", false)
def tyX0 : Nat → FieldType := fun k => match k with
  | 0 => .int
  | 1 => .int
  | 2 => .int
  | 3 => .int
  | 4 => .object "CoinErrands$Errand"
  | 5 => .object "CoinErrands$Errand"
  | _ => .object "CoinErrands$Errand"
abbrev wsX00 : List Cond := u_ws RX0 TX0 7
theorem nmX0 : ∀ a, a < 7 → ∀ b, b < 7 → a ≠ b → (TX0 a).2.1 ≠ (TX0 b).2.1 := by decide +kernel
theorem tyX0_ok : ∀ k, k < 7 → parseFieldDescriptor (TX0 k).2.2.1 = some (tyX0 k) := by decide +kernel
abbrev cX0_init : ByteArray := prog_2_method_1_code
def yX0_init : MethodName := ⟨RX0, "<init>", "(I)V"⟩
abbrev cX0_addPart : ByteArray := prog_2_method_2_code
def yX0_addPart : MethodName := ⟨RX0, "addPart", "(LCoinErrands$Errand;)V"⟩
abbrev cX0_tell : ByteArray := prog_2_method_3_code
def yX0_tell : MethodName := ⟨RX0, "tell", "(I)I"⟩
def RX1 : String := "CoinErrands$House"
def TX1 : u_T := fun k => match k with
  | 0 => ("CoinErrands$House", "isBusy", "Z", false)
  | 1 => ("CoinErrands$House", "grains", "I", false)
  | 2 => ("CoinErrands$House", "work", "I", false)
  | 3 => ("CoinErrands$House", "waits", "I", false)
  | 4 => ("CoinErrands$House", "isAskOut", "Z", false)
  | 5 => ("CoinErrands$House", "isAskLost", "Z", false)
  | 6 => ("CoinErrands$House", "arrived", "I", false)
  | 7 => ("CoinErrands$House", "sent", "I", false)
  | 8 => ("CoinErrands$House", "asks", "I", false)
  | 9 => ("CoinErrands$House", "idles", "I", false)
  | _ => ("CoinErrands$House", "line", "[LCoinErrands$Errand;", true)
def tyX1 : Nat → FieldType := fun k => match k with
  | 0 => .boolean
  | 1 => .int
  | 2 => .int
  | 3 => .int
  | 4 => .boolean
  | 5 => .boolean
  | 6 => .int
  | 7 => .int
  | 8 => .int
  | 9 => .int
  | _ => .array (.object "CoinErrands$Errand")
abbrev wsX10 : List Cond := u_ws RX1 TX1 11
theorem nmX1 : ∀ a, a < 11 → ∀ b, b < 11 → a ≠ b → (TX1 a).2.1 ≠ (TX1 b).2.1 := by decide +kernel
theorem tyX1_ok : ∀ k, k < 11 → parseFieldDescriptor (TX1 k).2.2.1 = some (tyX1 k) := by decide +kernel
abbrev cX1_init : ByteArray := prog_3_method_1_code
def yX1_init : MethodName := ⟨RX1, "<init>", "()V"⟩
abbrev cX1_makeNew : ByteArray := prog_3_method_2_code
def yX1_makeNew : MethodName := ⟨RX1, "makeNew", "()V"⟩
abbrev cX1_copyFrom : ByteArray := prog_3_method_3_code
def yX1_copyFrom : MethodName := ⟨RX1, "copyFrom", "(LCoinErrands$House;)V"⟩
abbrev cX1_takeIn : ByteArray := prog_3_method_4_code
def yX1_takeIn : MethodName := ⟨RX1, "takeIn", "(LCoinErrands$Errand;)V"⟩
abbrev cX1_lineUp : ByteArray := prog_3_method_5_code
def yX1_lineUp : MethodName := ⟨RX1, "lineUp", "(LCoinErrands$Errand;)V"⟩
abbrev cX1_waitingAt : ByteArray := prog_3_method_6_code
def yX1_waitingAt : MethodName := ⟨RX1, "waitingAt", "(I)LCoinErrands$Errand;"⟩
abbrev cX1_removeFirst : ByteArray := prog_3_method_7_code
def yX1_removeFirst : MethodName := ⟨RX1, "removeFirst", "()V"⟩
abbrev cX1_errandsWithin : ByteArray := prog_3_method_8_code
def yX1_errandsWithin : MethodName := ⟨RX1, "errandsWithin", "()I"⟩
abbrev cX1_isStuck : ByteArray := prog_3_method_9_code
def yX1_isStuck : MethodName := ⟨RX1, "isStuck", "()Z"⟩
abbrev cX1_tell : ByteArray := prog_3_method_10_code
def yX1_tell : MethodName := ⟨RX1, "tell", "(I)I"⟩
def RX2 : String := "CoinErrands$Message"
def TX2 : u_T := fun k => match k with
  | 0 => ("CoinErrands$Message", "kind", "I", false)
  | 1 => ("CoinErrands$Message", "from", "I", false)
  | 2 => ("CoinErrands$Message", "to", "I", false)
  | 3 => ("CoinErrands$Message", "grains", "I", false)
  | 4 => ("CoinErrands$Message", "arrives", "I", false)
  | _ => ("CoinErrands$Message", "errand", "LCoinErrands$Errand;", false)
def tyX2 : Nat → FieldType := fun k => match k with
  | 0 => .int
  | 1 => .int
  | 2 => .int
  | 3 => .int
  | 4 => .int
  | _ => .object "CoinErrands$Errand"
abbrev wsX20 : List Cond := u_ws RX2 TX2 6
theorem nmX2 : ∀ a, a < 6 → ∀ b, b < 6 → a ≠ b → (TX2 a).2.1 ≠ (TX2 b).2.1 := by decide +kernel
theorem tyX2_ok : ∀ k, k < 6 → parseFieldDescriptor (TX2 k).2.2.1 = some (tyX2 k) := by decide +kernel
abbrev cX2_init : ByteArray := prog_4_method_1_code
def yX2_init : MethodName := ⟨RX2, "<init>", "()V"⟩
abbrev cX2_copyFrom : ByteArray := prog_4_method_2_code
def yX2_copyFrom : MethodName := ⟨RX2, "copyFrom", "(LCoinErrands$Message;)V"⟩
abbrev cX2_errands : ByteArray := prog_4_method_3_code
def yX2_errands : MethodName := ⟨RX2, "errands", "()I"⟩
abbrev cX2_tell : ByteArray := prog_4_method_4_code
def yX2_tell : MethodName := ⟨RX2, "tell", "(II)I"⟩
def RX3 : String := "CoinErrands$Reader"
def TX3 : u_T := fun k => match k with
  | 0 => ("CoinErrands$Reader", "head", "[LCoinErrands$Errand;", true)
  | 1 => ("CoinErrands$Reader", "heads", "I", false)
  | 2 => ("CoinErrands$Reader", "latest", "[LCoinErrands$Errand;", true)
  | 3 => ("CoinErrands$Reader", "depth", "I", false)
  | 4 => ("CoinErrands$Reader", "due", "I", false)
  | 5 => ("CoinErrands$Reader", "all", "I", false)
  | 6 => ("CoinErrands$Reader", "allWork", "I", false)
  | 7 => ("CoinErrands$Reader", "greatestDepth", "I", false)
  | _ => ("CoinErrands$Reader", "mostParts", "I", false)
def tyX3 : Nat → FieldType := fun k => match k with
  | 0 => .array (.object "CoinErrands$Errand")
  | 1 => .int
  | 2 => .array (.object "CoinErrands$Errand")
  | 3 => .int
  | 4 => .int
  | 5 => .int
  | 6 => .int
  | 7 => .int
  | _ => .int
abbrev wsX30 : List Cond := u_ws RX3 TX3 9
theorem nmX3 : ∀ a, a < 9 → ∀ b, b < 9 → a ≠ b → (TX3 a).2.1 ≠ (TX3 b).2.1 := by decide +kernel
theorem tyX3_ok : ∀ k, k < 9 → parseFieldDescriptor (TX3 k).2.2.1 = some (tyX3 k) := by decide +kernel
abbrev cX3_init : ByteArray := prog_5_method_1_code
def yX3_init : MethodName := ⟨RX3, "<init>", "()V"⟩
abbrev cX3_read : ByteArray := prog_5_method_2_code
def yX3_read : MethodName := ⟨RX3, "read", "([CI)I"⟩
abbrev cX3_take : ByteArray := prog_5_method_3_code
def yX3_take : MethodName := ⟨RX3, "take", "(C)Z"⟩
abbrev cX3_takeHouse : ByteArray := prog_5_method_4_code
def yX3_takeHouse : MethodName := ⟨RX3, "takeHouse", "(C)Z"⟩
abbrev cX3_putInPlace : ByteArray := prog_5_method_5_code
def yX3_putInPlace : MethodName := ⟨RX3, "putInPlace", "(LCoinErrands$Errand;)Z"⟩
abbrev cX3_countWithin : ByteArray := prog_5_method_6_code
def yX3_countWithin : MethodName := ⟨RX3, "countWithin", "()V"⟩
abbrev cX3_takeDigit : ByteArray := prog_5_method_7_code
def yX3_takeDigit : MethodName := ⟨RX3, "takeDigit", "(C)Z"⟩
abbrev cX3_takeInWork : ByteArray := prog_5_method_8_code
def yX3_takeInWork : MethodName := ⟨RX3, "takeInWork", "(C)Z"⟩
abbrev cX3_isWorkZero : ByteArray := prog_5_method_9_code
def yX3_isWorkZero : MethodName := ⟨RX3, "isWorkZero", "()Z"⟩
abbrev cX3_takeAfter : ByteArray := prog_5_method_10_code
def yX3_takeAfter : MethodName := ⟨RX3, "takeAfter", "(C)Z"⟩
abbrev cX3_tell : ByteArray := prog_5_method_11_code
def yX3_tell : MethodName := ⟨RX3, "tell", "(I)I"⟩
def RX4 : String := "CoinErrands$State"
def TX4 : u_T := fun k => match k with
  | 0 => ("CoinErrands$State", "time", "I", false)
  | 1 => ("CoinErrands$State", "power", "I", false)
  | 2 => ("CoinErrands$State", "leastPart", "I", false)
  | 3 => ("CoinErrands$State", "ways", "[I", true)
  | 4 => ("CoinErrands$State", "houses", "[LCoinErrands$House;", true)
  | 5 => ("CoinErrands$State", "messages", "[LCoinErrands$Message;", true)
  | 6 => ("CoinErrands$State", "onTheirWay", "I", false)
  | 7 => ("CoinErrands$State", "minted", "I", false)
  | 8 => ("CoinErrands$State", "back", "I", false)
  | 9 => ("CoinErrands$State", "lost", "I", false)
  | 10 => ("CoinErrands$State", "launched", "I", false)
  | 11 => ("CoinErrands$State", "coins", "I", false)
  | 12 => ("CoinErrands$State", "messagesLost", "I", false)
  | _ => ("CoinErrands$State", "isSomethingLost", "Z", false)
def tyX4 : Nat → FieldType := fun k => match k with
  | 0 => .int
  | 1 => .int
  | 2 => .int
  | 3 => .array .int
  | 4 => .array (.object "CoinErrands$House")
  | 5 => .array (.object "CoinErrands$Message")
  | 6 => .int
  | 7 => .int
  | 8 => .int
  | 9 => .int
  | 10 => .int
  | 11 => .int
  | 12 => .int
  | _ => .boolean
abbrev wsX40 : List Cond := u_ws RX4 TX4 14
theorem nmX4 : ∀ a, a < 14 → ∀ b, b < 14 → a ≠ b → (TX4 a).2.1 ≠ (TX4 b).2.1 := by decide +kernel
theorem tyX4_ok : ∀ k, k < 14 → parseFieldDescriptor (TX4 k).2.2.1 = some (tyX4 k) := by decide +kernel
abbrev cX4_init : ByteArray := prog_6_method_1_code
def yX4_init : MethodName := ⟨RX4, "<init>", "()V"⟩
abbrev cX4_firstWay : ByteArray := prog_6_method_2_code
def yX4_firstWay : MethodName := ⟨RX4, "firstWay", "(II)I"⟩
abbrev cX4_copyFrom : ByteArray := prog_6_method_3_code
def yX4_copyFrom : MethodName := ⟨RX4, "copyFrom", "(LCoinErrands$State;)V"⟩
abbrev cX4_startAnew : ByteArray := prog_6_method_4_code
def yX4_startAnew : MethodName := ⟨RX4, "startAnew", "(LCoinErrands$State;I)V"⟩
abbrev cX4_copyWays : ByteArray := prog_6_method_5_code
def yX4_copyWays : MethodName := ⟨RX4, "copyWays", "(LCoinErrands$State;)V"⟩
abbrev cX4_way : ByteArray := prog_6_method_6_code
def yX4_way : MethodName := ⟨RX4, "way", "(II)I"⟩
abbrev cX4_putWay : ByteArray := prog_6_method_7_code
def yX4_putWay : MethodName := ⟨RX4, "putWay", "(III)V"⟩
abbrev cX4_mint : ByteArray := prog_6_method_8_code
def yX4_mint : MethodName := ⟨RX4, "mint", "()I"⟩
abbrev cX4_startErrands : ByteArray := prog_6_method_9_code
def yX4_startErrands : MethodName := ⟨RX4, "startErrands", "(LCoinErrands$Reader;)V"⟩
abbrev cX4_post : ByteArray := prog_6_method_10_code
def yX4_post : MethodName := ⟨RX4, "post", "(IIIILCoinErrands$Errand;)V"⟩
abbrev cX4_isOnItsWay : ByteArray := prog_6_method_11_code
def yX4_isOnItsWay : MethodName := ⟨RX4, "isOnItsWay", "(I)Z"⟩
abbrev cX4_takeOut : ByteArray := prog_6_method_12_code
def yX4_takeOut : MethodName := ⟨RX4, "takeOut", "(I)V"⟩
abbrev cX4_dropMessage : ByteArray := prog_6_method_13_code
def yX4_dropMessage : MethodName := ⟨RX4, "dropMessage", "(I)I"⟩
abbrev cX4_loseAskOf : ByteArray := prog_6_method_14_code
def yX4_loseAskOf : MethodName := ⟨RX4, "loseAskOf", "(I)V"⟩
abbrev cX4_replaceLost : ByteArray := prog_6_method_15_code
def yX4_replaceLost : MethodName := ⟨RX4, "replaceLost", "()I"⟩
abbrev cX4_tick : ByteArray := prog_6_method_16_code
def yX4_tick : MethodName := ⟨RX4, "tick", "()V"⟩
abbrev cX4_countArriving : ByteArray := prog_6_method_17_code
def yX4_countArriving : MethodName := ⟨RX4, "countArriving", "()I"⟩
abbrev cX4_arrive : ByteArray := prog_6_method_18_code
def yX4_arrive : MethodName := ⟨RX4, "arrive", "(LCoinErrands$Message;)V"⟩
abbrev cX4_sendWhatItCan : ByteArray := prog_6_method_19_code
def yX4_sendWhatItCan : MethodName := ⟨RX4, "sendWhatItCan", "(I)V"⟩
abbrev cX4_sendFirst : ByteArray := prog_6_method_20_code
def yX4_sendFirst : MethodName := ⟨RX4, "sendFirst", "(ILCoinErrands$House;)V"⟩
abbrev cX4_workIn : ByteArray := prog_6_method_21_code
def yX4_workIn : MethodName := ⟨RX4, "workIn", "(I)V"⟩
abbrev cX4_isQuiet : ByteArray := prog_6_method_22_code
def yX4_isQuiet : MethodName := ⟨RX4, "isQuiet", "()Z"⟩
abbrev cX4_isIdle : ByteArray := prog_6_method_23_code
def yX4_isIdle : MethodName := ⟨RX4, "isIdle", "()Z"⟩
abbrev cX4_isMoreThanGrainsOnItsWay : ByteArray := prog_6_method_24_code
def yX4_isMoreThanGrainsOnItsWay : MethodName := ⟨RX4, "isMoreThanGrainsOnItsWay", "()Z"⟩
abbrev cX4_isStuck : ByteArray := prog_6_method_25_code
def yX4_isStuck : MethodName := ⟨RX4, "isStuck", "()Z"⟩
abbrev cX4_hasAsked : ByteArray := prog_6_method_26_code
def yX4_hasAsked : MethodName := ⟨RX4, "hasAsked", "()Z"⟩
abbrev cX4_busyHouses : ByteArray := prog_6_method_27_code
def yX4_busyHouses : MethodName := ⟨RX4, "busyHouses", "()I"⟩
abbrev cX4_grainsInHouses : ByteArray := prog_6_method_28_code
def yX4_grainsInHouses : MethodName := ⟨RX4, "grainsInHouses", "()I"⟩
abbrev cX4_grainsOnTheirWay : ByteArray := prog_6_method_29_code
def yX4_grainsOnTheirWay : MethodName := ⟨RX4, "grainsOnTheirWay", "()I"⟩
abbrev cX4_errandsInAll : ByteArray := prog_6_method_30_code
def yX4_errandsInAll : MethodName := ⟨RX4, "errandsInAll", "()I"⟩
abbrev cX4_tell : ByteArray := prog_6_method_31_code
def yX4_tell : MethodName := ⟨RX4, "tell", "(I)I"⟩
def RX5 : String := "CoinErrands"
def TX5 : u_T := fun k => match k with
  | 0 => ("CoinErrands", "now", "LCoinErrands$State;", true)
  | 1 => ("CoinErrands", "snapshot", "LCoinErrands$State;", true)
  | 2 => ("CoinErrands", "trial", "LCoinErrands$State;", true)
  | 3 => ("CoinErrands", "history", "[LCoinErrands$State;", true)
  | 4 => ("CoinErrands", "states", "I", false)
  | 5 => ("CoinErrands", "kept", "Z", false)
  | 6 => ("CoinErrands", "text", "[C", true)
  | 7 => ("CoinErrands", "textLength", "I", false)
  | _ => ("CoinErrands", "reader", "LCoinErrands$Reader;", true)
def tyX5 : Nat → FieldType := fun k => match k with
  | 0 => .object "CoinErrands$State"
  | 1 => .object "CoinErrands$State"
  | 2 => .object "CoinErrands$State"
  | 3 => .array (.object "CoinErrands$State")
  | 4 => .int
  | 5 => .boolean
  | 6 => .array .char
  | 7 => .int
  | _ => .object "CoinErrands$Reader"
abbrev wsX50 : List Cond := u_ws RX5 TX5 9
theorem nmX5 : ∀ a, a < 9 → ∀ b, b < 9 → a ≠ b → (TX5 a).2.1 ≠ (TX5 b).2.1 := by decide +kernel
theorem tyX5_ok : ∀ k, k < 9 → parseFieldDescriptor (TX5 k).2.2.1 = some (tyX5 k) := by decide +kernel
abbrev cX5_init : ByteArray := prog_1_method_1_code
def yX5_init : MethodName := ⟨RX5, "<init>", "()V"⟩
abbrev cX5_setTime : ByteArray := prog_1_method_2_code
def yX5_setTime : MethodName := ⟨RX5, "setTime", "(III)I"⟩
abbrev cX5_setBankTime : ByteArray := prog_1_method_3_code
def yX5_setBankTime : MethodName := ⟨RX5, "setBankTime", "(II)I"⟩
abbrev cX5_set : ByteArray := prog_1_method_4_code
def yX5_set : MethodName := ⟨RX5, "set", "(II)I"⟩
abbrev cX5_launch : ByteArray := prog_1_method_5_code
def yX5_launch : MethodName := ⟨RX5, "launch", "()I"⟩
abbrev cX5_pass : ByteArray := prog_1_method_6_code
def yX5_pass : MethodName := ⟨RX5, "pass", "(I)I"⟩
abbrev cX5_lose : ByteArray := prog_1_method_7_code
def yX5_lose : MethodName := ⟨RX5, "lose", "(I)I"⟩
abbrev cX5_makeGood : ByteArray := prog_1_method_8_code
def yX5_makeGood : MethodName := ⟨RX5, "makeGood", "()I"⟩
abbrev cX5_type : ByteArray := prog_1_method_9_code
def yX5_type : MethodName := ⟨RX5, "type", "(C)I"⟩
abbrev cX5_clearText : ByteArray := prog_1_method_10_code
def yX5_clearText : MethodName := ⟨RX5, "clearText", "()I"⟩
abbrev cX5_undo : ByteArray := prog_1_method_11_code
def yX5_undo : MethodName := ⟨RX5, "undo", "()I"⟩
abbrev cX5_keep : ByteArray := prog_1_method_12_code
def yX5_keep : MethodName := ⟨RX5, "keep", "()I"⟩
abbrev cX5_restore : ByteArray := prog_1_method_13_code
def yX5_restore : MethodName := ⟨RX5, "restore", "()I"⟩
abbrev cX5_time : ByteArray := prog_1_method_14_code
def yX5_time : MethodName := ⟨RX5, "time", "(II)I"⟩
abbrev cX5_bankTime : ByteArray := prog_1_method_15_code
def yX5_bankTime : MethodName := ⟨RX5, "bankTime", "(I)I"⟩
abbrev cX5_house : ByteArray := prog_1_method_16_code
def yX5_house : MethodName := ⟨RX5, "house", "(II)I"⟩
abbrev cX5_waiting : ByteArray := prog_1_method_17_code
def yX5_waiting : MethodName := ⟨RX5, "waiting", "(III)I"⟩
abbrev cX5_message : ByteArray := prog_1_method_18_code
def yX5_message : MethodName := ⟨RX5, "message", "(II)I"⟩
abbrev cX5_total : ByteArray := prog_1_method_19_code
def yX5_total : MethodName := ⟨RX5, "total", "(I)I"⟩
abbrev cX5_quietIn : ByteArray := prog_1_method_20_code
def yX5_quietIn : MethodName := ⟨RX5, "quietIn", "()I"⟩
abbrev cX5_idleIn : ByteArray := prog_1_method_21_code
def yX5_idleIn : MethodName := ⟨RX5, "idleIn", "()I"⟩
abbrev cX5_planned : ByteArray := prog_1_method_22_code
def yX5_planned : MethodName := ⟨RX5, "planned", "(I)I"⟩
abbrev cX5_leastCoin : ByteArray := prog_1_method_23_code
def yX5_leastCoin : MethodName := ⟨RX5, "leastCoin", "()I"⟩
abbrev cX5_isHouse : ByteArray := prog_1_method_24_code
def yX5_isHouse : MethodName := ⟨RX5, "isHouse", "(I)Z"⟩
abbrev cX5_isWay : ByteArray := prog_1_method_25_code
def yX5_isWay : MethodName := ⟨RX5, "isWay", "(I)Z"⟩
abbrev cX5_changeWay : ByteArray := prog_1_method_26_code
def yX5_changeWay : MethodName := ⟨RX5, "changeWay", "(III)I"⟩
abbrev cX5_changePower : ByteArray := prog_1_method_27_code
def yX5_changePower : MethodName := ⟨RX5, "changePower", "(I)I"⟩
abbrev cX5_changeLeastPart : ByteArray := prog_1_method_28_code
def yX5_changeLeastPart : MethodName := ⟨RX5, "changeLeastPart", "(I)I"⟩
abbrev cX5_record : ByteArray := prog_1_method_29_code
def yX5_record : MethodName := ⟨RX5, "record", "()V"⟩
abbrev cX5_ticksUntil : ByteArray := prog_1_method_30_code
def yX5_ticksUntil : MethodName := ⟨RX5, "ticksUntil", "(Z)I"⟩
abbrev cX5_wouldAskWith : ByteArray := prog_1_method_31_code
def yX5_wouldAskWith : MethodName := ⟨RX5, "wouldAskWith", "(I)Z"⟩
def RX6 : String := "CoinErrandsModel"
def TX6 : u_T := fun k => match k with
  | 0 => ("CoinErrandsModel", "s", "[I", true)
  | 1 => ("CoinErrandsModel", "history", "[I", true)
  | 2 => ("CoinErrandsModel", "kept", "I", false)
  | 3 => ("CoinErrandsModel", "snapshot", "[I", true)
  | 4 => ("CoinErrandsModel", "isTaken", "Z", false)
  | 5 => ("CoinErrandsModel", "before", "[I", true)
  | 6 => ("CoinErrandsModel", "text", "[I", true)
  | 7 => ("CoinErrandsModel", "length", "I", false)
  | 8 => ("CoinErrandsModel", "read", "[I", true)
  | 9 => ("CoinErrandsModel", "many", "I", false)
  | 10 => ("CoinErrandsModel", "place", "I", false)
  | 11 => ("CoinErrandsModel", "depth", "I", false)
  | _ => ("CoinErrandsModel", "latest", "[I", true)
def tyX6 : Nat → FieldType := fun k => match k with
  | 0 => .array .int
  | 1 => .array .int
  | 2 => .int
  | 3 => .array .int
  | 4 => .boolean
  | 5 => .array .int
  | 6 => .array .int
  | 7 => .int
  | 8 => .array .int
  | 9 => .int
  | 10 => .int
  | 11 => .int
  | _ => .array .int
abbrev wsX60 : List Cond := u_ws RX6 TX6 13
theorem nmX6 : ∀ a, a < 13 → ∀ b, b < 13 → a ≠ b → (TX6 a).2.1 ≠ (TX6 b).2.1 := by decide +kernel
theorem tyX6_ok : ∀ k, k < 13 → parseFieldDescriptor (TX6 k).2.2.1 = some (tyX6 k) := by decide +kernel
abbrev cX6_init : ByteArray := prog_8_method_1_code
def yX6_init : MethodName := ⟨RX6, "<init>", "()V"⟩
abbrev cX6_in : ByteArray := prog_8_method_3_code
def yX6_in : MethodName := ⟨RX6, "in", "(III)Z"⟩
abbrev cX6_isHouse : ByteArray := prog_8_method_4_code
def yX6_isHouse : MethodName := ⟨RX6, "isHouse", "(I)Z"⟩
abbrev cX6_copy : ByteArray := prog_8_method_5_code
def yX6_copy : MethodName := ⟨RX6, "copy", "([I[I)V"⟩
abbrev cX6_record : ByteArray := prog_8_method_6_code
def yX6_record : MethodName := ⟨RX6, "record", "()V"⟩
abbrev cX6_ofHouse : ByteArray := prog_8_method_7_code
def yX6_ofHouse : MethodName := ⟨RX6, "ofHouse", "(II)I"⟩
abbrev cX6_setHouse : ByteArray := prog_8_method_8_code
def yX6_setHouse : MethodName := ⟨RX6, "setHouse", "(III)V"⟩
abbrev cX6_addToHouse : ByteArray := prog_8_method_9_code
def yX6_addToHouse : MethodName := ⟨RX6, "addToHouse", "(III)V"⟩
abbrev cX6_ofErrand : ByteArray := prog_8_method_10_code
def yX6_ofErrand : MethodName := ⟨RX6, "ofErrand", "(II)I"⟩
abbrev cX6_setErrand : ByteArray := prog_8_method_11_code
def yX6_setErrand : MethodName := ⟨RX6, "setErrand", "(III)V"⟩
abbrev cX6_ofMessage : ByteArray := prog_8_method_12_code
def yX6_ofMessage : MethodName := ⟨RX6, "ofMessage", "(II)I"⟩
abbrev cX6_first : ByteArray := prog_8_method_13_code
def yX6_first : MethodName := ⟨RX6, "first", "(II)I"⟩
abbrev cX6_firstWaiting : ByteArray := prog_8_method_14_code
def yX6_firstWaiting : MethodName := ⟨RX6, "firstWaiting", "(I)I"⟩
abbrev cX6_count : ByteArray := prog_8_method_15_code
def yX6_count : MethodName := ⟨RX6, "count", "(II)I"⟩
abbrev cX6_partsOf : ByteArray := prog_8_method_16_code
def yX6_partsOf : MethodName := ⟨RX6, "partsOf", "(I)I"⟩
abbrev cX6_isWithin : ByteArray := prog_8_method_17_code
def yX6_isWithin : MethodName := ⟨RX6, "isWithin", "(II)Z"⟩
abbrev cX6_sizeOf : ByteArray := prog_8_method_18_code
def yX6_sizeOf : MethodName := ⟨RX6, "sizeOf", "(I)I"⟩
abbrev cX6_underWay : ByteArray := prog_8_method_19_code
def yX6_underWay : MethodName := ⟨RX6, "underWay", "()I"⟩
abbrev cX6_drop : ByteArray := prog_8_method_20_code
def yX6_drop : MethodName := ⟨RX6, "drop", "(I)V"⟩
abbrev cX6_add : ByteArray := prog_8_method_21_code
def yX6_add : MethodName := ⟨RX6, "add", "(III)I"⟩
abbrev cX6_timeBetween : ByteArray := prog_8_method_22_code
def yX6_timeBetween : MethodName := ⟨RX6, "timeBetween", "(II)I"⟩
abbrev cX6_send : ByteArray := prog_8_method_23_code
def yX6_send : MethodName := ⟨RX6, "send", "(IIIII)V"⟩
abbrev cX6_takeAway : ByteArray := prog_8_method_24_code
def yX6_takeAway : MethodName := ⟨RX6, "takeAway", "(I)V"⟩
abbrev cX6_ranked : ByteArray := prog_8_method_25_code
def yX6_ranked : MethodName := ⟨RX6, "ranked", "(I)I"⟩
abbrev cX6_mint : ByteArray := prog_8_method_26_code
def yX6_mint : MethodName := ⟨RX6, "mint", "()I"⟩
abbrev cX6_sendWhatItCan : ByteArray := prog_8_method_27_code
def yX6_sendWhatItCan : MethodName := ⟨RX6, "sendWhatItCan", "(I)V"⟩
abbrev cX6_errandArrives : ByteArray := prog_8_method_28_code
def yX6_errandArrives : MethodName := ⟨RX6, "errandArrives", "(III)V"⟩
abbrev cX6_arrive : ByteArray := prog_8_method_29_code
def yX6_arrive : MethodName := ⟨RX6, "arrive", "(I)V"⟩
abbrev cX6_work : ByteArray := prog_8_method_30_code
def yX6_work : MethodName := ⟨RX6, "work", "(I)V"⟩
abbrev cX6_tick : ByteArray := prog_8_method_31_code
def yX6_tick : MethodName := ⟨RX6, "tick", "()V"⟩
abbrev cX6_sumOfHouses : ByteArray := prog_8_method_32_code
def yX6_sumOfHouses : MethodName := ⟨RX6, "sumOfHouses", "(I)I"⟩
abbrev cX6_grainsOnWay : ByteArray := prog_8_method_33_code
def yX6_grainsOnWay : MethodName := ⟨RX6, "grainsOnWay", "()I"⟩
abbrev cX6_isQuiet : ByteArray := prog_8_method_34_code
def yX6_isQuiet : MethodName := ⟨RX6, "isQuiet", "()Z"⟩
abbrev cX6_isIdle : ByteArray := prog_8_method_35_code
def yX6_isIdle : MethodName := ⟨RX6, "isIdle", "()Z"⟩
abbrev cX6_setTime : ByteArray := prog_8_method_36_code
def yX6_setTime : MethodName := ⟨RX6, "setTime", "(III)I"⟩
abbrev cX6_setBankTime : ByteArray := prog_8_method_37_code
def yX6_setBankTime : MethodName := ⟨RX6, "setBankTime", "(II)I"⟩
abbrev cX6_set : ByteArray := prog_8_method_38_code
def yX6_set : MethodName := ⟨RX6, "set", "(II)I"⟩
abbrev cX6_type : ByteArray := prog_8_method_39_code
def yX6_type : MethodName := ⟨RX6, "type", "(C)I"⟩
abbrev cX6_clearText : ByteArray := prog_8_method_40_code
def yX6_clearText : MethodName := ⟨RX6, "clearText", "()I"⟩
abbrev cX6_isNext : ByteArray := prog_8_method_41_code
def yX6_isNext : MethodName := ⟨RX6, "isNext", "(II)Z"⟩
abbrev cX6_takes : ByteArray := prog_8_method_42_code
def yX6_takes : MethodName := ⟨RX6, "takes", "(I)Z"⟩
abbrev cX6_readHead : ByteArray := prog_8_method_43_code
def yX6_readHead : MethodName := ⟨RX6, "readHead", "()Z"⟩
abbrev cX6_readText : ByteArray := prog_8_method_44_code
def yX6_readText : MethodName := ⟨RX6, "readText", "()I"⟩
abbrev cX6_launchAll : ByteArray := prog_8_method_45_code
def yX6_launchAll : MethodName := ⟨RX6, "launchAll", "()I"⟩
abbrev cX6_launch : ByteArray := prog_8_method_46_code
def yX6_launch : MethodName := ⟨RX6, "launch", "()I"⟩
abbrev cX6_partsOfRead : ByteArray := prog_8_method_47_code
def yX6_partsOfRead : MethodName := ⟨RX6, "partsOfRead", "(I)I"⟩
abbrev cX6_planned : ByteArray := prog_8_method_48_code
def yX6_planned : MethodName := ⟨RX6, "planned", "(I)I"⟩
abbrev cX6_pass : ByteArray := prog_8_method_49_code
def yX6_pass : MethodName := ⟨RX6, "pass", "(I)I"⟩
abbrev cX6_lose : ByteArray := prog_8_method_50_code
def yX6_lose : MethodName := ⟨RX6, "lose", "(I)I"⟩
abbrev cX6_makeGood : ByteArray := prog_8_method_51_code
def yX6_makeGood : MethodName := ⟨RX6, "makeGood", "()I"⟩
abbrev cX6_undo : ByteArray := prog_8_method_52_code
def yX6_undo : MethodName := ⟨RX6, "undo", "()I"⟩
abbrev cX6_keep : ByteArray := prog_8_method_53_code
def yX6_keep : MethodName := ⟨RX6, "keep", "()I"⟩
abbrev cX6_restore : ByteArray := prog_8_method_54_code
def yX6_restore : MethodName := ⟨RX6, "restore", "()I"⟩
abbrev cX6_time : ByteArray := prog_8_method_55_code
def yX6_time : MethodName := ⟨RX6, "time", "(II)I"⟩
abbrev cX6_bankTime : ByteArray := prog_8_method_56_code
def yX6_bankTime : MethodName := ⟨RX6, "bankTime", "(I)I"⟩
abbrev cX6_house : ByteArray := prog_8_method_57_code
def yX6_house : MethodName := ⟨RX6, "house", "(II)I"⟩
abbrev cX6_waitingAt : ByteArray := prog_8_method_58_code
def yX6_waitingAt : MethodName := ⟨RX6, "waitingAt", "(II)I"⟩
abbrev cX6_waiting : ByteArray := prog_8_method_59_code
def yX6_waiting : MethodName := ⟨RX6, "waiting", "(III)I"⟩
abbrev cX6_message : ByteArray := prog_8_method_60_code
def yX6_message : MethodName := ⟨RX6, "message", "(II)I"⟩
abbrev cX6_total : ByteArray := prog_8_method_61_code
def yX6_total : MethodName := ⟨RX6, "total", "(I)I"⟩
abbrev cX6_quietIn : ByteArray := prog_8_method_62_code
def yX6_quietIn : MethodName := ⟨RX6, "quietIn", "()I"⟩
abbrev cX6_idleIn : ByteArray := prog_8_method_63_code
def yX6_idleIn : MethodName := ⟨RX6, "idleIn", "()I"⟩
abbrev cX6_beginAnew : ByteArray := prog_8_method_64_code
def yX6_beginAnew : MethodName := ⟨RX6, "beginAnew", "(I)V"⟩
abbrev cX6_isEnough : ByteArray := prog_8_method_65_code
def yX6_isEnough : MethodName := ⟨RX6, "isEnough", "(I)Z"⟩
abbrev cX6_leastCoin : ByteArray := prog_8_method_66_code
def yX6_leastCoin : MethodName := ⟨RX6, "leastCoin", "()I"⟩
def RJ9 : String := "java/lang/Math"
abbrev cJ9_max_7cf53 : ByteArray := prog_9_method_65_code
def yJ9_max_7cf53 : MethodName := ⟨RJ9, "max", "(II)I"⟩
def RL : String := "CoinErrandsLaw"
abbrev cL_law : ByteArray := code
def yL_law : MethodName := ⟨RL, "law", "([I)Z"⟩
abbrev AM : Type := MethodName × ByteArray × Nat × Option FieldType
abbrev mX0_init : AM := (yX0_init, cX0_init, 2, none)
abbrev mX0_addPart : AM := (yX0_addPart, cX0_addPart, 2, none)
abbrev mX0_tell : AM := (yX0_tell, cX0_tell, 2, (some .int))
abbrev mX1_init : AM := (yX1_init, cX1_init, 1, none)
abbrev mX1_makeNew : AM := (yX1_makeNew, cX1_makeNew, 1, none)
abbrev mX1_copyFrom : AM := (yX1_copyFrom, cX1_copyFrom, 3, none)
abbrev mX1_lineUp : AM := (yX1_lineUp, cX1_lineUp, 2, none)
abbrev mX1_takeIn : AM := (yX1_takeIn, cX1_takeIn, 3, none)
abbrev mX1_waitingAt : AM := (yX1_waitingAt, cX1_waitingAt, 2, (some (.object "CoinErrands$Errand")))
abbrev mX1_removeFirst : AM := (yX1_removeFirst, cX1_removeFirst, 2, none)
abbrev mX1_errandsWithin : AM := (yX1_errandsWithin, cX1_errandsWithin, 3, (some .int))
abbrev mX1_isStuck : AM := (yX1_isStuck, cX1_isStuck, 1, (some .boolean))
abbrev mX1_tell : AM := (yX1_tell, cX1_tell, 2, (some .int))
abbrev mX2_init : AM := (yX2_init, cX2_init, 1, none)
abbrev mX2_copyFrom : AM := (yX2_copyFrom, cX2_copyFrom, 2, none)
abbrev mX2_errands : AM := (yX2_errands, cX2_errands, 1, (some .int))
abbrev mX2_tell : AM := (yX2_tell, cX2_tell, 3, (some .int))
abbrev mX3_init : AM := (yX3_init, cX3_init, 1, none)
abbrev mX3_countWithin : AM := (yX3_countWithin, cX3_countWithin, 2, none)
abbrev mX3_putInPlace : AM := (yX3_putInPlace, cX3_putInPlace, 3, (some .boolean))
abbrev mX3_takeHouse : AM := (yX3_takeHouse, cX3_takeHouse, 3, (some .boolean))
abbrev mX3_takeDigit : AM := (yX3_takeDigit, cX3_takeDigit, 4, (some .boolean))
abbrev mX3_isWorkZero : AM := (yX3_isWorkZero, cX3_isWorkZero, 1, (some .boolean))
abbrev mX3_takeAfter : AM := (yX3_takeAfter, cX3_takeAfter, 2, (some .boolean))
abbrev mX3_takeInWork : AM := (yX3_takeInWork, cX3_takeInWork, 2, (some .boolean))
abbrev mX3_take : AM := (yX3_take, cX3_take, 2, (some .boolean))
abbrev mX3_read : AM := (yX3_read, cX3_read, 4, (some .int))
abbrev mX3_tell : AM := (yX3_tell, cX3_tell, 2, (some .int))
abbrev mX4_firstWay : AM := (yX4_firstWay, cX4_firstWay, 2, (some .int))
abbrev mX4_init : AM := (yX4_init, cX4_init, 3, none)
abbrev mX4_copyWays : AM := (yX4_copyWays, cX4_copyWays, 3, none)
abbrev mX4_copyFrom : AM := (yX4_copyFrom, cX4_copyFrom, 3, none)
abbrev mX4_startAnew : AM := (yX4_startAnew, cX4_startAnew, 7, none)
abbrev mX4_way : AM := (yX4_way, cX4_way, 3, (some .int))
abbrev mX4_putWay : AM := (yX4_putWay, cX4_putWay, 4, none)
abbrev mX4_mint : AM := (yX4_mint, cX4_mint, 2, (some .int))
abbrev mX4_post : AM := (yX4_post, cX4_post, 9, none)
abbrev mX4_startErrands : AM := (yX4_startErrands, cX4_startErrands, 4, none)
abbrev mX4_isOnItsWay : AM := (yX4_isOnItsWay, cX4_isOnItsWay, 2, (some .boolean))
abbrev mX4_takeOut : AM := (yX4_takeOut, cX4_takeOut, 4, none)
abbrev mX5_isHouse : AM := (yX5_isHouse, cX5_isHouse, 1, (some .boolean))
abbrev mX4_loseAskOf : AM := (yX4_loseAskOf, cX4_loseAskOf, 2, none)
abbrev mX4_dropMessage : AM := (yX4_dropMessage, cX4_dropMessage, 4, (some .int))
abbrev mX4_sendFirst : AM := (yX4_sendFirst, cX4_sendFirst, 5, none)
abbrev mX4_sendWhatItCan : AM := (yX4_sendWhatItCan, cX4_sendWhatItCan, 4, none)
abbrev mX4_replaceLost : AM := (yX4_replaceLost, cX4_replaceLost, 3, (some .int))
abbrev mX4_countArriving : AM := (yX4_countArriving, cX4_countArriving, 2, (some .int))
abbrev mX4_arrive : AM := (yX4_arrive, cX4_arrive, 3, none)
abbrev mX4_workIn : AM := (yX4_workIn, cX4_workIn, 3, none)
abbrev mX4_tick : AM := (yX4_tick, cX4_tick, 3, none)
abbrev mX4_isQuiet : AM := (yX4_isQuiet, cX4_isQuiet, 1, (some .boolean))
abbrev mX4_busyHouses : AM := (yX4_busyHouses, cX4_busyHouses, 6, (some .int))
abbrev mX4_isMoreThanGrainsOnItsWay : AM := (yX4_isMoreThanGrainsOnItsWay, cX4_isMoreThanGrainsOnItsWay, 2, (some .boolean))
abbrev mX4_isIdle : AM := (yX4_isIdle, cX4_isIdle, 1, (some .boolean))
abbrev mX4_isStuck : AM := (yX4_isStuck, cX4_isStuck, 5, (some .boolean))
abbrev mX4_hasAsked : AM := (yX4_hasAsked, cX4_hasAsked, 5, (some .boolean))
abbrev mX4_grainsInHouses : AM := (yX4_grainsInHouses, cX4_grainsInHouses, 6, (some .int))
abbrev mX4_grainsOnTheirWay : AM := (yX4_grainsOnTheirWay, cX4_grainsOnTheirWay, 3, (some .int))
abbrev mX4_errandsInAll : AM := (yX4_errandsInAll, cX4_errandsInAll, 6, (some .int))
abbrev mX4_tell : AM := (yX4_tell, cX4_tell, 2, (some .int))
abbrev mX5_init : AM := (yX5_init, cX5_init, 2, none)
abbrev mX5_isWay : AM := (yX5_isWay, cX5_isWay, 1, (some .boolean))
abbrev mX5_record : AM := (yX5_record, cX5_record, 3, none)
abbrev mX5_changeWay : AM := (yX5_changeWay, cX5_changeWay, 5, (some .int))
abbrev mX5_setTime : AM := (yX5_setTime, cX5_setTime, 4, (some .int))
abbrev mX5_setBankTime : AM := (yX5_setBankTime, cX5_setBankTime, 3, (some .int))
abbrev mX5_changePower : AM := (yX5_changePower, cX5_changePower, 3, (some .int))
abbrev mX5_changeLeastPart : AM := (yX5_changeLeastPart, cX5_changeLeastPart, 3, (some .int))
abbrev mX5_set : AM := (yX5_set, cX5_set, 3, (some .int))
abbrev mX5_launch : AM := (yX5_launch, cX5_launch, 2, (some .int))
abbrev mX5_pass : AM := (yX5_pass, cX5_pass, 3, (some .int))
abbrev mX5_lose : AM := (yX5_lose, cX5_lose, 2, (some .int))
abbrev mX5_makeGood : AM := (yX5_makeGood, cX5_makeGood, 1, (some .int))
abbrev mX5_type : AM := (yX5_type, cX5_type, 2, (some .int))
abbrev mX5_clearText : AM := (yX5_clearText, cX5_clearText, 2, (some .int))
abbrev mX5_undo : AM := (yX5_undo, cX5_undo, 2, (some .int))
abbrev mX5_keep : AM := (yX5_keep, cX5_keep, 1, (some .int))
abbrev mX5_restore : AM := (yX5_restore, cX5_restore, 1, (some .int))
abbrev mX5_time : AM := (yX5_time, cX5_time, 3, (some .int))
abbrev mX5_bankTime : AM := (yX5_bankTime, cX5_bankTime, 2, (some .int))
abbrev mX5_house : AM := (yX5_house, cX5_house, 3, (some .int))
abbrev mX5_waiting : AM := (yX5_waiting, cX5_waiting, 5, (some .int))
abbrev mX5_message : AM := (yX5_message, cX5_message, 3, (some .int))
abbrev mX5_total : AM := (yX5_total, cX5_total, 2, (some .int))
abbrev mX5_ticksUntil : AM := (yX5_ticksUntil, cX5_ticksUntil, 3, (some .int))
abbrev mX5_quietIn : AM := (yX5_quietIn, cX5_quietIn, 1, (some .int))
abbrev mX5_idleIn : AM := (yX5_idleIn, cX5_idleIn, 1, (some .int))
abbrev mX5_planned : AM := (yX5_planned, cX5_planned, 3, (some .int))
abbrev mX5_wouldAskWith : AM := (yX5_wouldAskWith, cX5_wouldAskWith, 3, (some .boolean))
abbrev mX5_leastCoin : AM := (yX5_leastCoin, cX5_leastCoin, 3, (some .int))
abbrev mX6_init : AM := (yX6_init, cX6_init, 2, none)
abbrev mX6_in : AM := (yX6_in, cX6_in, 3, (some .boolean))
abbrev mX6_isHouse : AM := (yX6_isHouse, cX6_isHouse, 1, (some .boolean))
abbrev mX6_copy : AM := (yX6_copy, cX6_copy, 3, none)
abbrev mX6_record : AM := (yX6_record, cX6_record, 2, none)
abbrev mX6_ofHouse : AM := (yX6_ofHouse, cX6_ofHouse, 3, (some .int))
abbrev mX6_setHouse : AM := (yX6_setHouse, cX6_setHouse, 4, none)
abbrev mX6_addToHouse : AM := (yX6_addToHouse, cX6_addToHouse, 4, none)
abbrev mX6_ofErrand : AM := (yX6_ofErrand, cX6_ofErrand, 3, (some .int))
abbrev mX6_setErrand : AM := (yX6_setErrand, cX6_setErrand, 4, none)
abbrev mX6_ofMessage : AM := (yX6_ofMessage, cX6_ofMessage, 3, (some .int))
abbrev mX6_first : AM := (yX6_first, cX6_first, 6, (some .int))
abbrev mX6_firstWaiting : AM := (yX6_firstWaiting, cX6_firstWaiting, 2, (some .int))
abbrev mX6_count : AM := (yX6_count, cX6_count, 5, (some .int))
abbrev mX6_partsOf : AM := (yX6_partsOf, cX6_partsOf, 2, (some .int))
abbrev mX6_isWithin : AM := (yX6_isWithin, cX6_isWithin, 4, (some .boolean))
abbrev mX6_sizeOf : AM := (yX6_sizeOf, cX6_sizeOf, 4, (some .int))
abbrev mX6_underWay : AM := (yX6_underWay, cX6_underWay, 3, (some .int))
abbrev mX6_drop : AM := (yX6_drop, cX6_drop, 4, none)
abbrev mX6_add : AM := (yX6_add, cX6_add, 5, (some .int))
abbrev mX6_timeBetween : AM := (yX6_timeBetween, cX6_timeBetween, 3, (some .int))
abbrev mX6_send : AM := (yX6_send, cX6_send, 7, none)
abbrev mX6_takeAway : AM := (yX6_takeAway, cX6_takeAway, 3, none)
abbrev mX6_ranked : AM := (yX6_ranked, cX6_ranked, 6, (some .int))
abbrev mX6_mint : AM := (yX6_mint, cX6_mint, 2, (some .int))
abbrev mX6_sendWhatItCan : AM := (yX6_sendWhatItCan, cX6_sendWhatItCan, 4, none)
abbrev mX6_errandArrives : AM := (yX6_errandArrives, cX6_errandArrives, 5, none)
abbrev mX6_arrive : AM := (yX6_arrive, cX6_arrive, 7, none)
abbrev mX6_work : AM := (yX6_work, cX6_work, 3, none)
abbrev mX6_tick : AM := (yX6_tick, cX6_tick, 3, none)
abbrev mX6_sumOfHouses : AM := (yX6_sumOfHouses, cX6_sumOfHouses, 4, (some .int))
abbrev mX6_grainsOnWay : AM := (yX6_grainsOnWay, cX6_grainsOnWay, 3, (some .int))
abbrev mX6_isQuiet : AM := (yX6_isQuiet, cX6_isQuiet, 1, (some .boolean))
abbrev mX6_isIdle : AM := (yX6_isIdle, cX6_isIdle, 3, (some .boolean))
abbrev mX6_setTime : AM := (yX6_setTime, cX6_setTime, 5, (some .int))
abbrev mX6_setBankTime : AM := (yX6_setBankTime, cX6_setBankTime, 4, (some .int))
abbrev mX6_set : AM := (yX6_set, cX6_set, 4, (some .int))
abbrev mX6_type : AM := (yX6_type, cX6_type, 2, (some .int))
abbrev mX6_clearText : AM := (yX6_clearText, cX6_clearText, 2, (some .int))
abbrev mX6_isNext : AM := (yX6_isNext, cX6_isNext, 3, (some .boolean))
abbrev mX6_takes : AM := (yX6_takes, cX6_takes, 3, (some .boolean))
abbrev mX6_readHead : AM := (yX6_readHead, cX6_readHead, 3, (some .boolean))
abbrev mX6_readText : AM := (yX6_readText, cX6_readText, 3, (some .int))
abbrev mX6_launchAll : AM := (yX6_launchAll, cX6_launchAll, 5, (some .int))
abbrev mX6_launch : AM := (yX6_launch, cX6_launch, 2, (some .int))
abbrev mX6_partsOfRead : AM := (yX6_partsOfRead, cX6_partsOfRead, 5, (some .int))
abbrev mX6_planned : AM := (yX6_planned, cX6_planned, 7, (some .int))
abbrev mX6_pass : AM := (yX6_pass, cX6_pass, 3, (some .int))
abbrev mX6_lose : AM := (yX6_lose, cX6_lose, 6, (some .int))
abbrev mX6_makeGood : AM := (yX6_makeGood, cX6_makeGood, 3, (some .int))
abbrev mX6_undo : AM := (yX6_undo, cX6_undo, 2, (some .int))
abbrev mX6_keep : AM := (yX6_keep, cX6_keep, 1, (some .int))
abbrev mX6_restore : AM := (yX6_restore, cX6_restore, 1, (some .int))
abbrev mX6_time : AM := (yX6_time, cX6_time, 3, (some .int))
abbrev mX6_bankTime : AM := (yX6_bankTime, cX6_bankTime, 2, (some .int))
abbrev mX6_house : AM := (yX6_house, cX6_house, 3, (some .int))
abbrev mX6_waitingAt : AM := (yX6_waitingAt, cX6_waitingAt, 6, (some .int))
abbrev mX6_waiting : AM := (yX6_waiting, cX6_waiting, 5, (some .int))
abbrev mX6_message : AM := (yX6_message, cX6_message, 5, (some .int))
abbrev mX6_total : AM := (yX6_total, cX6_total, 2, (some .int))
abbrev mX6_quietIn : AM := (yX6_quietIn, cX6_quietIn, 2, (some .int))
abbrev mX6_idleIn : AM := (yX6_idleIn, cX6_idleIn, 2, (some .int))
abbrev mX6_beginAnew : AM := (yX6_beginAnew, cX6_beginAnew, 4, none)
abbrev mX6_isEnough : AM := (yX6_isEnough, cX6_isEnough, 4, (some .boolean))
abbrev mX6_leastCoin : AM := (yX6_leastCoin, cX6_leastCoin, 3, (some .int))
abbrev mL_law : AM := (yL_law, cL_law, 4, some .boolean)
def lw_gd : List Cond := lw_tbl.filter goodWord
theorem lw_in {w : Cond} (h : w ∈ lw_tbl) (g : goodWord w = true) : w ∈ lw_gd := List.mem_filter.mpr ⟨h, g⟩
theorem lw_gdIn {w : Cond} (h : w ∈ lw_gd) : w ∈ lw_tbl := (List.mem_filter.mp h).1
theorem lw_gdGood : ∀ w ∈ lw_gd, goodWord w = true := fun _ h => (List.mem_filter.mp h).2
theorem inX0 : ∀ w ∈ wsX00, w ∈ lw_gd := by decide +kernel
theorem inX1 : ∀ w ∈ wsX10, w ∈ lw_gd := by decide +kernel
theorem inX2 : ∀ w ∈ wsX20, w ∈ lw_gd := by decide +kernel
theorem inX3 : ∀ w ∈ wsX30, w ∈ lw_gd := by decide +kernel
theorem inX4 : ∀ w ∈ wsX40, w ∈ lw_gd := by decide +kernel
theorem inX5 : ∀ w ∈ wsX50, w ∈ lw_gd := by decide +kernel
theorem inX6 : ∀ w ∈ wsX60, w ∈ lw_gd := by decide +kernel
end
section
theorem dX0_init_0 : decode cX0_init 0 = .ok (.aload_n 0, 1) := by decide +kernel
theorem dX0_init_1 : decode cX0_init 1 = .ok (.invokespecial 3, 3) := by decide +kernel
theorem dX0_init_4 : decode cX0_init 4 = .ok (.aload_n 0, 1) := by decide +kernel
theorem dX0_init_5 : decode cX0_init 5 = .ok (.iconst 1, 1) := by decide +kernel
theorem dX0_init_6 : decode cX0_init 6 = .ok (.putfield 9, 3) := by decide +kernel
theorem dX0_init_9 : decode cX0_init 9 = .ok (.aload_n 0, 1) := by decide +kernel
theorem dX0_init_10 : decode cX0_init 10 = .ok (.iload_n 1, 1) := by decide +kernel
theorem dX0_init_11 : decode cX0_init 11 = .ok (.putfield 15, 3) := by decide +kernel
theorem dX0_init_14 : decode cX0_init 14 = .ok (.return_, 1) := by decide +kernel
theorem dX0_addPart_0 : decode cX0_addPart 0 = .ok (.aload_n 0, 1) := by decide +kernel
theorem dX0_addPart_1 : decode cX0_addPart 1 = .ok (.getfield 18, 3) := by decide +kernel
theorem dX0_addPart_4 : decode cX0_addPart 4 = .ok (.ifnonnull 11, 3) := by decide +kernel
theorem dX0_addPart_7 : decode cX0_addPart 7 = .ok (.aload_n 0, 1) := by decide +kernel
theorem dX0_addPart_8 : decode cX0_addPart 8 = .ok (.aload_n 1, 1) := by decide +kernel
theorem dX0_addPart_9 : decode cX0_addPart 9 = .ok (.putfield 22, 3) := by decide +kernel
theorem dX0_addPart_12 : decode cX0_addPart 12 = .ok (.goto 11, 3) := by decide +kernel
theorem dX0_addPart_15 : decode cX0_addPart 15 = .ok (.aload_n 0, 1) := by decide +kernel
theorem dX0_addPart_16 : decode cX0_addPart 16 = .ok (.getfield 18, 3) := by decide +kernel
theorem dX0_addPart_19 : decode cX0_addPart 19 = .ok (.aload_n 1, 1) := by decide +kernel
theorem dX0_addPart_20 : decode cX0_addPart 20 = .ok (.putfield 25, 3) := by decide +kernel
theorem dX0_addPart_23 : decode cX0_addPart 23 = .ok (.aload_n 0, 1) := by decide +kernel
theorem dX0_addPart_24 : decode cX0_addPart 24 = .ok (.aload_n 1, 1) := by decide +kernel
theorem dX0_addPart_25 : decode cX0_addPart 25 = .ok (.putfield 18, 3) := by decide +kernel
theorem dX0_addPart_28 : decode cX0_addPart 28 = .ok (.aload_n 0, 1) := by decide +kernel
theorem dX0_addPart_29 : decode cX0_addPart 29 = .ok (.dup, 1) := by decide +kernel
theorem dX0_addPart_30 : decode cX0_addPart 30 = .ok (.getfield 28, 3) := by decide +kernel
theorem dX0_addPart_33 : decode cX0_addPart 33 = .ok (.iconst 1, 1) := by decide +kernel
theorem dX0_addPart_34 : decode cX0_addPart 34 = .ok (.iadd, 1) := by decide +kernel
theorem dX0_addPart_35 : decode cX0_addPart 35 = .ok (.putfield 28, 3) := by decide +kernel
theorem dX0_addPart_38 : decode cX0_addPart 38 = .ok (.return_, 1) := by decide +kernel
theorem dX0_tell_0 : decode cX0_tell 0 = .ok (.iload_n 1, 1) := by decide +kernel
theorem dX0_tell_1 : decode cX0_tell 1 = .ok (.tableswitch 51 0 3 #[31, 36, 41, 46], 31) := by decide +kernel
theorem dX0_tell_32 : decode cX0_tell 32 = .ok (.aload_n 0, 1) := by decide +kernel
theorem dX0_tell_33 : decode cX0_tell 33 = .ok (.getfield 15, 3) := by decide +kernel
theorem dX0_tell_36 : decode cX0_tell 36 = .ok (.ireturn, 1) := by decide +kernel
theorem dX0_tell_37 : decode cX0_tell 37 = .ok (.aload_n 0, 1) := by decide +kernel
theorem dX0_tell_38 : decode cX0_tell 38 = .ok (.getfield 31, 3) := by decide +kernel
theorem dX0_tell_41 : decode cX0_tell 41 = .ok (.ireturn, 1) := by decide +kernel
theorem dX0_tell_42 : decode cX0_tell 42 = .ok (.aload_n 0, 1) := by decide +kernel
theorem dX0_tell_43 : decode cX0_tell 43 = .ok (.getfield 28, 3) := by decide +kernel
theorem dX0_tell_46 : decode cX0_tell 46 = .ok (.ireturn, 1) := by decide +kernel
theorem dX0_tell_47 : decode cX0_tell 47 = .ok (.aload_n 0, 1) := by decide +kernel
theorem dX0_tell_48 : decode cX0_tell 48 = .ok (.getfield 9, 3) := by decide +kernel
theorem dX0_tell_51 : decode cX0_tell 51 = .ok (.ireturn, 1) := by decide +kernel
theorem dX0_tell_52 : decode cX0_tell 52 = .ok (.bipush (-2), 2) := by decide +kernel
theorem dX0_tell_54 : decode cX0_tell 54 = .ok (.ireturn, 1) := by decide +kernel
theorem dX1_init_0 : decode cX1_init 0 = .ok (.aload_n 0, 1) := by decide +kernel
theorem dX1_init_1 : decode cX1_init 1 = .ok (.invokespecial 3, 3) := by decide +kernel
theorem dX1_init_4 : decode cX1_init 4 = .ok (.aload_n 0, 1) := by decide +kernel
theorem dX1_init_5 : decode cX1_init 5 = .ok (.bipush 80, 2) := by decide +kernel
theorem dX1_init_7 : decode cX1_init 7 = .ok (.anewarray 9, 3) := by decide +kernel
theorem dX1_init_10 : decode cX1_init 10 = .ok (.putfield 11, 3) := by decide +kernel
theorem dX1_init_13 : decode cX1_init 13 = .ok (.return_, 1) := by decide +kernel
theorem dX1_makeNew_0 : decode cX1_makeNew 0 = .ok (.aload_n 0, 1) := by decide +kernel
theorem dX1_makeNew_1 : decode cX1_makeNew 1 = .ok (.iconst 0, 1) := by decide +kernel
theorem dX1_makeNew_2 : decode cX1_makeNew 2 = .ok (.putfield 17, 3) := by decide +kernel
theorem dX1_makeNew_5 : decode cX1_makeNew 5 = .ok (.aload_n 0, 1) := by decide +kernel
theorem dX1_makeNew_6 : decode cX1_makeNew 6 = .ok (.iconst 0, 1) := by decide +kernel
theorem dX1_makeNew_7 : decode cX1_makeNew 7 = .ok (.putfield 21, 3) := by decide +kernel
theorem dX1_makeNew_10 : decode cX1_makeNew 10 = .ok (.aload_n 0, 1) := by decide +kernel
theorem dX1_makeNew_11 : decode cX1_makeNew 11 = .ok (.iconst 0, 1) := by decide +kernel
theorem dX1_makeNew_12 : decode cX1_makeNew 12 = .ok (.putfield 25, 3) := by decide +kernel
theorem dX1_makeNew_15 : decode cX1_makeNew 15 = .ok (.aload_n 0, 1) := by decide +kernel
theorem dX1_makeNew_16 : decode cX1_makeNew 16 = .ok (.iconst 0, 1) := by decide +kernel
theorem dX1_makeNew_17 : decode cX1_makeNew 17 = .ok (.putfield 28, 3) := by decide +kernel
theorem dX1_makeNew_20 : decode cX1_makeNew 20 = .ok (.aload_n 0, 1) := by decide +kernel
theorem dX1_makeNew_21 : decode cX1_makeNew 21 = .ok (.iconst 0, 1) := by decide +kernel
theorem dX1_makeNew_22 : decode cX1_makeNew 22 = .ok (.putfield 31, 3) := by decide +kernel
theorem dX1_makeNew_25 : decode cX1_makeNew 25 = .ok (.aload_n 0, 1) := by decide +kernel
theorem dX1_makeNew_26 : decode cX1_makeNew 26 = .ok (.iconst 0, 1) := by decide +kernel
theorem dX1_makeNew_27 : decode cX1_makeNew 27 = .ok (.putfield 34, 3) := by decide +kernel
theorem dX1_makeNew_30 : decode cX1_makeNew 30 = .ok (.aload_n 0, 1) := by decide +kernel
theorem dX1_makeNew_31 : decode cX1_makeNew 31 = .ok (.iconst 0, 1) := by decide +kernel
theorem dX1_makeNew_32 : decode cX1_makeNew 32 = .ok (.putfield 37, 3) := by decide +kernel
theorem dX1_makeNew_35 : decode cX1_makeNew 35 = .ok (.aload_n 0, 1) := by decide +kernel
theorem dX1_makeNew_36 : decode cX1_makeNew 36 = .ok (.iconst 0, 1) := by decide +kernel
theorem dX1_makeNew_37 : decode cX1_makeNew 37 = .ok (.putfield 40, 3) := by decide +kernel
theorem dX1_makeNew_40 : decode cX1_makeNew 40 = .ok (.aload_n 0, 1) := by decide +kernel
theorem dX1_makeNew_41 : decode cX1_makeNew 41 = .ok (.iconst 0, 1) := by decide +kernel
theorem dX1_makeNew_42 : decode cX1_makeNew 42 = .ok (.putfield 43, 3) := by decide +kernel
theorem dX1_makeNew_45 : decode cX1_makeNew 45 = .ok (.aload_n 0, 1) := by decide +kernel
theorem dX1_makeNew_46 : decode cX1_makeNew 46 = .ok (.iconst 0, 1) := by decide +kernel
theorem dX1_makeNew_47 : decode cX1_makeNew 47 = .ok (.putfield 46, 3) := by decide +kernel
theorem dX1_makeNew_50 : decode cX1_makeNew 50 = .ok (.return_, 1) := by decide +kernel
theorem dX1_copyFrom_0 : decode cX1_copyFrom 0 = .ok (.aload_n 0, 1) := by decide +kernel
theorem dX1_copyFrom_1 : decode cX1_copyFrom 1 = .ok (.aload_n 1, 1) := by decide +kernel
theorem dX1_copyFrom_2 : decode cX1_copyFrom 2 = .ok (.getfield 17, 3) := by decide +kernel
theorem dX1_copyFrom_5 : decode cX1_copyFrom 5 = .ok (.putfield 17, 3) := by decide +kernel
theorem dX1_copyFrom_8 : decode cX1_copyFrom 8 = .ok (.aload_n 0, 1) := by decide +kernel
theorem dX1_copyFrom_9 : decode cX1_copyFrom 9 = .ok (.aload_n 1, 1) := by decide +kernel
theorem dX1_copyFrom_10 : decode cX1_copyFrom 10 = .ok (.getfield 21, 3) := by decide +kernel
theorem dX1_copyFrom_13 : decode cX1_copyFrom 13 = .ok (.putfield 21, 3) := by decide +kernel
theorem dX1_copyFrom_16 : decode cX1_copyFrom 16 = .ok (.aload_n 0, 1) := by decide +kernel
theorem dX1_copyFrom_17 : decode cX1_copyFrom 17 = .ok (.aload_n 1, 1) := by decide +kernel
theorem dX1_copyFrom_18 : decode cX1_copyFrom 18 = .ok (.getfield 25, 3) := by decide +kernel
theorem dX1_copyFrom_21 : decode cX1_copyFrom 21 = .ok (.putfield 25, 3) := by decide +kernel
theorem dX1_copyFrom_24 : decode cX1_copyFrom 24 = .ok (.aload_n 0, 1) := by decide +kernel
theorem dX1_copyFrom_25 : decode cX1_copyFrom 25 = .ok (.aload_n 1, 1) := by decide +kernel
theorem dX1_copyFrom_26 : decode cX1_copyFrom 26 = .ok (.getfield 28, 3) := by decide +kernel
theorem dX1_copyFrom_29 : decode cX1_copyFrom 29 = .ok (.putfield 28, 3) := by decide +kernel
theorem dX1_copyFrom_32 : decode cX1_copyFrom 32 = .ok (.aload_n 0, 1) := by decide +kernel
theorem dX1_copyFrom_33 : decode cX1_copyFrom 33 = .ok (.aload_n 1, 1) := by decide +kernel
theorem dX1_copyFrom_34 : decode cX1_copyFrom 34 = .ok (.getfield 31, 3) := by decide +kernel
theorem dX1_copyFrom_37 : decode cX1_copyFrom 37 = .ok (.putfield 31, 3) := by decide +kernel
theorem dX1_copyFrom_40 : decode cX1_copyFrom 40 = .ok (.aload_n 0, 1) := by decide +kernel
theorem dX1_copyFrom_41 : decode cX1_copyFrom 41 = .ok (.aload_n 1, 1) := by decide +kernel
theorem dX1_copyFrom_42 : decode cX1_copyFrom 42 = .ok (.getfield 34, 3) := by decide +kernel
theorem dX1_copyFrom_45 : decode cX1_copyFrom 45 = .ok (.putfield 34, 3) := by decide +kernel
theorem dX1_copyFrom_48 : decode cX1_copyFrom 48 = .ok (.aload_n 0, 1) := by decide +kernel
theorem dX1_copyFrom_49 : decode cX1_copyFrom 49 = .ok (.aload_n 1, 1) := by decide +kernel
theorem dX1_copyFrom_50 : decode cX1_copyFrom 50 = .ok (.getfield 37, 3) := by decide +kernel
theorem dX1_copyFrom_53 : decode cX1_copyFrom 53 = .ok (.putfield 37, 3) := by decide +kernel
theorem dX1_copyFrom_56 : decode cX1_copyFrom 56 = .ok (.aload_n 0, 1) := by decide +kernel
theorem dX1_copyFrom_57 : decode cX1_copyFrom 57 = .ok (.aload_n 1, 1) := by decide +kernel
theorem dX1_copyFrom_58 : decode cX1_copyFrom 58 = .ok (.getfield 40, 3) := by decide +kernel
theorem dX1_copyFrom_61 : decode cX1_copyFrom 61 = .ok (.putfield 40, 3) := by decide +kernel
theorem dX1_copyFrom_64 : decode cX1_copyFrom 64 = .ok (.aload_n 0, 1) := by decide +kernel
theorem dX1_copyFrom_65 : decode cX1_copyFrom 65 = .ok (.aload_n 1, 1) := by decide +kernel
theorem dX1_copyFrom_66 : decode cX1_copyFrom 66 = .ok (.getfield 43, 3) := by decide +kernel
theorem dX1_copyFrom_69 : decode cX1_copyFrom 69 = .ok (.putfield 43, 3) := by decide +kernel
theorem dX1_copyFrom_72 : decode cX1_copyFrom 72 = .ok (.aload_n 0, 1) := by decide +kernel
theorem dX1_copyFrom_73 : decode cX1_copyFrom 73 = .ok (.aload_n 1, 1) := by decide +kernel
theorem dX1_copyFrom_74 : decode cX1_copyFrom 74 = .ok (.getfield 46, 3) := by decide +kernel
theorem dX1_copyFrom_77 : decode cX1_copyFrom 77 = .ok (.putfield 46, 3) := by decide +kernel
theorem dX1_copyFrom_80 : decode cX1_copyFrom 80 = .ok (.iconst 0, 1) := by decide +kernel
theorem dX1_copyFrom_81 : decode cX1_copyFrom 81 = .ok (.istore_n 2, 1) := by decide +kernel
theorem dX1_copyFrom_82 : decode cX1_copyFrom 82 = .ok (.iload_n 2, 1) := by decide +kernel
theorem dX1_copyFrom_83 : decode cX1_copyFrom 83 = .ok (.aload_n 0, 1) := by decide +kernel
theorem dX1_copyFrom_84 : decode cX1_copyFrom 84 = .ok (.getfield 28, 3) := by decide +kernel
theorem dX1_copyFrom_87 : decode cX1_copyFrom 87 = .ok (.if_icmp .ge 30, 3) := by decide +kernel
theorem dX1_copyFrom_90 : decode cX1_copyFrom 90 = .ok (.iload_n 2, 1) := by decide +kernel
theorem dX1_copyFrom_91 : decode cX1_copyFrom 91 = .ok (.aload_n 0, 1) := by decide +kernel
theorem dX1_copyFrom_92 : decode cX1_copyFrom 92 = .ok (.getfield 11, 3) := by decide +kernel
theorem dX1_copyFrom_95 : decode cX1_copyFrom 95 = .ok (.arraylength, 1) := by decide +kernel
theorem dX1_copyFrom_96 : decode cX1_copyFrom 96 = .ok (.if_icmp .ge 21, 3) := by decide +kernel
theorem dX1_copyFrom_99 : decode cX1_copyFrom 99 = .ok (.aload_n 0, 1) := by decide +kernel
theorem dX1_copyFrom_100 : decode cX1_copyFrom 100 = .ok (.getfield 11, 3) := by decide +kernel
theorem dX1_copyFrom_103 : decode cX1_copyFrom 103 = .ok (.iload_n 2, 1) := by decide +kernel
theorem dX1_copyFrom_104 : decode cX1_copyFrom 104 = .ok (.aload_n 1, 1) := by decide +kernel
theorem dX1_copyFrom_105 : decode cX1_copyFrom 105 = .ok (.getfield 11, 3) := by decide +kernel
theorem dX1_copyFrom_108 : decode cX1_copyFrom 108 = .ok (.iload_n 2, 1) := by decide +kernel
theorem dX1_copyFrom_109 : decode cX1_copyFrom 109 = .ok (.aaload, 1) := by decide +kernel
theorem dX1_copyFrom_110 : decode cX1_copyFrom 110 = .ok (.aastore, 1) := by decide +kernel
theorem dX1_copyFrom_111 : decode cX1_copyFrom 111 = .ok (.iinc 2 1, 3) := by decide +kernel
theorem dX1_copyFrom_114 : decode cX1_copyFrom 114 = .ok (.goto (-32), 3) := by decide +kernel
theorem dX1_copyFrom_117 : decode cX1_copyFrom 117 = .ok (.return_, 1) := by decide +kernel
theorem dX1_takeIn_0 : decode cX1_takeIn 0 = .ok (.aload_n 0, 1) := by decide +kernel
theorem dX1_takeIn_1 : decode cX1_takeIn 1 = .ok (.iconst 1, 1) := by decide +kernel
theorem dX1_takeIn_2 : decode cX1_takeIn 2 = .ok (.putfield 17, 3) := by decide +kernel
theorem dX1_takeIn_5 : decode cX1_takeIn 5 = .ok (.aload_n 0, 1) := by decide +kernel
theorem dX1_takeIn_6 : decode cX1_takeIn 6 = .ok (.dup, 1) := by decide +kernel
theorem dX1_takeIn_7 : decode cX1_takeIn 7 = .ok (.getfield 37, 3) := by decide +kernel
theorem dX1_takeIn_10 : decode cX1_takeIn 10 = .ok (.iconst 1, 1) := by decide +kernel
theorem dX1_takeIn_11 : decode cX1_takeIn 11 = .ok (.iadd, 1) := by decide +kernel
theorem dX1_takeIn_12 : decode cX1_takeIn 12 = .ok (.putfield 37, 3) := by decide +kernel
theorem dX1_takeIn_15 : decode cX1_takeIn 15 = .ok (.aload_n 0, 1) := by decide +kernel
theorem dX1_takeIn_16 : decode cX1_takeIn 16 = .ok (.dup, 1) := by decide +kernel
theorem dX1_takeIn_17 : decode cX1_takeIn 17 = .ok (.getfield 25, 3) := by decide +kernel
theorem dX1_takeIn_20 : decode cX1_takeIn 20 = .ok (.aload_n 1, 1) := by decide +kernel
theorem dX1_takeIn_21 : decode cX1_takeIn 21 = .ok (.getfield 49, 3) := by decide +kernel
theorem dX1_takeIn_24 : decode cX1_takeIn 24 = .ok (.iadd, 1) := by decide +kernel
theorem dX1_takeIn_25 : decode cX1_takeIn 25 = .ok (.putfield 25, 3) := by decide +kernel
theorem dX1_takeIn_28 : decode cX1_takeIn 28 = .ok (.aload_n 1, 1) := by decide +kernel
theorem dX1_takeIn_29 : decode cX1_takeIn 29 = .ok (.getfield 50, 3) := by decide +kernel
theorem dX1_takeIn_32 : decode cX1_takeIn 32 = .ok (.astore_n 2, 1) := by decide +kernel
theorem dX1_takeIn_33 : decode cX1_takeIn 33 = .ok (.aload_n 2, 1) := by decide +kernel
theorem dX1_takeIn_34 : decode cX1_takeIn 34 = .ok (.ifnull 16, 3) := by decide +kernel
theorem dX1_takeIn_37 : decode cX1_takeIn 37 = .ok (.aload_n 0, 1) := by decide +kernel
theorem dX1_takeIn_38 : decode cX1_takeIn 38 = .ok (.aload_n 2, 1) := by decide +kernel
theorem dX1_takeIn_39 : decode cX1_takeIn 39 = .ok (.invokevirtual 54, 3) := by decide +kernel
theorem dX1_takeIn_42 : decode cX1_takeIn 42 = .ok (.aload_n 2, 1) := by decide +kernel
theorem dX1_takeIn_43 : decode cX1_takeIn 43 = .ok (.getfield 58, 3) := by decide +kernel
theorem dX1_takeIn_46 : decode cX1_takeIn 46 = .ok (.astore_n 2, 1) := by decide +kernel
theorem dX1_takeIn_47 : decode cX1_takeIn 47 = .ok (.goto (-14), 3) := by decide +kernel
theorem dX1_takeIn_50 : decode cX1_takeIn 50 = .ok (.return_, 1) := by decide +kernel
theorem dX1_lineUp_0 : decode cX1_lineUp 0 = .ok (.aload_n 0, 1) := by decide +kernel
theorem dX1_lineUp_1 : decode cX1_lineUp 1 = .ok (.getfield 28, 3) := by decide +kernel
theorem dX1_lineUp_4 : decode cX1_lineUp 4 = .ok (.aload_n 0, 1) := by decide +kernel
theorem dX1_lineUp_5 : decode cX1_lineUp 5 = .ok (.getfield 11, 3) := by decide +kernel
theorem dX1_lineUp_8 : decode cX1_lineUp 8 = .ok (.arraylength, 1) := by decide +kernel
theorem dX1_lineUp_9 : decode cX1_lineUp 9 = .ok (.if_icmp .ge 23, 3) := by decide +kernel
theorem dX1_lineUp_12 : decode cX1_lineUp 12 = .ok (.aload_n 0, 1) := by decide +kernel
theorem dX1_lineUp_13 : decode cX1_lineUp 13 = .ok (.getfield 11, 3) := by decide +kernel
theorem dX1_lineUp_16 : decode cX1_lineUp 16 = .ok (.aload_n 0, 1) := by decide +kernel
theorem dX1_lineUp_17 : decode cX1_lineUp 17 = .ok (.getfield 28, 3) := by decide +kernel
theorem dX1_lineUp_20 : decode cX1_lineUp 20 = .ok (.aload_n 1, 1) := by decide +kernel
theorem dX1_lineUp_21 : decode cX1_lineUp 21 = .ok (.aastore, 1) := by decide +kernel
theorem dX1_lineUp_22 : decode cX1_lineUp 22 = .ok (.aload_n 0, 1) := by decide +kernel
theorem dX1_lineUp_23 : decode cX1_lineUp 23 = .ok (.dup, 1) := by decide +kernel
theorem dX1_lineUp_24 : decode cX1_lineUp 24 = .ok (.getfield 28, 3) := by decide +kernel
theorem dX1_lineUp_27 : decode cX1_lineUp 27 = .ok (.iconst 1, 1) := by decide +kernel
theorem dX1_lineUp_28 : decode cX1_lineUp 28 = .ok (.iadd, 1) := by decide +kernel
theorem dX1_lineUp_29 : decode cX1_lineUp 29 = .ok (.putfield 28, 3) := by decide +kernel
theorem dX1_lineUp_32 : decode cX1_lineUp 32 = .ok (.return_, 1) := by decide +kernel
theorem dX1_waitingAt_0 : decode cX1_waitingAt 0 = .ok (.iload_n 1, 1) := by decide +kernel
theorem dX1_waitingAt_1 : decode cX1_waitingAt 1 = .ok (.ifCond .lt 29, 3) := by decide +kernel
theorem dX1_waitingAt_4 : decode cX1_waitingAt 4 = .ok (.iload_n 1, 1) := by decide +kernel
theorem dX1_waitingAt_5 : decode cX1_waitingAt 5 = .ok (.aload_n 0, 1) := by decide +kernel
theorem dX1_waitingAt_6 : decode cX1_waitingAt 6 = .ok (.getfield 28, 3) := by decide +kernel
theorem dX1_waitingAt_9 : decode cX1_waitingAt 9 = .ok (.if_icmp .ge 21, 3) := by decide +kernel
theorem dX1_waitingAt_12 : decode cX1_waitingAt 12 = .ok (.iload_n 1, 1) := by decide +kernel
theorem dX1_waitingAt_13 : decode cX1_waitingAt 13 = .ok (.aload_n 0, 1) := by decide +kernel
theorem dX1_waitingAt_14 : decode cX1_waitingAt 14 = .ok (.getfield 11, 3) := by decide +kernel
theorem dX1_waitingAt_17 : decode cX1_waitingAt 17 = .ok (.arraylength, 1) := by decide +kernel
theorem dX1_waitingAt_18 : decode cX1_waitingAt 18 = .ok (.if_icmp .ge 12, 3) := by decide +kernel
theorem dX1_waitingAt_21 : decode cX1_waitingAt 21 = .ok (.aload_n 0, 1) := by decide +kernel
theorem dX1_waitingAt_22 : decode cX1_waitingAt 22 = .ok (.getfield 11, 3) := by decide +kernel
theorem dX1_waitingAt_25 : decode cX1_waitingAt 25 = .ok (.iload_n 1, 1) := by decide +kernel
theorem dX1_waitingAt_26 : decode cX1_waitingAt 26 = .ok (.aaload, 1) := by decide +kernel
theorem dX1_waitingAt_27 : decode cX1_waitingAt 27 = .ok (.goto 4, 3) := by decide +kernel
theorem dX1_waitingAt_30 : decode cX1_waitingAt 30 = .ok (.aconst_null, 1) := by decide +kernel
theorem dX1_waitingAt_31 : decode cX1_waitingAt 31 = .ok (.areturn, 1) := by decide +kernel
theorem dX1_removeFirst_0 : decode cX1_removeFirst 0 = .ok (.iconst 0, 1) := by decide +kernel
theorem dX1_removeFirst_1 : decode cX1_removeFirst 1 = .ok (.istore_n 1, 1) := by decide +kernel
theorem dX1_removeFirst_2 : decode cX1_removeFirst 2 = .ok (.iload_n 1, 1) := by decide +kernel
theorem dX1_removeFirst_3 : decode cX1_removeFirst 3 = .ok (.iconst 1, 1) := by decide +kernel
theorem dX1_removeFirst_4 : decode cX1_removeFirst 4 = .ok (.iadd, 1) := by decide +kernel
theorem dX1_removeFirst_5 : decode cX1_removeFirst 5 = .ok (.aload_n 0, 1) := by decide +kernel
theorem dX1_removeFirst_6 : decode cX1_removeFirst 6 = .ok (.getfield 28, 3) := by decide +kernel
theorem dX1_removeFirst_9 : decode cX1_removeFirst 9 = .ok (.if_icmp .ge 34, 3) := by decide +kernel
theorem dX1_removeFirst_12 : decode cX1_removeFirst 12 = .ok (.iload_n 1, 1) := by decide +kernel
theorem dX1_removeFirst_13 : decode cX1_removeFirst 13 = .ok (.iconst 1, 1) := by decide +kernel
theorem dX1_removeFirst_14 : decode cX1_removeFirst 14 = .ok (.iadd, 1) := by decide +kernel
theorem dX1_removeFirst_15 : decode cX1_removeFirst 15 = .ok (.aload_n 0, 1) := by decide +kernel
theorem dX1_removeFirst_16 : decode cX1_removeFirst 16 = .ok (.getfield 11, 3) := by decide +kernel
theorem dX1_removeFirst_19 : decode cX1_removeFirst 19 = .ok (.arraylength, 1) := by decide +kernel
theorem dX1_removeFirst_20 : decode cX1_removeFirst 20 = .ok (.if_icmp .ge 23, 3) := by decide +kernel
theorem dX1_removeFirst_23 : decode cX1_removeFirst 23 = .ok (.aload_n 0, 1) := by decide +kernel
theorem dX1_removeFirst_24 : decode cX1_removeFirst 24 = .ok (.getfield 11, 3) := by decide +kernel
theorem dX1_removeFirst_27 : decode cX1_removeFirst 27 = .ok (.iload_n 1, 1) := by decide +kernel
theorem dX1_removeFirst_28 : decode cX1_removeFirst 28 = .ok (.aload_n 0, 1) := by decide +kernel
theorem dX1_removeFirst_29 : decode cX1_removeFirst 29 = .ok (.getfield 11, 3) := by decide +kernel
theorem dX1_removeFirst_32 : decode cX1_removeFirst 32 = .ok (.iload_n 1, 1) := by decide +kernel
theorem dX1_removeFirst_33 : decode cX1_removeFirst 33 = .ok (.iconst 1, 1) := by decide +kernel
theorem dX1_removeFirst_34 : decode cX1_removeFirst 34 = .ok (.iadd, 1) := by decide +kernel
theorem dX1_removeFirst_35 : decode cX1_removeFirst 35 = .ok (.aaload, 1) := by decide +kernel
theorem dX1_removeFirst_36 : decode cX1_removeFirst 36 = .ok (.aastore, 1) := by decide +kernel
theorem dX1_removeFirst_37 : decode cX1_removeFirst 37 = .ok (.iinc 1 1, 3) := by decide +kernel
theorem dX1_removeFirst_40 : decode cX1_removeFirst 40 = .ok (.goto (-38), 3) := by decide +kernel
theorem dX1_removeFirst_43 : decode cX1_removeFirst 43 = .ok (.aload_n 0, 1) := by decide +kernel
theorem dX1_removeFirst_44 : decode cX1_removeFirst 44 = .ok (.dup, 1) := by decide +kernel
theorem dX1_removeFirst_45 : decode cX1_removeFirst 45 = .ok (.getfield 28, 3) := by decide +kernel
theorem dX1_removeFirst_48 : decode cX1_removeFirst 48 = .ok (.iconst 1, 1) := by decide +kernel
theorem dX1_removeFirst_49 : decode cX1_removeFirst 49 = .ok (.isub, 1) := by decide +kernel
theorem dX1_removeFirst_50 : decode cX1_removeFirst 50 = .ok (.putfield 28, 3) := by decide +kernel
theorem dX1_removeFirst_53 : decode cX1_removeFirst 53 = .ok (.return_, 1) := by decide +kernel
theorem dX1_errandsWithin_0 : decode cX1_errandsWithin 0 = .ok (.iconst 0, 1) := by decide +kernel
theorem dX1_errandsWithin_1 : decode cX1_errandsWithin 1 = .ok (.istore_n 1, 1) := by decide +kernel
theorem dX1_errandsWithin_2 : decode cX1_errandsWithin 2 = .ok (.iconst 0, 1) := by decide +kernel
theorem dX1_errandsWithin_3 : decode cX1_errandsWithin 3 = .ok (.istore_n 2, 1) := by decide +kernel
theorem dX1_errandsWithin_4 : decode cX1_errandsWithin 4 = .ok (.iload_n 2, 1) := by decide +kernel
theorem dX1_errandsWithin_5 : decode cX1_errandsWithin 5 = .ok (.aload_n 0, 1) := by decide +kernel
theorem dX1_errandsWithin_6 : decode cX1_errandsWithin 6 = .ok (.getfield 28, 3) := by decide +kernel
theorem dX1_errandsWithin_9 : decode cX1_errandsWithin 9 = .ok (.if_icmp .ge 43, 3) := by decide +kernel
theorem dX1_errandsWithin_12 : decode cX1_errandsWithin 12 = .ok (.iload_n 2, 1) := by decide +kernel
theorem dX1_errandsWithin_13 : decode cX1_errandsWithin 13 = .ok (.aload_n 0, 1) := by decide +kernel
theorem dX1_errandsWithin_14 : decode cX1_errandsWithin 14 = .ok (.getfield 11, 3) := by decide +kernel
theorem dX1_errandsWithin_17 : decode cX1_errandsWithin 17 = .ok (.arraylength, 1) := by decide +kernel
theorem dX1_errandsWithin_18 : decode cX1_errandsWithin 18 = .ok (.if_icmp .ge 34, 3) := by decide +kernel
theorem dX1_errandsWithin_21 : decode cX1_errandsWithin 21 = .ok (.iload_n 1, 1) := by decide +kernel
theorem dX1_errandsWithin_22 : decode cX1_errandsWithin 22 = .ok (.aload_n 0, 1) := by decide +kernel
theorem dX1_errandsWithin_23 : decode cX1_errandsWithin 23 = .ok (.getfield 11, 3) := by decide +kernel
theorem dX1_errandsWithin_26 : decode cX1_errandsWithin 26 = .ok (.iload_n 2, 1) := by decide +kernel
theorem dX1_errandsWithin_27 : decode cX1_errandsWithin 27 = .ok (.aaload, 1) := by decide +kernel
theorem dX1_errandsWithin_28 : decode cX1_errandsWithin 28 = .ok (.ifnonnull 7, 3) := by decide +kernel
theorem dX1_errandsWithin_31 : decode cX1_errandsWithin 31 = .ok (.iconst 0, 1) := by decide +kernel
theorem dX1_errandsWithin_32 : decode cX1_errandsWithin 32 = .ok (.goto 12, 3) := by decide +kernel
theorem dX1_errandsWithin_35 : decode cX1_errandsWithin 35 = .ok (.aload_n 0, 1) := by decide +kernel
theorem dX1_errandsWithin_36 : decode cX1_errandsWithin 36 = .ok (.getfield 11, 3) := by decide +kernel
theorem dX1_errandsWithin_39 : decode cX1_errandsWithin 39 = .ok (.iload_n 2, 1) := by decide +kernel
theorem dX1_errandsWithin_40 : decode cX1_errandsWithin 40 = .ok (.aaload, 1) := by decide +kernel
theorem dX1_errandsWithin_41 : decode cX1_errandsWithin 41 = .ok (.getfield 61, 3) := by decide +kernel
theorem dX1_errandsWithin_44 : decode cX1_errandsWithin 44 = .ok (.iadd, 1) := by decide +kernel
theorem dX1_errandsWithin_45 : decode cX1_errandsWithin 45 = .ok (.istore_n 1, 1) := by decide +kernel
theorem dX1_errandsWithin_46 : decode cX1_errandsWithin 46 = .ok (.iinc 2 1, 3) := by decide +kernel
theorem dX1_errandsWithin_49 : decode cX1_errandsWithin 49 = .ok (.goto (-45), 3) := by decide +kernel
theorem dX1_errandsWithin_52 : decode cX1_errandsWithin 52 = .ok (.iload_n 1, 1) := by decide +kernel
theorem dX1_errandsWithin_53 : decode cX1_errandsWithin 53 = .ok (.ireturn, 1) := by decide +kernel
theorem dX1_isStuck_0 : decode cX1_isStuck 0 = .ok (.aload_n 0, 1) := by decide +kernel
theorem dX1_isStuck_1 : decode cX1_isStuck 1 = .ok (.getfield 17, 3) := by decide +kernel
theorem dX1_isStuck_4 : decode cX1_isStuck 4 = .ok (.ifCond .eq 17, 3) := by decide +kernel
theorem dX1_isStuck_7 : decode cX1_isStuck 7 = .ok (.aload_n 0, 1) := by decide +kernel
theorem dX1_isStuck_8 : decode cX1_isStuck 8 = .ok (.getfield 25, 3) := by decide +kernel
theorem dX1_isStuck_11 : decode cX1_isStuck 11 = .ok (.ifCond .ne 14, 3) := by decide +kernel
theorem dX1_isStuck_14 : decode cX1_isStuck 14 = .ok (.aload_n 0, 1) := by decide +kernel
theorem dX1_isStuck_15 : decode cX1_isStuck 15 = .ok (.getfield 31, 3) := by decide +kernel
theorem dX1_isStuck_18 : decode cX1_isStuck 18 = .ok (.ifCond .eq 7, 3) := by decide +kernel
theorem dX1_isStuck_21 : decode cX1_isStuck 21 = .ok (.iconst 1, 1) := by decide +kernel
theorem dX1_isStuck_22 : decode cX1_isStuck 22 = .ok (.goto 4, 3) := by decide +kernel
theorem dX1_isStuck_25 : decode cX1_isStuck 25 = .ok (.iconst 0, 1) := by decide +kernel
theorem dX1_isStuck_26 : decode cX1_isStuck 26 = .ok (.ireturn, 1) := by decide +kernel
theorem dX1_tell_0 : decode cX1_tell 0 = .ok (.iload_n 1, 1) := by decide +kernel
theorem dX1_tell_1 : decode cX1_tell 1 = .ok (.tableswitch 112 0 8 #[51, 64, 69, 74, 79, 92, 97, 102, 107], 51) := by decide +kernel
theorem dX1_tell_52 : decode cX1_tell 52 = .ok (.aload_n 0, 1) := by decide +kernel
theorem dX1_tell_53 : decode cX1_tell 53 = .ok (.getfield 17, 3) := by decide +kernel
theorem dX1_tell_56 : decode cX1_tell 56 = .ok (.ifCond .eq 7, 3) := by decide +kernel
theorem dX1_tell_59 : decode cX1_tell 59 = .ok (.iconst 1, 1) := by decide +kernel
theorem dX1_tell_60 : decode cX1_tell 60 = .ok (.goto 4, 3) := by decide +kernel
theorem dX1_tell_63 : decode cX1_tell 63 = .ok (.iconst 0, 1) := by decide +kernel
theorem dX1_tell_64 : decode cX1_tell 64 = .ok (.ireturn, 1) := by decide +kernel
theorem dX1_tell_65 : decode cX1_tell 65 = .ok (.aload_n 0, 1) := by decide +kernel
theorem dX1_tell_66 : decode cX1_tell 66 = .ok (.getfield 21, 3) := by decide +kernel
theorem dX1_tell_69 : decode cX1_tell 69 = .ok (.ireturn, 1) := by decide +kernel
theorem dX1_tell_70 : decode cX1_tell 70 = .ok (.aload_n 0, 1) := by decide +kernel
theorem dX1_tell_71 : decode cX1_tell 71 = .ok (.getfield 25, 3) := by decide +kernel
theorem dX1_tell_74 : decode cX1_tell 74 = .ok (.ireturn, 1) := by decide +kernel
theorem dX1_tell_75 : decode cX1_tell 75 = .ok (.aload_n 0, 1) := by decide +kernel
theorem dX1_tell_76 : decode cX1_tell 76 = .ok (.getfield 28, 3) := by decide +kernel
theorem dX1_tell_79 : decode cX1_tell 79 = .ok (.ireturn, 1) := by decide +kernel
theorem dX1_tell_80 : decode cX1_tell 80 = .ok (.aload_n 0, 1) := by decide +kernel
theorem dX1_tell_81 : decode cX1_tell 81 = .ok (.getfield 31, 3) := by decide +kernel
theorem dX1_tell_84 : decode cX1_tell 84 = .ok (.ifCond .eq 7, 3) := by decide +kernel
theorem dX1_tell_87 : decode cX1_tell 87 = .ok (.iconst 1, 1) := by decide +kernel
theorem dX1_tell_88 : decode cX1_tell 88 = .ok (.goto 4, 3) := by decide +kernel
theorem dX1_tell_91 : decode cX1_tell 91 = .ok (.iconst 0, 1) := by decide +kernel
theorem dX1_tell_92 : decode cX1_tell 92 = .ok (.ireturn, 1) := by decide +kernel
theorem dX1_tell_93 : decode cX1_tell 93 = .ok (.aload_n 0, 1) := by decide +kernel
theorem dX1_tell_94 : decode cX1_tell 94 = .ok (.getfield 37, 3) := by decide +kernel
theorem dX1_tell_97 : decode cX1_tell 97 = .ok (.ireturn, 1) := by decide +kernel
theorem dX1_tell_98 : decode cX1_tell 98 = .ok (.aload_n 0, 1) := by decide +kernel
theorem dX1_tell_99 : decode cX1_tell 99 = .ok (.getfield 40, 3) := by decide +kernel
theorem dX1_tell_102 : decode cX1_tell 102 = .ok (.ireturn, 1) := by decide +kernel
theorem dX1_tell_103 : decode cX1_tell 103 = .ok (.aload_n 0, 1) := by decide +kernel
theorem dX1_tell_104 : decode cX1_tell 104 = .ok (.getfield 43, 3) := by decide +kernel
theorem dX1_tell_107 : decode cX1_tell 107 = .ok (.ireturn, 1) := by decide +kernel
theorem dX1_tell_108 : decode cX1_tell 108 = .ok (.aload_n 0, 1) := by decide +kernel
theorem dX1_tell_109 : decode cX1_tell 109 = .ok (.getfield 46, 3) := by decide +kernel
theorem dX1_tell_112 : decode cX1_tell 112 = .ok (.ireturn, 1) := by decide +kernel
theorem dX1_tell_113 : decode cX1_tell 113 = .ok (.bipush (-2), 2) := by decide +kernel
theorem dX1_tell_115 : decode cX1_tell 115 = .ok (.ireturn, 1) := by decide +kernel
theorem dX2_init_0 : decode cX2_init 0 = .ok (.aload_n 0, 1) := by decide +kernel
theorem dX2_init_1 : decode cX2_init 1 = .ok (.invokespecial 3, 3) := by decide +kernel
theorem dX2_init_4 : decode cX2_init 4 = .ok (.return_, 1) := by decide +kernel
theorem dX2_copyFrom_0 : decode cX2_copyFrom 0 = .ok (.aload_n 0, 1) := by decide +kernel
theorem dX2_copyFrom_1 : decode cX2_copyFrom 1 = .ok (.aload_n 1, 1) := by decide +kernel
theorem dX2_copyFrom_2 : decode cX2_copyFrom 2 = .ok (.getfield 9, 3) := by decide +kernel
theorem dX2_copyFrom_5 : decode cX2_copyFrom 5 = .ok (.putfield 9, 3) := by decide +kernel
theorem dX2_copyFrom_8 : decode cX2_copyFrom 8 = .ok (.aload_n 0, 1) := by decide +kernel
theorem dX2_copyFrom_9 : decode cX2_copyFrom 9 = .ok (.aload_n 1, 1) := by decide +kernel
theorem dX2_copyFrom_10 : decode cX2_copyFrom 10 = .ok (.getfield 15, 3) := by decide +kernel
theorem dX2_copyFrom_13 : decode cX2_copyFrom 13 = .ok (.putfield 15, 3) := by decide +kernel
theorem dX2_copyFrom_16 : decode cX2_copyFrom 16 = .ok (.aload_n 0, 1) := by decide +kernel
theorem dX2_copyFrom_17 : decode cX2_copyFrom 17 = .ok (.aload_n 1, 1) := by decide +kernel
theorem dX2_copyFrom_18 : decode cX2_copyFrom 18 = .ok (.getfield 18, 3) := by decide +kernel
theorem dX2_copyFrom_21 : decode cX2_copyFrom 21 = .ok (.putfield 18, 3) := by decide +kernel
theorem dX2_copyFrom_24 : decode cX2_copyFrom 24 = .ok (.aload_n 0, 1) := by decide +kernel
theorem dX2_copyFrom_25 : decode cX2_copyFrom 25 = .ok (.aload_n 1, 1) := by decide +kernel
theorem dX2_copyFrom_26 : decode cX2_copyFrom 26 = .ok (.getfield 21, 3) := by decide +kernel
theorem dX2_copyFrom_29 : decode cX2_copyFrom 29 = .ok (.putfield 21, 3) := by decide +kernel
theorem dX2_copyFrom_32 : decode cX2_copyFrom 32 = .ok (.aload_n 0, 1) := by decide +kernel
theorem dX2_copyFrom_33 : decode cX2_copyFrom 33 = .ok (.aload_n 1, 1) := by decide +kernel
theorem dX2_copyFrom_34 : decode cX2_copyFrom 34 = .ok (.getfield 24, 3) := by decide +kernel
theorem dX2_copyFrom_37 : decode cX2_copyFrom 37 = .ok (.putfield 24, 3) := by decide +kernel
theorem dX2_copyFrom_40 : decode cX2_copyFrom 40 = .ok (.aload_n 0, 1) := by decide +kernel
theorem dX2_copyFrom_41 : decode cX2_copyFrom 41 = .ok (.aload_n 1, 1) := by decide +kernel
theorem dX2_copyFrom_42 : decode cX2_copyFrom 42 = .ok (.getfield 27, 3) := by decide +kernel
theorem dX2_copyFrom_45 : decode cX2_copyFrom 45 = .ok (.putfield 27, 3) := by decide +kernel
theorem dX2_copyFrom_48 : decode cX2_copyFrom 48 = .ok (.return_, 1) := by decide +kernel
theorem dX2_errands_0 : decode cX2_errands 0 = .ok (.aload_n 0, 1) := by decide +kernel
theorem dX2_errands_1 : decode cX2_errands 1 = .ok (.getfield 27, 3) := by decide +kernel
theorem dX2_errands_4 : decode cX2_errands 4 = .ok (.ifnonnull 7, 3) := by decide +kernel
theorem dX2_errands_7 : decode cX2_errands 7 = .ok (.iconst 0, 1) := by decide +kernel
theorem dX2_errands_8 : decode cX2_errands 8 = .ok (.goto 10, 3) := by decide +kernel
theorem dX2_errands_11 : decode cX2_errands 11 = .ok (.aload_n 0, 1) := by decide +kernel
theorem dX2_errands_12 : decode cX2_errands 12 = .ok (.getfield 27, 3) := by decide +kernel
theorem dX2_errands_15 : decode cX2_errands 15 = .ok (.getfield 31, 3) := by decide +kernel
theorem dX2_errands_18 : decode cX2_errands 18 = .ok (.ireturn, 1) := by decide +kernel
theorem dX2_tell_0 : decode cX2_tell 0 = .ok (.iload_n 1, 1) := by decide +kernel
theorem dX2_tell_1 : decode cX2_tell 1 = .ok (.tableswitch 94 0 6 #[43, 48, 53, 58, 63, 70, 89], 43) := by decide +kernel
theorem dX2_tell_44 : decode cX2_tell 44 = .ok (.aload_n 0, 1) := by decide +kernel
theorem dX2_tell_45 : decode cX2_tell 45 = .ok (.getfield 9, 3) := by decide +kernel
theorem dX2_tell_48 : decode cX2_tell 48 = .ok (.ireturn, 1) := by decide +kernel
theorem dX2_tell_49 : decode cX2_tell 49 = .ok (.aload_n 0, 1) := by decide +kernel
theorem dX2_tell_50 : decode cX2_tell 50 = .ok (.getfield 15, 3) := by decide +kernel
theorem dX2_tell_53 : decode cX2_tell 53 = .ok (.ireturn, 1) := by decide +kernel
theorem dX2_tell_54 : decode cX2_tell 54 = .ok (.aload_n 0, 1) := by decide +kernel
theorem dX2_tell_55 : decode cX2_tell 55 = .ok (.getfield 18, 3) := by decide +kernel
theorem dX2_tell_58 : decode cX2_tell 58 = .ok (.ireturn, 1) := by decide +kernel
theorem dX2_tell_59 : decode cX2_tell 59 = .ok (.aload_n 0, 1) := by decide +kernel
theorem dX2_tell_60 : decode cX2_tell 60 = .ok (.getfield 21, 3) := by decide +kernel
theorem dX2_tell_63 : decode cX2_tell 63 = .ok (.ireturn, 1) := by decide +kernel
theorem dX2_tell_64 : decode cX2_tell 64 = .ok (.aload_n 0, 1) := by decide +kernel
theorem dX2_tell_65 : decode cX2_tell 65 = .ok (.getfield 24, 3) := by decide +kernel
theorem dX2_tell_68 : decode cX2_tell 68 = .ok (.iload_n 2, 1) := by decide +kernel
theorem dX2_tell_69 : decode cX2_tell 69 = .ok (.isub, 1) := by decide +kernel
theorem dX2_tell_70 : decode cX2_tell 70 = .ok (.ireturn, 1) := by decide +kernel
theorem dX2_tell_71 : decode cX2_tell 71 = .ok (.aload_n 0, 1) := by decide +kernel
theorem dX2_tell_72 : decode cX2_tell 72 = .ok (.getfield 27, 3) := by decide +kernel
theorem dX2_tell_75 : decode cX2_tell 75 = .ok (.ifnonnull 7, 3) := by decide +kernel
theorem dX2_tell_78 : decode cX2_tell 78 = .ok (.iconst 0, 1) := by decide +kernel
theorem dX2_tell_79 : decode cX2_tell 79 = .ok (.goto 10, 3) := by decide +kernel
theorem dX2_tell_82 : decode cX2_tell 82 = .ok (.aload_n 0, 1) := by decide +kernel
theorem dX2_tell_83 : decode cX2_tell 83 = .ok (.getfield 27, 3) := by decide +kernel
theorem dX2_tell_86 : decode cX2_tell 86 = .ok (.getfield 36, 3) := by decide +kernel
theorem dX2_tell_89 : decode cX2_tell 89 = .ok (.ireturn, 1) := by decide +kernel
theorem dX2_tell_90 : decode cX2_tell 90 = .ok (.aload_n 0, 1) := by decide +kernel
theorem dX2_tell_91 : decode cX2_tell 91 = .ok (.invokevirtual 39, 3) := by decide +kernel
theorem dX2_tell_94 : decode cX2_tell 94 = .ok (.ireturn, 1) := by decide +kernel
theorem dX2_tell_95 : decode cX2_tell 95 = .ok (.bipush (-2), 2) := by decide +kernel
theorem dX2_tell_97 : decode cX2_tell 97 = .ok (.ireturn, 1) := by decide +kernel
theorem dX3_init_0 : decode cX3_init 0 = .ok (.aload_n 0, 1) := by decide +kernel
theorem dX3_init_1 : decode cX3_init 1 = .ok (.invokespecial 3, 3) := by decide +kernel
theorem dX3_init_4 : decode cX3_init 4 = .ok (.aload_n 0, 1) := by decide +kernel
theorem dX3_init_5 : decode cX3_init 5 = .ok (.bipush 15, 2) := by decide +kernel
theorem dX3_init_7 : decode cX3_init 7 = .ok (.anewarray 9, 3) := by decide +kernel
theorem dX3_init_10 : decode cX3_init 10 = .ok (.putfield 11, 3) := by decide +kernel
theorem dX3_init_13 : decode cX3_init 13 = .ok (.aload_n 0, 1) := by decide +kernel
theorem dX3_init_14 : decode cX3_init 14 = .ok (.bipush 15, 2) := by decide +kernel
theorem dX3_init_16 : decode cX3_init 16 = .ok (.anewarray 9, 3) := by decide +kernel
theorem dX3_init_19 : decode cX3_init 19 = .ok (.putfield 17, 3) := by decide +kernel
theorem dX3_init_22 : decode cX3_init 22 = .ok (.return_, 1) := by decide +kernel
theorem dX3_read_0 : decode cX3_read 0 = .ok (.aload_n 0, 1) := by decide +kernel
theorem dX3_read_1 : decode cX3_read 1 = .ok (.iconst 0, 1) := by decide +kernel
theorem dX3_read_2 : decode cX3_read 2 = .ok (.putfield 20, 3) := by decide +kernel
theorem dX3_read_5 : decode cX3_read 5 = .ok (.aload_n 0, 1) := by decide +kernel
theorem dX3_read_6 : decode cX3_read 6 = .ok (.iconst 0, 1) := by decide +kernel
theorem dX3_read_7 : decode cX3_read 7 = .ok (.putfield 24, 3) := by decide +kernel
theorem dX3_read_10 : decode cX3_read 10 = .ok (.aload_n 0, 1) := by decide +kernel
theorem dX3_read_11 : decode cX3_read 11 = .ok (.iconst 0, 1) := by decide +kernel
theorem dX3_read_12 : decode cX3_read 12 = .ok (.putfield 27, 3) := by decide +kernel
theorem dX3_read_15 : decode cX3_read 15 = .ok (.aload_n 0, 1) := by decide +kernel
theorem dX3_read_16 : decode cX3_read 16 = .ok (.iconst 0, 1) := by decide +kernel
theorem dX3_read_17 : decode cX3_read 17 = .ok (.putfield 30, 3) := by decide +kernel
theorem dX3_read_20 : decode cX3_read 20 = .ok (.aload_n 0, 1) := by decide +kernel
theorem dX3_read_21 : decode cX3_read 21 = .ok (.iconst 0, 1) := by decide +kernel
theorem dX3_read_22 : decode cX3_read 22 = .ok (.putfield 33, 3) := by decide +kernel
theorem dX3_read_25 : decode cX3_read 25 = .ok (.aload_n 0, 1) := by decide +kernel
theorem dX3_read_26 : decode cX3_read 26 = .ok (.iconst 0, 1) := by decide +kernel
theorem dX3_read_27 : decode cX3_read 27 = .ok (.putfield 36, 3) := by decide +kernel
theorem dX3_read_30 : decode cX3_read 30 = .ok (.aload_n 0, 1) := by decide +kernel
theorem dX3_read_31 : decode cX3_read 31 = .ok (.iconst 0, 1) := by decide +kernel
theorem dX3_read_32 : decode cX3_read 32 = .ok (.putfield 39, 3) := by decide +kernel
theorem dX3_read_35 : decode cX3_read 35 = .ok (.iconst 0, 1) := by decide +kernel
theorem dX3_read_36 : decode cX3_read 36 = .ok (.istore_n 3, 1) := by decide +kernel
theorem dX3_read_37 : decode cX3_read 37 = .ok (.iload_n 3, 1) := by decide +kernel
theorem dX3_read_38 : decode cX3_read 38 = .ok (.iload_n 2, 1) := by decide +kernel
theorem dX3_read_39 : decode cX3_read 39 = .ok (.if_icmp .ge 27, 3) := by decide +kernel
theorem dX3_read_42 : decode cX3_read 42 = .ok (.iload_n 3, 1) := by decide +kernel
theorem dX3_read_43 : decode cX3_read 43 = .ok (.aload_n 1, 1) := by decide +kernel
theorem dX3_read_44 : decode cX3_read 44 = .ok (.arraylength, 1) := by decide +kernel
theorem dX3_read_45 : decode cX3_read 45 = .ok (.if_icmp .ge 21, 3) := by decide +kernel
theorem dX3_read_48 : decode cX3_read 48 = .ok (.aload_n 0, 1) := by decide +kernel
theorem dX3_read_49 : decode cX3_read 49 = .ok (.aload_n 1, 1) := by decide +kernel
theorem dX3_read_50 : decode cX3_read 50 = .ok (.iload_n 3, 1) := by decide +kernel
theorem dX3_read_51 : decode cX3_read 51 = .ok (.caload, 1) := by decide +kernel
theorem dX3_read_52 : decode cX3_read 52 = .ok (.invokevirtual 42, 3) := by decide +kernel
theorem dX3_read_55 : decode cX3_read 55 = .ok (.ifCond .ne 5, 3) := by decide +kernel
theorem dX3_read_58 : decode cX3_read 58 = .ok (.iload_n 3, 1) := by decide +kernel
theorem dX3_read_59 : decode cX3_read 59 = .ok (.ireturn, 1) := by decide +kernel
theorem dX3_read_60 : decode cX3_read 60 = .ok (.iinc 3 1, 3) := by decide +kernel
theorem dX3_read_63 : decode cX3_read 63 = .ok (.goto (-26), 3) := by decide +kernel
theorem dX3_read_66 : decode cX3_read 66 = .ok (.aload_n 0, 1) := by decide +kernel
theorem dX3_read_67 : decode cX3_read 67 = .ok (.getfield 24, 3) := by decide +kernel
theorem dX3_read_70 : decode cX3_read 70 = .ok (.ifCond .ne 23, 3) := by decide +kernel
theorem dX3_read_73 : decode cX3_read 73 = .ok (.aload_n 0, 1) := by decide +kernel
theorem dX3_read_74 : decode cX3_read 74 = .ok (.getfield 27, 3) := by decide +kernel
theorem dX3_read_77 : decode cX3_read 77 = .ok (.iconst 3, 1) := by decide +kernel
theorem dX3_read_78 : decode cX3_read 78 = .ok (.if_icmp .eq 11, 3) := by decide +kernel
theorem dX3_read_81 : decode cX3_read 81 = .ok (.aload_n 0, 1) := by decide +kernel
theorem dX3_read_82 : decode cX3_read 82 = .ok (.getfield 27, 3) := by decide +kernel
theorem dX3_read_85 : decode cX3_read 85 = .ok (.iconst 4, 1) := by decide +kernel
theorem dX3_read_86 : decode cX3_read 86 = .ok (.if_icmp .ne 7, 3) := by decide +kernel
theorem dX3_read_89 : decode cX3_read 89 = .ok (.iconst (-1), 1) := by decide +kernel
theorem dX3_read_90 : decode cX3_read 90 = .ok (.goto 4, 3) := by decide +kernel
theorem dX3_read_93 : decode cX3_read 93 = .ok (.iload_n 2, 1) := by decide +kernel
theorem dX3_read_94 : decode cX3_read 94 = .ok (.ireturn, 1) := by decide +kernel
theorem dX3_take_0 : decode cX3_take 0 = .ok (.aload_n 0, 1) := by decide +kernel
theorem dX3_take_1 : decode cX3_take 1 = .ok (.getfield 27, 3) := by decide +kernel
theorem dX3_take_4 : decode cX3_take 4 = .ok (.tableswitch 72 0 3 #[32, 38, 55, 66], 32) := by decide +kernel
theorem dX3_take_36 : decode cX3_take 36 = .ok (.aload_n 0, 1) := by decide +kernel
theorem dX3_take_37 : decode cX3_take 37 = .ok (.iload_n 1, 1) := by decide +kernel
theorem dX3_take_38 : decode cX3_take 38 = .ok (.invokevirtual 46, 3) := by decide +kernel
theorem dX3_take_41 : decode cX3_take 41 = .ok (.ireturn, 1) := by decide +kernel
theorem dX3_take_42 : decode cX3_take 42 = .ok (.aload_n 0, 1) := by decide +kernel
theorem dX3_take_43 : decode cX3_take 43 = .ok (.iconst 2, 1) := by decide +kernel
theorem dX3_take_44 : decode cX3_take 44 = .ok (.putfield 27, 3) := by decide +kernel
theorem dX3_take_47 : decode cX3_take 47 = .ok (.iload_n 1, 1) := by decide +kernel
theorem dX3_take_48 : decode cX3_take 48 = .ok (.bipush 58, 2) := by decide +kernel
theorem dX3_take_50 : decode cX3_take 50 = .ok (.if_icmp .ne 7, 3) := by decide +kernel
theorem dX3_take_53 : decode cX3_take 53 = .ok (.iconst 1, 1) := by decide +kernel
theorem dX3_take_54 : decode cX3_take 54 = .ok (.goto 4, 3) := by decide +kernel
theorem dX3_take_57 : decode cX3_take 57 = .ok (.iconst 0, 1) := by decide +kernel
theorem dX3_take_58 : decode cX3_take 58 = .ok (.ireturn, 1) := by decide +kernel
theorem dX3_take_59 : decode cX3_take 59 = .ok (.aload_n 0, 1) := by decide +kernel
theorem dX3_take_60 : decode cX3_take 60 = .ok (.iconst 3, 1) := by decide +kernel
theorem dX3_take_61 : decode cX3_take 61 = .ok (.putfield 27, 3) := by decide +kernel
theorem dX3_take_64 : decode cX3_take 64 = .ok (.aload_n 0, 1) := by decide +kernel
theorem dX3_take_65 : decode cX3_take 65 = .ok (.iload_n 1, 1) := by decide +kernel
theorem dX3_take_66 : decode cX3_take 66 = .ok (.invokevirtual 49, 3) := by decide +kernel
theorem dX3_take_69 : decode cX3_take 69 = .ok (.ireturn, 1) := by decide +kernel
theorem dX3_take_70 : decode cX3_take 70 = .ok (.aload_n 0, 1) := by decide +kernel
theorem dX3_take_71 : decode cX3_take 71 = .ok (.iload_n 1, 1) := by decide +kernel
theorem dX3_take_72 : decode cX3_take 72 = .ok (.invokevirtual 52, 3) := by decide +kernel
theorem dX3_take_75 : decode cX3_take 75 = .ok (.ireturn, 1) := by decide +kernel
theorem dX3_take_76 : decode cX3_take 76 = .ok (.aload_n 0, 1) := by decide +kernel
theorem dX3_take_77 : decode cX3_take 77 = .ok (.iload_n 1, 1) := by decide +kernel
theorem dX3_take_78 : decode cX3_take 78 = .ok (.invokevirtual 55, 3) := by decide +kernel
theorem dX3_take_81 : decode cX3_take 81 = .ok (.ireturn, 1) := by decide +kernel
theorem dX3_takeHouse_0 : decode cX3_takeHouse 0 = .ok (.iload_n 1, 1) := by decide +kernel
theorem dX3_takeHouse_1 : decode cX3_takeHouse 1 = .ok (.bipush 48, 2) := by decide +kernel
theorem dX3_takeHouse_3 : decode cX3_takeHouse 3 = .ok (.if_icmp .lt 21, 3) := by decide +kernel
theorem dX3_takeHouse_6 : decode cX3_takeHouse 6 = .ok (.iload_n 1, 1) := by decide +kernel
theorem dX3_takeHouse_7 : decode cX3_takeHouse 7 = .ok (.bipush 54, 2) := by decide +kernel
theorem dX3_takeHouse_9 : decode cX3_takeHouse 9 = .ok (.if_icmp .ge 15, 3) := by decide +kernel
theorem dX3_takeHouse_12 : decode cX3_takeHouse 12 = .ok (.aload_n 0, 1) := by decide +kernel
theorem dX3_takeHouse_13 : decode cX3_takeHouse 13 = .ok (.getfield 24, 3) := by decide +kernel
theorem dX3_takeHouse_16 : decode cX3_takeHouse 16 = .ok (.aload_n 0, 1) := by decide +kernel
theorem dX3_takeHouse_17 : decode cX3_takeHouse 17 = .ok (.getfield 17, 3) := by decide +kernel
theorem dX3_takeHouse_20 : decode cX3_takeHouse 20 = .ok (.arraylength, 1) := by decide +kernel
theorem dX3_takeHouse_21 : decode cX3_takeHouse 21 = .ok (.if_icmp .lt 5, 3) := by decide +kernel
theorem dX3_takeHouse_24 : decode cX3_takeHouse 24 = .ok (.iconst 0, 1) := by decide +kernel
theorem dX3_takeHouse_25 : decode cX3_takeHouse 25 = .ok (.ireturn, 1) := by decide +kernel
theorem dX3_takeHouse_26 : decode cX3_takeHouse 26 = .ok (.new 9, 3) := by decide +kernel
theorem dX3_takeHouse_29 : decode cX3_takeHouse 29 = .ok (.dup, 1) := by decide +kernel
theorem dX3_takeHouse_30 : decode cX3_takeHouse 30 = .ok (.iload_n 1, 1) := by decide +kernel
theorem dX3_takeHouse_31 : decode cX3_takeHouse 31 = .ok (.bipush 48, 2) := by decide +kernel
theorem dX3_takeHouse_33 : decode cX3_takeHouse 33 = .ok (.isub, 1) := by decide +kernel
theorem dX3_takeHouse_34 : decode cX3_takeHouse 34 = .ok (.invokespecial 58, 3) := by decide +kernel
theorem dX3_takeHouse_37 : decode cX3_takeHouse 37 = .ok (.astore_n 2, 1) := by decide +kernel
theorem dX3_takeHouse_38 : decode cX3_takeHouse 38 = .ok (.aload_n 0, 1) := by decide +kernel
theorem dX3_takeHouse_39 : decode cX3_takeHouse 39 = .ok (.aload_n 2, 1) := by decide +kernel
theorem dX3_takeHouse_40 : decode cX3_takeHouse 40 = .ok (.invokevirtual 61, 3) := by decide +kernel
theorem dX3_takeHouse_43 : decode cX3_takeHouse 43 = .ok (.ifCond .ne 5, 3) := by decide +kernel
theorem dX3_takeHouse_46 : decode cX3_takeHouse 46 = .ok (.iconst 0, 1) := by decide +kernel
theorem dX3_takeHouse_47 : decode cX3_takeHouse 47 = .ok (.ireturn, 1) := by decide +kernel
theorem dX3_takeHouse_48 : decode cX3_takeHouse 48 = .ok (.aload_n 0, 1) := by decide +kernel
theorem dX3_takeHouse_49 : decode cX3_takeHouse 49 = .ok (.getfield 17, 3) := by decide +kernel
theorem dX3_takeHouse_52 : decode cX3_takeHouse 52 = .ok (.aload_n 0, 1) := by decide +kernel
theorem dX3_takeHouse_53 : decode cX3_takeHouse 53 = .ok (.getfield 24, 3) := by decide +kernel
theorem dX3_takeHouse_56 : decode cX3_takeHouse 56 = .ok (.aload_n 2, 1) := by decide +kernel
theorem dX3_takeHouse_57 : decode cX3_takeHouse 57 = .ok (.aastore, 1) := by decide +kernel
theorem dX3_takeHouse_58 : decode cX3_takeHouse 58 = .ok (.aload_n 0, 1) := by decide +kernel
theorem dX3_takeHouse_59 : decode cX3_takeHouse 59 = .ok (.dup, 1) := by decide +kernel
theorem dX3_takeHouse_60 : decode cX3_takeHouse 60 = .ok (.getfield 30, 3) := by decide +kernel
theorem dX3_takeHouse_63 : decode cX3_takeHouse 63 = .ok (.iconst 1, 1) := by decide +kernel
theorem dX3_takeHouse_64 : decode cX3_takeHouse 64 = .ok (.iadd, 1) := by decide +kernel
theorem dX3_takeHouse_65 : decode cX3_takeHouse 65 = .ok (.putfield 30, 3) := by decide +kernel
theorem dX3_takeHouse_68 : decode cX3_takeHouse 68 = .ok (.aload_n 0, 1) := by decide +kernel
theorem dX3_takeHouse_69 : decode cX3_takeHouse 69 = .ok (.aload_n 0, 1) := by decide +kernel
theorem dX3_takeHouse_70 : decode cX3_takeHouse 70 = .ok (.getfield 36, 3) := by decide +kernel
theorem dX3_takeHouse_73 : decode cX3_takeHouse 73 = .ok (.aload_n 0, 1) := by decide +kernel
theorem dX3_takeHouse_74 : decode cX3_takeHouse 74 = .ok (.getfield 24, 3) := by decide +kernel
theorem dX3_takeHouse_77 : decode cX3_takeHouse 77 = .ok (.iconst 1, 1) := by decide +kernel
theorem dX3_takeHouse_78 : decode cX3_takeHouse 78 = .ok (.iadd, 1) := by decide +kernel
theorem dX3_takeHouse_79 : decode cX3_takeHouse 79 = .ok (.invokestatic 65, 3) := by decide +kernel
theorem dX3_takeHouse_82 : decode cX3_takeHouse 82 = .ok (.putfield 36, 3) := by decide +kernel
theorem dX3_takeHouse_85 : decode cX3_takeHouse 85 = .ok (.aload_n 0, 1) := by decide +kernel
theorem dX3_takeHouse_86 : decode cX3_takeHouse 86 = .ok (.iconst 1, 1) := by decide +kernel
theorem dX3_takeHouse_87 : decode cX3_takeHouse 87 = .ok (.putfield 27, 3) := by decide +kernel
theorem dX3_takeHouse_90 : decode cX3_takeHouse 90 = .ok (.iconst 1, 1) := by decide +kernel
theorem dX3_takeHouse_91 : decode cX3_takeHouse 91 = .ok (.ireturn, 1) := by decide +kernel
theorem dX3_putInPlace_0 : decode cX3_putInPlace 0 = .ok (.aload_n 0, 1) := by decide +kernel
theorem dX3_putInPlace_1 : decode cX3_putInPlace 1 = .ok (.getfield 24, 3) := by decide +kernel
theorem dX3_putInPlace_4 : decode cX3_putInPlace 4 = .ok (.ifCond .ne 39, 3) := by decide +kernel
theorem dX3_putInPlace_7 : decode cX3_putInPlace 7 = .ok (.aload_n 0, 1) := by decide +kernel
theorem dX3_putInPlace_8 : decode cX3_putInPlace 8 = .ok (.getfield 20, 3) := by decide +kernel
theorem dX3_putInPlace_11 : decode cX3_putInPlace 11 = .ok (.aload_n 0, 1) := by decide +kernel
theorem dX3_putInPlace_12 : decode cX3_putInPlace 12 = .ok (.getfield 11, 3) := by decide +kernel
theorem dX3_putInPlace_15 : decode cX3_putInPlace 15 = .ok (.arraylength, 1) := by decide +kernel
theorem dX3_putInPlace_16 : decode cX3_putInPlace 16 = .ok (.if_icmp .lt 5, 3) := by decide +kernel
theorem dX3_putInPlace_19 : decode cX3_putInPlace 19 = .ok (.iconst 0, 1) := by decide +kernel
theorem dX3_putInPlace_20 : decode cX3_putInPlace 20 = .ok (.ireturn, 1) := by decide +kernel
theorem dX3_putInPlace_21 : decode cX3_putInPlace 21 = .ok (.aload_n 0, 1) := by decide +kernel
theorem dX3_putInPlace_22 : decode cX3_putInPlace 22 = .ok (.getfield 11, 3) := by decide +kernel
theorem dX3_putInPlace_25 : decode cX3_putInPlace 25 = .ok (.aload_n 0, 1) := by decide +kernel
theorem dX3_putInPlace_26 : decode cX3_putInPlace 26 = .ok (.getfield 20, 3) := by decide +kernel
theorem dX3_putInPlace_29 : decode cX3_putInPlace 29 = .ok (.aload_n 1, 1) := by decide +kernel
theorem dX3_putInPlace_30 : decode cX3_putInPlace 30 = .ok (.aastore, 1) := by decide +kernel
theorem dX3_putInPlace_31 : decode cX3_putInPlace 31 = .ok (.aload_n 0, 1) := by decide +kernel
theorem dX3_putInPlace_32 : decode cX3_putInPlace 32 = .ok (.dup, 1) := by decide +kernel
theorem dX3_putInPlace_33 : decode cX3_putInPlace 33 = .ok (.getfield 20, 3) := by decide +kernel
theorem dX3_putInPlace_36 : decode cX3_putInPlace 36 = .ok (.iconst 1, 1) := by decide +kernel
theorem dX3_putInPlace_37 : decode cX3_putInPlace 37 = .ok (.iadd, 1) := by decide +kernel
theorem dX3_putInPlace_38 : decode cX3_putInPlace 38 = .ok (.putfield 20, 3) := by decide +kernel
theorem dX3_putInPlace_41 : decode cX3_putInPlace 41 = .ok (.iconst 1, 1) := by decide +kernel
theorem dX3_putInPlace_42 : decode cX3_putInPlace 42 = .ok (.ireturn, 1) := by decide +kernel
theorem dX3_putInPlace_43 : decode cX3_putInPlace 43 = .ok (.aload_n 0, 1) := by decide +kernel
theorem dX3_putInPlace_44 : decode cX3_putInPlace 44 = .ok (.getfield 17, 3) := by decide +kernel
theorem dX3_putInPlace_47 : decode cX3_putInPlace 47 = .ok (.aload_n 0, 1) := by decide +kernel
theorem dX3_putInPlace_48 : decode cX3_putInPlace 48 = .ok (.getfield 24, 3) := by decide +kernel
theorem dX3_putInPlace_51 : decode cX3_putInPlace 51 = .ok (.iconst 1, 1) := by decide +kernel
theorem dX3_putInPlace_52 : decode cX3_putInPlace 52 = .ok (.isub, 1) := by decide +kernel
theorem dX3_putInPlace_53 : decode cX3_putInPlace 53 = .ok (.aaload, 1) := by decide +kernel
theorem dX3_putInPlace_54 : decode cX3_putInPlace 54 = .ok (.astore_n 2, 1) := by decide +kernel
theorem dX3_putInPlace_55 : decode cX3_putInPlace 55 = .ok (.aload_n 2, 1) := by decide +kernel
theorem dX3_putInPlace_56 : decode cX3_putInPlace 56 = .ok (.ifnonnull 5, 3) := by decide +kernel
theorem dX3_putInPlace_59 : decode cX3_putInPlace 59 = .ok (.iconst 0, 1) := by decide +kernel
theorem dX3_putInPlace_60 : decode cX3_putInPlace 60 = .ok (.ireturn, 1) := by decide +kernel
theorem dX3_putInPlace_61 : decode cX3_putInPlace 61 = .ok (.aload_n 2, 1) := by decide +kernel
theorem dX3_putInPlace_62 : decode cX3_putInPlace 62 = .ok (.aload_n 1, 1) := by decide +kernel
theorem dX3_putInPlace_63 : decode cX3_putInPlace 63 = .ok (.invokevirtual 71, 3) := by decide +kernel
theorem dX3_putInPlace_66 : decode cX3_putInPlace 66 = .ok (.aload_n 0, 1) := by decide +kernel
theorem dX3_putInPlace_67 : decode cX3_putInPlace 67 = .ok (.aload_n 0, 1) := by decide +kernel
theorem dX3_putInPlace_68 : decode cX3_putInPlace 68 = .ok (.getfield 39, 3) := by decide +kernel
theorem dX3_putInPlace_71 : decode cX3_putInPlace 71 = .ok (.aload_n 2, 1) := by decide +kernel
theorem dX3_putInPlace_72 : decode cX3_putInPlace 72 = .ok (.getfield 75, 3) := by decide +kernel
theorem dX3_putInPlace_75 : decode cX3_putInPlace 75 = .ok (.invokestatic 65, 3) := by decide +kernel
theorem dX3_putInPlace_78 : decode cX3_putInPlace 78 = .ok (.putfield 39, 3) := by decide +kernel
theorem dX3_putInPlace_81 : decode cX3_putInPlace 81 = .ok (.aload_n 0, 1) := by decide +kernel
theorem dX3_putInPlace_82 : decode cX3_putInPlace 82 = .ok (.invokevirtual 78, 3) := by decide +kernel
theorem dX3_putInPlace_85 : decode cX3_putInPlace 85 = .ok (.iconst 1, 1) := by decide +kernel
theorem dX3_putInPlace_86 : decode cX3_putInPlace 86 = .ok (.ireturn, 1) := by decide +kernel
theorem dX3_countWithin_0 : decode cX3_countWithin 0 = .ok (.iconst 0, 1) := by decide +kernel
theorem dX3_countWithin_1 : decode cX3_countWithin 1 = .ok (.istore_n 1, 1) := by decide +kernel
theorem dX3_countWithin_2 : decode cX3_countWithin 2 = .ok (.iload_n 1, 1) := by decide +kernel
theorem dX3_countWithin_3 : decode cX3_countWithin 3 = .ok (.aload_n 0, 1) := by decide +kernel
theorem dX3_countWithin_4 : decode cX3_countWithin 4 = .ok (.getfield 24, 3) := by decide +kernel
theorem dX3_countWithin_7 : decode cX3_countWithin 7 = .ok (.if_icmp .ge 42, 3) := by decide +kernel
theorem dX3_countWithin_10 : decode cX3_countWithin 10 = .ok (.iload_n 1, 1) := by decide +kernel
theorem dX3_countWithin_11 : decode cX3_countWithin 11 = .ok (.aload_n 0, 1) := by decide +kernel
theorem dX3_countWithin_12 : decode cX3_countWithin 12 = .ok (.getfield 17, 3) := by decide +kernel
theorem dX3_countWithin_15 : decode cX3_countWithin 15 = .ok (.arraylength, 1) := by decide +kernel
theorem dX3_countWithin_16 : decode cX3_countWithin 16 = .ok (.if_icmp .ge 33, 3) := by decide +kernel
theorem dX3_countWithin_19 : decode cX3_countWithin 19 = .ok (.aload_n 0, 1) := by decide +kernel
theorem dX3_countWithin_20 : decode cX3_countWithin 20 = .ok (.getfield 17, 3) := by decide +kernel
theorem dX3_countWithin_23 : decode cX3_countWithin 23 = .ok (.iload_n 1, 1) := by decide +kernel
theorem dX3_countWithin_24 : decode cX3_countWithin 24 = .ok (.aaload, 1) := by decide +kernel
theorem dX3_countWithin_25 : decode cX3_countWithin 25 = .ok (.ifnull 18, 3) := by decide +kernel
theorem dX3_countWithin_28 : decode cX3_countWithin 28 = .ok (.aload_n 0, 1) := by decide +kernel
theorem dX3_countWithin_29 : decode cX3_countWithin 29 = .ok (.getfield 17, 3) := by decide +kernel
theorem dX3_countWithin_32 : decode cX3_countWithin 32 = .ok (.iload_n 1, 1) := by decide +kernel
theorem dX3_countWithin_33 : decode cX3_countWithin 33 = .ok (.aaload, 1) := by decide +kernel
theorem dX3_countWithin_34 : decode cX3_countWithin 34 = .ok (.dup, 1) := by decide +kernel
theorem dX3_countWithin_35 : decode cX3_countWithin 35 = .ok (.getfield 81, 3) := by decide +kernel
theorem dX3_countWithin_38 : decode cX3_countWithin 38 = .ok (.iconst 1, 1) := by decide +kernel
theorem dX3_countWithin_39 : decode cX3_countWithin 39 = .ok (.iadd, 1) := by decide +kernel
theorem dX3_countWithin_40 : decode cX3_countWithin 40 = .ok (.putfield 81, 3) := by decide +kernel
theorem dX3_countWithin_43 : decode cX3_countWithin 43 = .ok (.iinc 1 1, 3) := by decide +kernel
theorem dX3_countWithin_46 : decode cX3_countWithin 46 = .ok (.goto (-44), 3) := by decide +kernel
theorem dX3_countWithin_49 : decode cX3_countWithin 49 = .ok (.return_, 1) := by decide +kernel
theorem dX3_takeDigit_0 : decode cX3_takeDigit 0 = .ok (.aload_n 0, 1) := by decide +kernel
theorem dX3_takeDigit_1 : decode cX3_takeDigit 1 = .ok (.getfield 24, 3) := by decide +kernel
theorem dX3_takeDigit_4 : decode cX3_takeDigit 4 = .ok (.aload_n 0, 1) := by decide +kernel
theorem dX3_takeDigit_5 : decode cX3_takeDigit 5 = .ok (.getfield 17, 3) := by decide +kernel
theorem dX3_takeDigit_8 : decode cX3_takeDigit 8 = .ok (.arraylength, 1) := by decide +kernel
theorem dX3_takeDigit_9 : decode cX3_takeDigit 9 = .ok (.if_icmp .ge 15, 3) := by decide +kernel
theorem dX3_takeDigit_12 : decode cX3_takeDigit 12 = .ok (.aload_n 0, 1) := by decide +kernel
theorem dX3_takeDigit_13 : decode cX3_takeDigit 13 = .ok (.getfield 17, 3) := by decide +kernel
theorem dX3_takeDigit_16 : decode cX3_takeDigit 16 = .ok (.aload_n 0, 1) := by decide +kernel
theorem dX3_takeDigit_17 : decode cX3_takeDigit 17 = .ok (.getfield 24, 3) := by decide +kernel
theorem dX3_takeDigit_20 : decode cX3_takeDigit 20 = .ok (.aaload, 1) := by decide +kernel
theorem dX3_takeDigit_21 : decode cX3_takeDigit 21 = .ok (.goto 4, 3) := by decide +kernel
theorem dX3_takeDigit_24 : decode cX3_takeDigit 24 = .ok (.aconst_null, 1) := by decide +kernel
theorem dX3_takeDigit_25 : decode cX3_takeDigit 25 = .ok (.astore_n 2, 1) := by decide +kernel
theorem dX3_takeDigit_26 : decode cX3_takeDigit 26 = .ok (.aload_n 2, 1) := by decide +kernel
theorem dX3_takeDigit_27 : decode cX3_takeDigit 27 = .ok (.ifnull 15, 3) := by decide +kernel
theorem dX3_takeDigit_30 : decode cX3_takeDigit 30 = .ok (.iload_n 1, 1) := by decide +kernel
theorem dX3_takeDigit_31 : decode cX3_takeDigit 31 = .ok (.bipush 48, 2) := by decide +kernel
theorem dX3_takeDigit_33 : decode cX3_takeDigit 33 = .ok (.if_icmp .lt 9, 3) := by decide +kernel
theorem dX3_takeDigit_36 : decode cX3_takeDigit 36 = .ok (.iload_n 1, 1) := by decide +kernel
theorem dX3_takeDigit_37 : decode cX3_takeDigit 37 = .ok (.bipush 57, 2) := by decide +kernel
theorem dX3_takeDigit_39 : decode cX3_takeDigit 39 = .ok (.if_icmp .le 5, 3) := by decide +kernel
theorem dX3_takeDigit_42 : decode cX3_takeDigit 42 = .ok (.iconst 0, 1) := by decide +kernel
theorem dX3_takeDigit_43 : decode cX3_takeDigit 43 = .ok (.ireturn, 1) := by decide +kernel
theorem dX3_takeDigit_44 : decode cX3_takeDigit 44 = .ok (.aload_n 2, 1) := by decide +kernel
theorem dX3_takeDigit_45 : decode cX3_takeDigit 45 = .ok (.getfield 82, 3) := by decide +kernel
theorem dX3_takeDigit_48 : decode cX3_takeDigit 48 = .ok (.bipush 10, 2) := by decide +kernel
theorem dX3_takeDigit_50 : decode cX3_takeDigit 50 = .ok (.imul, 1) := by decide +kernel
theorem dX3_takeDigit_51 : decode cX3_takeDigit 51 = .ok (.iload_n 1, 1) := by decide +kernel
theorem dX3_takeDigit_52 : decode cX3_takeDigit 52 = .ok (.bipush 48, 2) := by decide +kernel
theorem dX3_takeDigit_54 : decode cX3_takeDigit 54 = .ok (.isub, 1) := by decide +kernel
theorem dX3_takeDigit_55 : decode cX3_takeDigit 55 = .ok (.iadd, 1) := by decide +kernel
theorem dX3_takeDigit_56 : decode cX3_takeDigit 56 = .ok (.istore_n 3, 1) := by decide +kernel
theorem dX3_takeDigit_57 : decode cX3_takeDigit 57 = .ok (.iload_n 3, 1) := by decide +kernel
theorem dX3_takeDigit_58 : decode cX3_takeDigit 58 = .ok (.bipush 20, 2) := by decide +kernel
theorem dX3_takeDigit_60 : decode cX3_takeDigit 60 = .ok (.if_icmp .le 5, 3) := by decide +kernel
theorem dX3_takeDigit_63 : decode cX3_takeDigit 63 = .ok (.iconst 0, 1) := by decide +kernel
theorem dX3_takeDigit_64 : decode cX3_takeDigit 64 = .ok (.ireturn, 1) := by decide +kernel
theorem dX3_takeDigit_65 : decode cX3_takeDigit 65 = .ok (.aload_n 0, 1) := by decide +kernel
theorem dX3_takeDigit_66 : decode cX3_takeDigit 66 = .ok (.dup, 1) := by decide +kernel
theorem dX3_takeDigit_67 : decode cX3_takeDigit 67 = .ok (.getfield 33, 3) := by decide +kernel
theorem dX3_takeDigit_70 : decode cX3_takeDigit 70 = .ok (.iload_n 3, 1) := by decide +kernel
theorem dX3_takeDigit_71 : decode cX3_takeDigit 71 = .ok (.aload_n 2, 1) := by decide +kernel
theorem dX3_takeDigit_72 : decode cX3_takeDigit 72 = .ok (.getfield 82, 3) := by decide +kernel
theorem dX3_takeDigit_75 : decode cX3_takeDigit 75 = .ok (.isub, 1) := by decide +kernel
theorem dX3_takeDigit_76 : decode cX3_takeDigit 76 = .ok (.iadd, 1) := by decide +kernel
theorem dX3_takeDigit_77 : decode cX3_takeDigit 77 = .ok (.putfield 33, 3) := by decide +kernel
theorem dX3_takeDigit_80 : decode cX3_takeDigit 80 = .ok (.aload_n 2, 1) := by decide +kernel
theorem dX3_takeDigit_81 : decode cX3_takeDigit 81 = .ok (.iload_n 3, 1) := by decide +kernel
theorem dX3_takeDigit_82 : decode cX3_takeDigit 82 = .ok (.putfield 82, 3) := by decide +kernel
theorem dX3_takeDigit_85 : decode cX3_takeDigit 85 = .ok (.iconst 1, 1) := by decide +kernel
theorem dX3_takeDigit_86 : decode cX3_takeDigit 86 = .ok (.ireturn, 1) := by decide +kernel
theorem dX3_takeInWork_0 : decode cX3_takeInWork 0 = .ok (.iload_n 1, 1) := by decide +kernel
theorem dX3_takeInWork_1 : decode cX3_takeInWork 1 = .ok (.bipush 40, 2) := by decide +kernel
theorem dX3_takeInWork_3 : decode cX3_takeInWork 3 = .ok (.if_icmp .ne 20, 3) := by decide +kernel
theorem dX3_takeInWork_6 : decode cX3_takeInWork 6 = .ok (.aload_n 0, 1) := by decide +kernel
theorem dX3_takeInWork_7 : decode cX3_takeInWork 7 = .ok (.dup, 1) := by decide +kernel
theorem dX3_takeInWork_8 : decode cX3_takeInWork 8 = .ok (.getfield 24, 3) := by decide +kernel
theorem dX3_takeInWork_11 : decode cX3_takeInWork 11 = .ok (.iconst 1, 1) := by decide +kernel
theorem dX3_takeInWork_12 : decode cX3_takeInWork 12 = .ok (.iadd, 1) := by decide +kernel
theorem dX3_takeInWork_13 : decode cX3_takeInWork 13 = .ok (.putfield 24, 3) := by decide +kernel
theorem dX3_takeInWork_16 : decode cX3_takeInWork 16 = .ok (.aload_n 0, 1) := by decide +kernel
theorem dX3_takeInWork_17 : decode cX3_takeInWork 17 = .ok (.iconst 0, 1) := by decide +kernel
theorem dX3_takeInWork_18 : decode cX3_takeInWork 18 = .ok (.putfield 27, 3) := by decide +kernel
theorem dX3_takeInWork_21 : decode cX3_takeInWork 21 = .ok (.iconst 1, 1) := by decide +kernel
theorem dX3_takeInWork_22 : decode cX3_takeInWork 22 = .ok (.ireturn, 1) := by decide +kernel
theorem dX3_takeInWork_23 : decode cX3_takeInWork 23 = .ok (.iload_n 1, 1) := by decide +kernel
theorem dX3_takeInWork_24 : decode cX3_takeInWork 24 = .ok (.bipush 48, 2) := by decide +kernel
theorem dX3_takeInWork_26 : decode cX3_takeInWork 26 = .ok (.if_icmp .lt 30, 3) := by decide +kernel
theorem dX3_takeInWork_29 : decode cX3_takeInWork 29 = .ok (.iload_n 1, 1) := by decide +kernel
theorem dX3_takeInWork_30 : decode cX3_takeInWork 30 = .ok (.bipush 57, 2) := by decide +kernel
theorem dX3_takeInWork_32 : decode cX3_takeInWork 32 = .ok (.if_icmp .gt 24, 3) := by decide +kernel
theorem dX3_takeInWork_35 : decode cX3_takeInWork 35 = .ok (.aload_n 0, 1) := by decide +kernel
theorem dX3_takeInWork_36 : decode cX3_takeInWork 36 = .ok (.invokevirtual 85, 3) := by decide +kernel
theorem dX3_takeInWork_39 : decode cX3_takeInWork 39 = .ok (.ifCond .ne 15, 3) := by decide +kernel
theorem dX3_takeInWork_42 : decode cX3_takeInWork 42 = .ok (.aload_n 0, 1) := by decide +kernel
theorem dX3_takeInWork_43 : decode cX3_takeInWork 43 = .ok (.iload_n 1, 1) := by decide +kernel
theorem dX3_takeInWork_44 : decode cX3_takeInWork 44 = .ok (.invokevirtual 49, 3) := by decide +kernel
theorem dX3_takeInWork_47 : decode cX3_takeInWork 47 = .ok (.ifCond .eq 7, 3) := by decide +kernel
theorem dX3_takeInWork_50 : decode cX3_takeInWork 50 = .ok (.iconst 1, 1) := by decide +kernel
theorem dX3_takeInWork_51 : decode cX3_takeInWork 51 = .ok (.goto 4, 3) := by decide +kernel
theorem dX3_takeInWork_54 : decode cX3_takeInWork 54 = .ok (.iconst 0, 1) := by decide +kernel
theorem dX3_takeInWork_55 : decode cX3_takeInWork 55 = .ok (.ireturn, 1) := by decide +kernel
theorem dX3_takeInWork_56 : decode cX3_takeInWork 56 = .ok (.aload_n 0, 1) := by decide +kernel
theorem dX3_takeInWork_57 : decode cX3_takeInWork 57 = .ok (.iload_n 1, 1) := by decide +kernel
theorem dX3_takeInWork_58 : decode cX3_takeInWork 58 = .ok (.invokevirtual 55, 3) := by decide +kernel
theorem dX3_takeInWork_61 : decode cX3_takeInWork 61 = .ok (.ireturn, 1) := by decide +kernel
theorem dX3_isWorkZero_0 : decode cX3_isWorkZero 0 = .ok (.aload_n 0, 1) := by decide +kernel
theorem dX3_isWorkZero_1 : decode cX3_isWorkZero 1 = .ok (.getfield 24, 3) := by decide +kernel
theorem dX3_isWorkZero_4 : decode cX3_isWorkZero 4 = .ok (.aload_n 0, 1) := by decide +kernel
theorem dX3_isWorkZero_5 : decode cX3_isWorkZero 5 = .ok (.getfield 17, 3) := by decide +kernel
theorem dX3_isWorkZero_8 : decode cX3_isWorkZero 8 = .ok (.arraylength, 1) := by decide +kernel
theorem dX3_isWorkZero_9 : decode cX3_isWorkZero 9 = .ok (.if_icmp .ge 34, 3) := by decide +kernel
theorem dX3_isWorkZero_12 : decode cX3_isWorkZero 12 = .ok (.aload_n 0, 1) := by decide +kernel
theorem dX3_isWorkZero_13 : decode cX3_isWorkZero 13 = .ok (.getfield 17, 3) := by decide +kernel
theorem dX3_isWorkZero_16 : decode cX3_isWorkZero 16 = .ok (.aload_n 0, 1) := by decide +kernel
theorem dX3_isWorkZero_17 : decode cX3_isWorkZero 17 = .ok (.getfield 24, 3) := by decide +kernel
theorem dX3_isWorkZero_20 : decode cX3_isWorkZero 20 = .ok (.aaload, 1) := by decide +kernel
theorem dX3_isWorkZero_21 : decode cX3_isWorkZero 21 = .ok (.ifnull 22, 3) := by decide +kernel
theorem dX3_isWorkZero_24 : decode cX3_isWorkZero 24 = .ok (.aload_n 0, 1) := by decide +kernel
theorem dX3_isWorkZero_25 : decode cX3_isWorkZero 25 = .ok (.getfield 17, 3) := by decide +kernel
theorem dX3_isWorkZero_28 : decode cX3_isWorkZero 28 = .ok (.aload_n 0, 1) := by decide +kernel
theorem dX3_isWorkZero_29 : decode cX3_isWorkZero 29 = .ok (.getfield 24, 3) := by decide +kernel
theorem dX3_isWorkZero_32 : decode cX3_isWorkZero 32 = .ok (.aaload, 1) := by decide +kernel
theorem dX3_isWorkZero_33 : decode cX3_isWorkZero 33 = .ok (.getfield 82, 3) := by decide +kernel
theorem dX3_isWorkZero_36 : decode cX3_isWorkZero 36 = .ok (.ifCond .ne 7, 3) := by decide +kernel
theorem dX3_isWorkZero_39 : decode cX3_isWorkZero 39 = .ok (.iconst 1, 1) := by decide +kernel
theorem dX3_isWorkZero_40 : decode cX3_isWorkZero 40 = .ok (.goto 4, 3) := by decide +kernel
theorem dX3_isWorkZero_43 : decode cX3_isWorkZero 43 = .ok (.iconst 0, 1) := by decide +kernel
theorem dX3_isWorkZero_44 : decode cX3_isWorkZero 44 = .ok (.ireturn, 1) := by decide +kernel
theorem dX3_takeAfter_0 : decode cX3_takeAfter 0 = .ok (.iload_n 1, 1) := by decide +kernel
theorem dX3_takeAfter_1 : decode cX3_takeAfter 1 = .ok (.bipush 41, 2) := by decide +kernel
theorem dX3_takeAfter_3 : decode cX3_takeAfter 3 = .ok (.if_icmp .ne 27, 3) := by decide +kernel
theorem dX3_takeAfter_6 : decode cX3_takeAfter 6 = .ok (.aload_n 0, 1) := by decide +kernel
theorem dX3_takeAfter_7 : decode cX3_takeAfter 7 = .ok (.getfield 24, 3) := by decide +kernel
theorem dX3_takeAfter_10 : decode cX3_takeAfter 10 = .ok (.ifCond .le 20, 3) := by decide +kernel
theorem dX3_takeAfter_13 : decode cX3_takeAfter 13 = .ok (.aload_n 0, 1) := by decide +kernel
theorem dX3_takeAfter_14 : decode cX3_takeAfter 14 = .ok (.dup, 1) := by decide +kernel
theorem dX3_takeAfter_15 : decode cX3_takeAfter 15 = .ok (.getfield 24, 3) := by decide +kernel
theorem dX3_takeAfter_18 : decode cX3_takeAfter 18 = .ok (.iconst 1, 1) := by decide +kernel
theorem dX3_takeAfter_19 : decode cX3_takeAfter 19 = .ok (.isub, 1) := by decide +kernel
theorem dX3_takeAfter_20 : decode cX3_takeAfter 20 = .ok (.putfield 24, 3) := by decide +kernel
theorem dX3_takeAfter_23 : decode cX3_takeAfter 23 = .ok (.aload_n 0, 1) := by decide +kernel
theorem dX3_takeAfter_24 : decode cX3_takeAfter 24 = .ok (.iconst 4, 1) := by decide +kernel
theorem dX3_takeAfter_25 : decode cX3_takeAfter 25 = .ok (.putfield 27, 3) := by decide +kernel
theorem dX3_takeAfter_28 : decode cX3_takeAfter 28 = .ok (.iconst 1, 1) := by decide +kernel
theorem dX3_takeAfter_29 : decode cX3_takeAfter 29 = .ok (.ireturn, 1) := by decide +kernel
theorem dX3_takeAfter_30 : decode cX3_takeAfter 30 = .ok (.aload_n 0, 1) := by decide +kernel
theorem dX3_takeAfter_31 : decode cX3_takeAfter 31 = .ok (.iconst 0, 1) := by decide +kernel
theorem dX3_takeAfter_32 : decode cX3_takeAfter 32 = .ok (.putfield 27, 3) := by decide +kernel
theorem dX3_takeAfter_35 : decode cX3_takeAfter 35 = .ok (.aload_n 0, 1) := by decide +kernel
theorem dX3_takeAfter_36 : decode cX3_takeAfter 36 = .ok (.getfield 24, 3) := by decide +kernel
theorem dX3_takeAfter_39 : decode cX3_takeAfter 39 = .ok (.ifCond .ne 17, 3) := by decide +kernel
theorem dX3_takeAfter_42 : decode cX3_takeAfter 42 = .ok (.iload_n 1, 1) := by decide +kernel
theorem dX3_takeAfter_43 : decode cX3_takeAfter 43 = .ok (.bipush 59, 2) := by decide +kernel
theorem dX3_takeAfter_45 : decode cX3_takeAfter 45 = .ok (.if_icmp .ne 7, 3) := by decide +kernel
theorem dX3_takeAfter_48 : decode cX3_takeAfter 48 = .ok (.iconst 1, 1) := by decide +kernel
theorem dX3_takeAfter_49 : decode cX3_takeAfter 49 = .ok (.goto 18, 3) := by decide +kernel
theorem dX3_takeAfter_52 : decode cX3_takeAfter 52 = .ok (.iconst 0, 1) := by decide +kernel
theorem dX3_takeAfter_53 : decode cX3_takeAfter 53 = .ok (.goto 14, 3) := by decide +kernel
theorem dX3_takeAfter_56 : decode cX3_takeAfter 56 = .ok (.iload_n 1, 1) := by decide +kernel
theorem dX3_takeAfter_57 : decode cX3_takeAfter 57 = .ok (.bipush 44, 2) := by decide +kernel
theorem dX3_takeAfter_59 : decode cX3_takeAfter 59 = .ok (.if_icmp .ne 7, 3) := by decide +kernel
theorem dX3_takeAfter_62 : decode cX3_takeAfter 62 = .ok (.iconst 1, 1) := by decide +kernel
theorem dX3_takeAfter_63 : decode cX3_takeAfter 63 = .ok (.goto 4, 3) := by decide +kernel
theorem dX3_takeAfter_66 : decode cX3_takeAfter 66 = .ok (.iconst 0, 1) := by decide +kernel
theorem dX3_takeAfter_67 : decode cX3_takeAfter 67 = .ok (.ireturn, 1) := by decide +kernel
theorem dX3_tell_0 : decode cX3_tell 0 = .ok (.iload_n 1, 1) := by decide +kernel
theorem dX3_tell_1 : decode cX3_tell 1 = .ok (.tableswitch 51 0 3 #[31, 36, 41, 46], 31) := by decide +kernel
theorem dX3_tell_32 : decode cX3_tell 32 = .ok (.aload_n 0, 1) := by decide +kernel
theorem dX3_tell_33 : decode cX3_tell 33 = .ok (.getfield 30, 3) := by decide +kernel
theorem dX3_tell_36 : decode cX3_tell 36 = .ok (.ireturn, 1) := by decide +kernel
theorem dX3_tell_37 : decode cX3_tell 37 = .ok (.aload_n 0, 1) := by decide +kernel
theorem dX3_tell_38 : decode cX3_tell 38 = .ok (.getfield 33, 3) := by decide +kernel
theorem dX3_tell_41 : decode cX3_tell 41 = .ok (.ireturn, 1) := by decide +kernel
theorem dX3_tell_42 : decode cX3_tell 42 = .ok (.aload_n 0, 1) := by decide +kernel
theorem dX3_tell_43 : decode cX3_tell 43 = .ok (.getfield 36, 3) := by decide +kernel
theorem dX3_tell_46 : decode cX3_tell 46 = .ok (.ireturn, 1) := by decide +kernel
theorem dX3_tell_47 : decode cX3_tell 47 = .ok (.aload_n 0, 1) := by decide +kernel
theorem dX3_tell_48 : decode cX3_tell 48 = .ok (.getfield 39, 3) := by decide +kernel
theorem dX3_tell_51 : decode cX3_tell 51 = .ok (.ireturn, 1) := by decide +kernel
theorem dX3_tell_52 : decode cX3_tell 52 = .ok (.bipush (-2), 2) := by decide +kernel
theorem dX3_tell_54 : decode cX3_tell 54 = .ok (.ireturn, 1) := by decide +kernel
theorem dX4_init_0 : decode cX4_init 0 = .ok (.aload_n 0, 1) := by decide +kernel
theorem dX4_init_1 : decode cX4_init 1 = .ok (.invokespecial 3, 3) := by decide +kernel
theorem dX4_init_4 : decode cX4_init 4 = .ok (.aload_n 0, 1) := by decide +kernel
theorem dX4_init_5 : decode cX4_init 5 = .ok (.bipush 8, 2) := by decide +kernel
theorem dX4_init_7 : decode cX4_init 7 = .ok (.putfield 9, 3) := by decide +kernel
theorem dX4_init_10 : decode cX4_init 10 = .ok (.aload_n 0, 1) := by decide +kernel
theorem dX4_init_11 : decode cX4_init 11 = .ok (.iconst 1, 1) := by decide +kernel
theorem dX4_init_12 : decode cX4_init 12 = .ok (.putfield 15, 3) := by decide +kernel
theorem dX4_init_15 : decode cX4_init 15 = .ok (.aload_n 0, 1) := by decide +kernel
theorem dX4_init_16 : decode cX4_init 16 = .ok (.bipush 49, 2) := by decide +kernel
theorem dX4_init_18 : decode cX4_init 18 = .ok (.newarray .int, 2) := by decide +kernel
theorem dX4_init_20 : decode cX4_init 20 = .ok (.putfield 18, 3) := by decide +kernel
theorem dX4_init_23 : decode cX4_init 23 = .ok (.aload_n 0, 1) := by decide +kernel
theorem dX4_init_24 : decode cX4_init 24 = .ok (.bipush 6, 2) := by decide +kernel
theorem dX4_init_26 : decode cX4_init 26 = .ok (.anewarray 22, 3) := by decide +kernel
theorem dX4_init_29 : decode cX4_init 29 = .ok (.putfield 24, 3) := by decide +kernel
theorem dX4_init_32 : decode cX4_init 32 = .ok (.aload_n 0, 1) := by decide +kernel
theorem dX4_init_33 : decode cX4_init 33 = .ok (.sipush 141, 3) := by decide +kernel
theorem dX4_init_36 : decode cX4_init 36 = .ok (.anewarray 28, 3) := by decide +kernel
theorem dX4_init_39 : decode cX4_init 39 = .ok (.putfield 30, 3) := by decide +kernel
theorem dX4_init_42 : decode cX4_init 42 = .ok (.iconst 0, 1) := by decide +kernel
theorem dX4_init_43 : decode cX4_init 43 = .ok (.istore_n 1, 1) := by decide +kernel
theorem dX4_init_44 : decode cX4_init 44 = .ok (.iload_n 1, 1) := by decide +kernel
theorem dX4_init_45 : decode cX4_init 45 = .ok (.bipush 7, 2) := by decide +kernel
theorem dX4_init_47 : decode cX4_init 47 = .ok (.if_icmp .ge 39, 3) := by decide +kernel
theorem dX4_init_50 : decode cX4_init 50 = .ok (.iconst 0, 1) := by decide +kernel
theorem dX4_init_51 : decode cX4_init 51 = .ok (.istore_n 2, 1) := by decide +kernel
theorem dX4_init_52 : decode cX4_init 52 = .ok (.iload_n 2, 1) := by decide +kernel
theorem dX4_init_53 : decode cX4_init 53 = .ok (.bipush 7, 2) := by decide +kernel
theorem dX4_init_55 : decode cX4_init 55 = .ok (.if_icmp .ge 25, 3) := by decide +kernel
theorem dX4_init_58 : decode cX4_init 58 = .ok (.aload_n 0, 1) := by decide +kernel
theorem dX4_init_59 : decode cX4_init 59 = .ok (.getfield 18, 3) := by decide +kernel
theorem dX4_init_62 : decode cX4_init 62 = .ok (.iload_n 1, 1) := by decide +kernel
theorem dX4_init_63 : decode cX4_init 63 = .ok (.bipush 7, 2) := by decide +kernel
theorem dX4_init_65 : decode cX4_init 65 = .ok (.imul, 1) := by decide +kernel
theorem dX4_init_66 : decode cX4_init 66 = .ok (.iload_n 2, 1) := by decide +kernel
theorem dX4_init_67 : decode cX4_init 67 = .ok (.iadd, 1) := by decide +kernel
theorem dX4_init_68 : decode cX4_init 68 = .ok (.iload_n 1, 1) := by decide +kernel
theorem dX4_init_69 : decode cX4_init 69 = .ok (.iload_n 2, 1) := by decide +kernel
theorem dX4_init_70 : decode cX4_init 70 = .ok (.invokestatic 34, 3) := by decide +kernel
theorem dX4_init_73 : decode cX4_init 73 = .ok (.iastore, 1) := by decide +kernel
theorem dX4_init_74 : decode cX4_init 74 = .ok (.iinc 2 1, 3) := by decide +kernel
theorem dX4_init_77 : decode cX4_init 77 = .ok (.goto (-25), 3) := by decide +kernel
theorem dX4_init_80 : decode cX4_init 80 = .ok (.iinc 1 1, 3) := by decide +kernel
theorem dX4_init_83 : decode cX4_init 83 = .ok (.goto (-39), 3) := by decide +kernel
theorem dX4_init_86 : decode cX4_init 86 = .ok (.iconst 0, 1) := by decide +kernel
theorem dX4_init_87 : decode cX4_init 87 = .ok (.istore_n 1, 1) := by decide +kernel
theorem dX4_init_88 : decode cX4_init 88 = .ok (.iload_n 1, 1) := by decide +kernel
theorem dX4_init_89 : decode cX4_init 89 = .ok (.aload_n 0, 1) := by decide +kernel
theorem dX4_init_90 : decode cX4_init 90 = .ok (.getfield 24, 3) := by decide +kernel
theorem dX4_init_93 : decode cX4_init 93 = .ok (.arraylength, 1) := by decide +kernel
theorem dX4_init_94 : decode cX4_init 94 = .ok (.if_icmp .ge 22, 3) := by decide +kernel
theorem dX4_init_97 : decode cX4_init 97 = .ok (.aload_n 0, 1) := by decide +kernel
theorem dX4_init_98 : decode cX4_init 98 = .ok (.getfield 24, 3) := by decide +kernel
theorem dX4_init_101 : decode cX4_init 101 = .ok (.iload_n 1, 1) := by decide +kernel
theorem dX4_init_102 : decode cX4_init 102 = .ok (.new 22, 3) := by decide +kernel
theorem dX4_init_105 : decode cX4_init 105 = .ok (.dup, 1) := by decide +kernel
theorem dX4_init_106 : decode cX4_init 106 = .ok (.invokespecial 38, 3) := by decide +kernel
theorem dX4_init_109 : decode cX4_init 109 = .ok (.aastore, 1) := by decide +kernel
theorem dX4_init_110 : decode cX4_init 110 = .ok (.iinc 1 1, 3) := by decide +kernel
theorem dX4_init_113 : decode cX4_init 113 = .ok (.goto (-25), 3) := by decide +kernel
theorem dX4_init_116 : decode cX4_init 116 = .ok (.iconst 0, 1) := by decide +kernel
theorem dX4_init_117 : decode cX4_init 117 = .ok (.istore_n 1, 1) := by decide +kernel
theorem dX4_init_118 : decode cX4_init 118 = .ok (.iload_n 1, 1) := by decide +kernel
theorem dX4_init_119 : decode cX4_init 119 = .ok (.aload_n 0, 1) := by decide +kernel
theorem dX4_init_120 : decode cX4_init 120 = .ok (.getfield 30, 3) := by decide +kernel
theorem dX4_init_123 : decode cX4_init 123 = .ok (.arraylength, 1) := by decide +kernel
theorem dX4_init_124 : decode cX4_init 124 = .ok (.if_icmp .ge 22, 3) := by decide +kernel
theorem dX4_init_127 : decode cX4_init 127 = .ok (.aload_n 0, 1) := by decide +kernel
theorem dX4_init_128 : decode cX4_init 128 = .ok (.getfield 30, 3) := by decide +kernel
theorem dX4_init_131 : decode cX4_init 131 = .ok (.iload_n 1, 1) := by decide +kernel
theorem dX4_init_132 : decode cX4_init 132 = .ok (.new 28, 3) := by decide +kernel
theorem dX4_init_135 : decode cX4_init 135 = .ok (.dup, 1) := by decide +kernel
theorem dX4_init_136 : decode cX4_init 136 = .ok (.invokespecial 39, 3) := by decide +kernel
theorem dX4_init_139 : decode cX4_init 139 = .ok (.aastore, 1) := by decide +kernel
theorem dX4_init_140 : decode cX4_init 140 = .ok (.iinc 1 1, 3) := by decide +kernel
theorem dX4_init_143 : decode cX4_init 143 = .ok (.goto (-25), 3) := by decide +kernel
theorem dX4_init_146 : decode cX4_init 146 = .ok (.return_, 1) := by decide +kernel
theorem dX4_firstWay_0 : decode cX4_firstWay 0 = .ok (.iload_n 0, 1) := by decide +kernel
theorem dX4_firstWay_1 : decode cX4_firstWay 1 = .ok (.iload_n 1, 1) := by decide +kernel
theorem dX4_firstWay_2 : decode cX4_firstWay 2 = .ok (.if_icmp .ne 5, 3) := by decide +kernel
theorem dX4_firstWay_5 : decode cX4_firstWay 5 = .ok (.iconst 1, 1) := by decide +kernel
theorem dX4_firstWay_6 : decode cX4_firstWay 6 = .ok (.ireturn, 1) := by decide +kernel
theorem dX4_firstWay_7 : decode cX4_firstWay 7 = .ok (.iload_n 0, 1) := by decide +kernel
theorem dX4_firstWay_8 : decode cX4_firstWay 8 = .ok (.bipush 6, 2) := by decide +kernel
theorem dX4_firstWay_10 : decode cX4_firstWay 10 = .ok (.if_icmp .eq 9, 3) := by decide +kernel
theorem dX4_firstWay_13 : decode cX4_firstWay 13 = .ok (.iload_n 1, 1) := by decide +kernel
theorem dX4_firstWay_14 : decode cX4_firstWay 14 = .ok (.bipush 6, 2) := by decide +kernel
theorem dX4_firstWay_16 : decode cX4_firstWay 16 = .ok (.if_icmp .ne 7, 3) := by decide +kernel
theorem dX4_firstWay_19 : decode cX4_firstWay 19 = .ok (.iconst 3, 1) := by decide +kernel
theorem dX4_firstWay_20 : decode cX4_firstWay 20 = .ok (.goto 4, 3) := by decide +kernel
theorem dX4_firstWay_23 : decode cX4_firstWay 23 = .ok (.iconst 2, 1) := by decide +kernel
theorem dX4_firstWay_24 : decode cX4_firstWay 24 = .ok (.ireturn, 1) := by decide +kernel
theorem dX4_copyFrom_0 : decode cX4_copyFrom 0 = .ok (.aload_n 0, 1) := by decide +kernel
theorem dX4_copyFrom_1 : decode cX4_copyFrom 1 = .ok (.aload_n 1, 1) := by decide +kernel
theorem dX4_copyFrom_2 : decode cX4_copyFrom 2 = .ok (.getfield 40, 3) := by decide +kernel
theorem dX4_copyFrom_5 : decode cX4_copyFrom 5 = .ok (.putfield 40, 3) := by decide +kernel
theorem dX4_copyFrom_8 : decode cX4_copyFrom 8 = .ok (.aload_n 0, 1) := by decide +kernel
theorem dX4_copyFrom_9 : decode cX4_copyFrom 9 = .ok (.aload_n 1, 1) := by decide +kernel
theorem dX4_copyFrom_10 : decode cX4_copyFrom 10 = .ok (.getfield 9, 3) := by decide +kernel
theorem dX4_copyFrom_13 : decode cX4_copyFrom 13 = .ok (.putfield 9, 3) := by decide +kernel
theorem dX4_copyFrom_16 : decode cX4_copyFrom 16 = .ok (.aload_n 0, 1) := by decide +kernel
theorem dX4_copyFrom_17 : decode cX4_copyFrom 17 = .ok (.aload_n 1, 1) := by decide +kernel
theorem dX4_copyFrom_18 : decode cX4_copyFrom 18 = .ok (.getfield 15, 3) := by decide +kernel
theorem dX4_copyFrom_21 : decode cX4_copyFrom 21 = .ok (.putfield 15, 3) := by decide +kernel
theorem dX4_copyFrom_24 : decode cX4_copyFrom 24 = .ok (.aload_n 0, 1) := by decide +kernel
theorem dX4_copyFrom_25 : decode cX4_copyFrom 25 = .ok (.aload_n 1, 1) := by decide +kernel
theorem dX4_copyFrom_26 : decode cX4_copyFrom 26 = .ok (.invokevirtual 43, 3) := by decide +kernel
theorem dX4_copyFrom_29 : decode cX4_copyFrom 29 = .ok (.iconst 0, 1) := by decide +kernel
theorem dX4_copyFrom_30 : decode cX4_copyFrom 30 = .ok (.istore_n 2, 1) := by decide +kernel
theorem dX4_copyFrom_31 : decode cX4_copyFrom 31 = .ok (.iload_n 2, 1) := by decide +kernel
theorem dX4_copyFrom_32 : decode cX4_copyFrom 32 = .ok (.aload_n 0, 1) := by decide +kernel
theorem dX4_copyFrom_33 : decode cX4_copyFrom 33 = .ok (.getfield 24, 3) := by decide +kernel
theorem dX4_copyFrom_36 : decode cX4_copyFrom 36 = .ok (.arraylength, 1) := by decide +kernel
theorem dX4_copyFrom_37 : decode cX4_copyFrom 37 = .ok (.if_icmp .ge 24, 3) := by decide +kernel
theorem dX4_copyFrom_40 : decode cX4_copyFrom 40 = .ok (.aload_n 0, 1) := by decide +kernel
theorem dX4_copyFrom_41 : decode cX4_copyFrom 41 = .ok (.getfield 24, 3) := by decide +kernel
theorem dX4_copyFrom_44 : decode cX4_copyFrom 44 = .ok (.iload_n 2, 1) := by decide +kernel
theorem dX4_copyFrom_45 : decode cX4_copyFrom 45 = .ok (.aaload, 1) := by decide +kernel
theorem dX4_copyFrom_46 : decode cX4_copyFrom 46 = .ok (.aload_n 1, 1) := by decide +kernel
theorem dX4_copyFrom_47 : decode cX4_copyFrom 47 = .ok (.getfield 24, 3) := by decide +kernel
theorem dX4_copyFrom_50 : decode cX4_copyFrom 50 = .ok (.iload_n 2, 1) := by decide +kernel
theorem dX4_copyFrom_51 : decode cX4_copyFrom 51 = .ok (.aaload, 1) := by decide +kernel
theorem dX4_copyFrom_52 : decode cX4_copyFrom 52 = .ok (.invokevirtual 47, 3) := by decide +kernel
theorem dX4_copyFrom_55 : decode cX4_copyFrom 55 = .ok (.iinc 2 1, 3) := by decide +kernel
theorem dX4_copyFrom_58 : decode cX4_copyFrom 58 = .ok (.goto (-27), 3) := by decide +kernel
theorem dX4_copyFrom_61 : decode cX4_copyFrom 61 = .ok (.aload_n 0, 1) := by decide +kernel
theorem dX4_copyFrom_62 : decode cX4_copyFrom 62 = .ok (.aload_n 1, 1) := by decide +kernel
theorem dX4_copyFrom_63 : decode cX4_copyFrom 63 = .ok (.getfield 51, 3) := by decide +kernel
theorem dX4_copyFrom_66 : decode cX4_copyFrom 66 = .ok (.putfield 51, 3) := by decide +kernel
theorem dX4_copyFrom_69 : decode cX4_copyFrom 69 = .ok (.iconst 0, 1) := by decide +kernel
theorem dX4_copyFrom_70 : decode cX4_copyFrom 70 = .ok (.istore_n 2, 1) := by decide +kernel
theorem dX4_copyFrom_71 : decode cX4_copyFrom 71 = .ok (.iload_n 2, 1) := by decide +kernel
theorem dX4_copyFrom_72 : decode cX4_copyFrom 72 = .ok (.aload_n 0, 1) := by decide +kernel
theorem dX4_copyFrom_73 : decode cX4_copyFrom 73 = .ok (.getfield 51, 3) := by decide +kernel
theorem dX4_copyFrom_76 : decode cX4_copyFrom 76 = .ok (.if_icmp .ge 33, 3) := by decide +kernel
theorem dX4_copyFrom_79 : decode cX4_copyFrom 79 = .ok (.iload_n 2, 1) := by decide +kernel
theorem dX4_copyFrom_80 : decode cX4_copyFrom 80 = .ok (.aload_n 0, 1) := by decide +kernel
theorem dX4_copyFrom_81 : decode cX4_copyFrom 81 = .ok (.getfield 30, 3) := by decide +kernel
theorem dX4_copyFrom_84 : decode cX4_copyFrom 84 = .ok (.arraylength, 1) := by decide +kernel
theorem dX4_copyFrom_85 : decode cX4_copyFrom 85 = .ok (.if_icmp .ge 24, 3) := by decide +kernel
theorem dX4_copyFrom_88 : decode cX4_copyFrom 88 = .ok (.aload_n 0, 1) := by decide +kernel
theorem dX4_copyFrom_89 : decode cX4_copyFrom 89 = .ok (.getfield 30, 3) := by decide +kernel
theorem dX4_copyFrom_92 : decode cX4_copyFrom 92 = .ok (.iload_n 2, 1) := by decide +kernel
theorem dX4_copyFrom_93 : decode cX4_copyFrom 93 = .ok (.aaload, 1) := by decide +kernel
theorem dX4_copyFrom_94 : decode cX4_copyFrom 94 = .ok (.aload_n 1, 1) := by decide +kernel
theorem dX4_copyFrom_95 : decode cX4_copyFrom 95 = .ok (.getfield 30, 3) := by decide +kernel
theorem dX4_copyFrom_98 : decode cX4_copyFrom 98 = .ok (.iload_n 2, 1) := by decide +kernel
theorem dX4_copyFrom_99 : decode cX4_copyFrom 99 = .ok (.aaload, 1) := by decide +kernel
theorem dX4_copyFrom_100 : decode cX4_copyFrom 100 = .ok (.invokevirtual 54, 3) := by decide +kernel
theorem dX4_copyFrom_103 : decode cX4_copyFrom 103 = .ok (.iinc 2 1, 3) := by decide +kernel
theorem dX4_copyFrom_106 : decode cX4_copyFrom 106 = .ok (.goto (-35), 3) := by decide +kernel
theorem dX4_copyFrom_109 : decode cX4_copyFrom 109 = .ok (.aload_n 0, 1) := by decide +kernel
theorem dX4_copyFrom_110 : decode cX4_copyFrom 110 = .ok (.aload_n 1, 1) := by decide +kernel
theorem dX4_copyFrom_111 : decode cX4_copyFrom 111 = .ok (.getfield 57, 3) := by decide +kernel
theorem dX4_copyFrom_114 : decode cX4_copyFrom 114 = .ok (.putfield 57, 3) := by decide +kernel
theorem dX4_copyFrom_117 : decode cX4_copyFrom 117 = .ok (.aload_n 0, 1) := by decide +kernel
theorem dX4_copyFrom_118 : decode cX4_copyFrom 118 = .ok (.aload_n 1, 1) := by decide +kernel
theorem dX4_copyFrom_119 : decode cX4_copyFrom 119 = .ok (.getfield 60, 3) := by decide +kernel
theorem dX4_copyFrom_122 : decode cX4_copyFrom 122 = .ok (.putfield 60, 3) := by decide +kernel
theorem dX4_copyFrom_125 : decode cX4_copyFrom 125 = .ok (.aload_n 0, 1) := by decide +kernel
theorem dX4_copyFrom_126 : decode cX4_copyFrom 126 = .ok (.aload_n 1, 1) := by decide +kernel
theorem dX4_copyFrom_127 : decode cX4_copyFrom 127 = .ok (.getfield 63, 3) := by decide +kernel
theorem dX4_copyFrom_130 : decode cX4_copyFrom 130 = .ok (.putfield 63, 3) := by decide +kernel
theorem dX4_copyFrom_133 : decode cX4_copyFrom 133 = .ok (.aload_n 0, 1) := by decide +kernel
theorem dX4_copyFrom_134 : decode cX4_copyFrom 134 = .ok (.aload_n 1, 1) := by decide +kernel
theorem dX4_copyFrom_135 : decode cX4_copyFrom 135 = .ok (.getfield 66, 3) := by decide +kernel
theorem dX4_copyFrom_138 : decode cX4_copyFrom 138 = .ok (.putfield 66, 3) := by decide +kernel
theorem dX4_copyFrom_141 : decode cX4_copyFrom 141 = .ok (.aload_n 0, 1) := by decide +kernel
theorem dX4_copyFrom_142 : decode cX4_copyFrom 142 = .ok (.aload_n 1, 1) := by decide +kernel
theorem dX4_copyFrom_143 : decode cX4_copyFrom 143 = .ok (.getfield 69, 3) := by decide +kernel
theorem dX4_copyFrom_146 : decode cX4_copyFrom 146 = .ok (.putfield 69, 3) := by decide +kernel
theorem dX4_copyFrom_149 : decode cX4_copyFrom 149 = .ok (.aload_n 0, 1) := by decide +kernel
theorem dX4_copyFrom_150 : decode cX4_copyFrom 150 = .ok (.aload_n 1, 1) := by decide +kernel
theorem dX4_copyFrom_151 : decode cX4_copyFrom 151 = .ok (.getfield 72, 3) := by decide +kernel
theorem dX4_copyFrom_154 : decode cX4_copyFrom 154 = .ok (.putfield 72, 3) := by decide +kernel
theorem dX4_copyFrom_157 : decode cX4_copyFrom 157 = .ok (.aload_n 0, 1) := by decide +kernel
theorem dX4_copyFrom_158 : decode cX4_copyFrom 158 = .ok (.aload_n 1, 1) := by decide +kernel
theorem dX4_copyFrom_159 : decode cX4_copyFrom 159 = .ok (.getfield 75, 3) := by decide +kernel
theorem dX4_copyFrom_162 : decode cX4_copyFrom 162 = .ok (.putfield 75, 3) := by decide +kernel
theorem dX4_copyFrom_165 : decode cX4_copyFrom 165 = .ok (.return_, 1) := by decide +kernel
theorem dX4_startAnew_0 : decode cX4_startAnew 0 = .ok (.aload_n 0, 1) := by decide +kernel
theorem dX4_startAnew_1 : decode cX4_startAnew 1 = .ok (.iconst 0, 1) := by decide +kernel
theorem dX4_startAnew_2 : decode cX4_startAnew 2 = .ok (.putfield 40, 3) := by decide +kernel
theorem dX4_startAnew_5 : decode cX4_startAnew 5 = .ok (.aload_n 0, 1) := by decide +kernel
theorem dX4_startAnew_6 : decode cX4_startAnew 6 = .ok (.iload_n 2, 1) := by decide +kernel
theorem dX4_startAnew_7 : decode cX4_startAnew 7 = .ok (.putfield 9, 3) := by decide +kernel
theorem dX4_startAnew_10 : decode cX4_startAnew 10 = .ok (.aload_n 0, 1) := by decide +kernel
theorem dX4_startAnew_11 : decode cX4_startAnew 11 = .ok (.aload_n 1, 1) := by decide +kernel
theorem dX4_startAnew_12 : decode cX4_startAnew 12 = .ok (.getfield 15, 3) := by decide +kernel
theorem dX4_startAnew_15 : decode cX4_startAnew 15 = .ok (.putfield 15, 3) := by decide +kernel
theorem dX4_startAnew_18 : decode cX4_startAnew 18 = .ok (.aload_n 0, 1) := by decide +kernel
theorem dX4_startAnew_19 : decode cX4_startAnew 19 = .ok (.aload_n 1, 1) := by decide +kernel
theorem dX4_startAnew_20 : decode cX4_startAnew 20 = .ok (.invokevirtual 43, 3) := by decide +kernel
theorem dX4_startAnew_23 : decode cX4_startAnew 23 = .ok (.aload_n 0, 1) := by decide +kernel
theorem dX4_startAnew_24 : decode cX4_startAnew 24 = .ok (.getfield 24, 3) := by decide +kernel
theorem dX4_startAnew_27 : decode cX4_startAnew 27 = .ok (.astore_n 3, 1) := by decide +kernel
theorem dX4_startAnew_28 : decode cX4_startAnew 28 = .ok (.aload_n 3, 1) := by decide +kernel
theorem dX4_startAnew_29 : decode cX4_startAnew 29 = .ok (.arraylength, 1) := by decide +kernel
theorem dX4_startAnew_30 : decode cX4_startAnew 30 = .ok (.istore 4, 2) := by decide +kernel
theorem dX4_startAnew_32 : decode cX4_startAnew 32 = .ok (.iconst 0, 1) := by decide +kernel
theorem dX4_startAnew_33 : decode cX4_startAnew 33 = .ok (.istore 5, 2) := by decide +kernel
theorem dX4_startAnew_35 : decode cX4_startAnew 35 = .ok (.iload 5, 2) := by decide +kernel
theorem dX4_startAnew_37 : decode cX4_startAnew 37 = .ok (.iload 4, 2) := by decide +kernel
theorem dX4_startAnew_39 : decode cX4_startAnew 39 = .ok (.if_icmp .ge 20, 3) := by decide +kernel
theorem dX4_startAnew_42 : decode cX4_startAnew 42 = .ok (.aload_n 3, 1) := by decide +kernel
theorem dX4_startAnew_43 : decode cX4_startAnew 43 = .ok (.iload 5, 2) := by decide +kernel
theorem dX4_startAnew_45 : decode cX4_startAnew 45 = .ok (.aaload, 1) := by decide +kernel
theorem dX4_startAnew_46 : decode cX4_startAnew 46 = .ok (.astore 6, 2) := by decide +kernel
theorem dX4_startAnew_48 : decode cX4_startAnew 48 = .ok (.aload 6, 2) := by decide +kernel
theorem dX4_startAnew_50 : decode cX4_startAnew 50 = .ok (.invokevirtual 79, 3) := by decide +kernel
theorem dX4_startAnew_53 : decode cX4_startAnew 53 = .ok (.iinc 5 1, 3) := by decide +kernel
theorem dX4_startAnew_56 : decode cX4_startAnew 56 = .ok (.goto (-21), 3) := by decide +kernel
theorem dX4_startAnew_59 : decode cX4_startAnew 59 = .ok (.aload_n 0, 1) := by decide +kernel
theorem dX4_startAnew_60 : decode cX4_startAnew 60 = .ok (.iconst 0, 1) := by decide +kernel
theorem dX4_startAnew_61 : decode cX4_startAnew 61 = .ok (.putfield 51, 3) := by decide +kernel
theorem dX4_startAnew_64 : decode cX4_startAnew 64 = .ok (.aload_n 0, 1) := by decide +kernel
theorem dX4_startAnew_65 : decode cX4_startAnew 65 = .ok (.iconst 0, 1) := by decide +kernel
theorem dX4_startAnew_66 : decode cX4_startAnew 66 = .ok (.putfield 57, 3) := by decide +kernel
theorem dX4_startAnew_69 : decode cX4_startAnew 69 = .ok (.aload_n 0, 1) := by decide +kernel
theorem dX4_startAnew_70 : decode cX4_startAnew 70 = .ok (.iconst 0, 1) := by decide +kernel
theorem dX4_startAnew_71 : decode cX4_startAnew 71 = .ok (.putfield 60, 3) := by decide +kernel
theorem dX4_startAnew_74 : decode cX4_startAnew 74 = .ok (.aload_n 0, 1) := by decide +kernel
theorem dX4_startAnew_75 : decode cX4_startAnew 75 = .ok (.iconst 0, 1) := by decide +kernel
theorem dX4_startAnew_76 : decode cX4_startAnew 76 = .ok (.putfield 63, 3) := by decide +kernel
theorem dX4_startAnew_79 : decode cX4_startAnew 79 = .ok (.aload_n 0, 1) := by decide +kernel
theorem dX4_startAnew_80 : decode cX4_startAnew 80 = .ok (.iconst 0, 1) := by decide +kernel
theorem dX4_startAnew_81 : decode cX4_startAnew 81 = .ok (.putfield 66, 3) := by decide +kernel
theorem dX4_startAnew_84 : decode cX4_startAnew 84 = .ok (.aload_n 0, 1) := by decide +kernel
theorem dX4_startAnew_85 : decode cX4_startAnew 85 = .ok (.iconst 0, 1) := by decide +kernel
theorem dX4_startAnew_86 : decode cX4_startAnew 86 = .ok (.putfield 69, 3) := by decide +kernel
theorem dX4_startAnew_89 : decode cX4_startAnew 89 = .ok (.aload_n 0, 1) := by decide +kernel
theorem dX4_startAnew_90 : decode cX4_startAnew 90 = .ok (.iconst 0, 1) := by decide +kernel
theorem dX4_startAnew_91 : decode cX4_startAnew 91 = .ok (.putfield 72, 3) := by decide +kernel
theorem dX4_startAnew_94 : decode cX4_startAnew 94 = .ok (.aload_n 0, 1) := by decide +kernel
theorem dX4_startAnew_95 : decode cX4_startAnew 95 = .ok (.iconst 0, 1) := by decide +kernel
theorem dX4_startAnew_96 : decode cX4_startAnew 96 = .ok (.putfield 75, 3) := by decide +kernel
theorem dX4_startAnew_99 : decode cX4_startAnew 99 = .ok (.return_, 1) := by decide +kernel
theorem dX4_copyWays_0 : decode cX4_copyWays 0 = .ok (.iconst 0, 1) := by decide +kernel
theorem dX4_copyWays_1 : decode cX4_copyWays 1 = .ok (.istore_n 2, 1) := by decide +kernel
theorem dX4_copyWays_2 : decode cX4_copyWays 2 = .ok (.iload_n 2, 1) := by decide +kernel
theorem dX4_copyWays_3 : decode cX4_copyWays 3 = .ok (.aload_n 0, 1) := by decide +kernel
theorem dX4_copyWays_4 : decode cX4_copyWays 4 = .ok (.getfield 18, 3) := by decide +kernel
theorem dX4_copyWays_7 : decode cX4_copyWays 7 = .ok (.arraylength, 1) := by decide +kernel
theorem dX4_copyWays_8 : decode cX4_copyWays 8 = .ok (.if_icmp .ge 21, 3) := by decide +kernel
theorem dX4_copyWays_11 : decode cX4_copyWays 11 = .ok (.aload_n 0, 1) := by decide +kernel
theorem dX4_copyWays_12 : decode cX4_copyWays 12 = .ok (.getfield 18, 3) := by decide +kernel
theorem dX4_copyWays_15 : decode cX4_copyWays 15 = .ok (.iload_n 2, 1) := by decide +kernel
theorem dX4_copyWays_16 : decode cX4_copyWays 16 = .ok (.aload_n 1, 1) := by decide +kernel
theorem dX4_copyWays_17 : decode cX4_copyWays 17 = .ok (.getfield 18, 3) := by decide +kernel
theorem dX4_copyWays_20 : decode cX4_copyWays 20 = .ok (.iload_n 2, 1) := by decide +kernel
theorem dX4_copyWays_21 : decode cX4_copyWays 21 = .ok (.iaload, 1) := by decide +kernel
theorem dX4_copyWays_22 : decode cX4_copyWays 22 = .ok (.iastore, 1) := by decide +kernel
theorem dX4_copyWays_23 : decode cX4_copyWays 23 = .ok (.iinc 2 1, 3) := by decide +kernel
theorem dX4_copyWays_26 : decode cX4_copyWays 26 = .ok (.goto (-24), 3) := by decide +kernel
theorem dX4_copyWays_29 : decode cX4_copyWays 29 = .ok (.return_, 1) := by decide +kernel
theorem dX4_way_0 : decode cX4_way 0 = .ok (.aload_n 0, 1) := by decide +kernel
theorem dX4_way_1 : decode cX4_way 1 = .ok (.getfield 18, 3) := by decide +kernel
theorem dX4_way_4 : decode cX4_way 4 = .ok (.iload_n 1, 1) := by decide +kernel
theorem dX4_way_5 : decode cX4_way 5 = .ok (.bipush 7, 2) := by decide +kernel
theorem dX4_way_7 : decode cX4_way 7 = .ok (.imul, 1) := by decide +kernel
theorem dX4_way_8 : decode cX4_way 8 = .ok (.iload_n 2, 1) := by decide +kernel
theorem dX4_way_9 : decode cX4_way 9 = .ok (.iadd, 1) := by decide +kernel
theorem dX4_way_10 : decode cX4_way 10 = .ok (.iaload, 1) := by decide +kernel
theorem dX4_way_11 : decode cX4_way 11 = .ok (.ireturn, 1) := by decide +kernel
theorem dX4_putWay_0 : decode cX4_putWay 0 = .ok (.aload_n 0, 1) := by decide +kernel
theorem dX4_putWay_1 : decode cX4_putWay 1 = .ok (.getfield 18, 3) := by decide +kernel
theorem dX4_putWay_4 : decode cX4_putWay 4 = .ok (.iload_n 1, 1) := by decide +kernel
theorem dX4_putWay_5 : decode cX4_putWay 5 = .ok (.bipush 7, 2) := by decide +kernel
theorem dX4_putWay_7 : decode cX4_putWay 7 = .ok (.imul, 1) := by decide +kernel
theorem dX4_putWay_8 : decode cX4_putWay 8 = .ok (.iload_n 2, 1) := by decide +kernel
theorem dX4_putWay_9 : decode cX4_putWay 9 = .ok (.iadd, 1) := by decide +kernel
theorem dX4_putWay_10 : decode cX4_putWay 10 = .ok (.iload_n 3, 1) := by decide +kernel
theorem dX4_putWay_11 : decode cX4_putWay 11 = .ok (.iastore, 1) := by decide +kernel
theorem dX4_putWay_12 : decode cX4_putWay 12 = .ok (.aload_n 0, 1) := by decide +kernel
theorem dX4_putWay_13 : decode cX4_putWay 13 = .ok (.getfield 18, 3) := by decide +kernel
theorem dX4_putWay_16 : decode cX4_putWay 16 = .ok (.iload_n 2, 1) := by decide +kernel
theorem dX4_putWay_17 : decode cX4_putWay 17 = .ok (.bipush 7, 2) := by decide +kernel
theorem dX4_putWay_19 : decode cX4_putWay 19 = .ok (.imul, 1) := by decide +kernel
theorem dX4_putWay_20 : decode cX4_putWay 20 = .ok (.iload_n 1, 1) := by decide +kernel
theorem dX4_putWay_21 : decode cX4_putWay 21 = .ok (.iadd, 1) := by decide +kernel
theorem dX4_putWay_22 : decode cX4_putWay 22 = .ok (.iload_n 3, 1) := by decide +kernel
theorem dX4_putWay_23 : decode cX4_putWay 23 = .ok (.iastore, 1) := by decide +kernel
theorem dX4_putWay_24 : decode cX4_putWay 24 = .ok (.return_, 1) := by decide +kernel
theorem dX4_mint_0 : decode cX4_mint 0 = .ok (.iconst 1, 1) := by decide +kernel
theorem dX4_mint_1 : decode cX4_mint 1 = .ok (.aload_n 0, 1) := by decide +kernel
theorem dX4_mint_2 : decode cX4_mint 2 = .ok (.getfield 9, 3) := by decide +kernel
theorem dX4_mint_5 : decode cX4_mint 5 = .ok (.ishl, 1) := by decide +kernel
theorem dX4_mint_6 : decode cX4_mint 6 = .ok (.istore_n 1, 1) := by decide +kernel
theorem dX4_mint_7 : decode cX4_mint 7 = .ok (.aload_n 0, 1) := by decide +kernel
theorem dX4_mint_8 : decode cX4_mint 8 = .ok (.dup, 1) := by decide +kernel
theorem dX4_mint_9 : decode cX4_mint 9 = .ok (.getfield 57, 3) := by decide +kernel
theorem dX4_mint_12 : decode cX4_mint 12 = .ok (.iload_n 1, 1) := by decide +kernel
theorem dX4_mint_13 : decode cX4_mint 13 = .ok (.iadd, 1) := by decide +kernel
theorem dX4_mint_14 : decode cX4_mint 14 = .ok (.putfield 57, 3) := by decide +kernel
theorem dX4_mint_17 : decode cX4_mint 17 = .ok (.aload_n 0, 1) := by decide +kernel
theorem dX4_mint_18 : decode cX4_mint 18 = .ok (.dup, 1) := by decide +kernel
theorem dX4_mint_19 : decode cX4_mint 19 = .ok (.getfield 69, 3) := by decide +kernel
theorem dX4_mint_22 : decode cX4_mint 22 = .ok (.iconst 1, 1) := by decide +kernel
theorem dX4_mint_23 : decode cX4_mint 23 = .ok (.iadd, 1) := by decide +kernel
theorem dX4_mint_24 : decode cX4_mint 24 = .ok (.putfield 69, 3) := by decide +kernel
theorem dX4_mint_27 : decode cX4_mint 27 = .ok (.iload_n 1, 1) := by decide +kernel
theorem dX4_mint_28 : decode cX4_mint 28 = .ok (.ireturn, 1) := by decide +kernel
theorem dX4_startErrands_0 : decode cX4_startErrands 0 = .ok (.iconst 0, 1) := by decide +kernel
theorem dX4_startErrands_1 : decode cX4_startErrands 1 = .ok (.istore_n 2, 1) := by decide +kernel
theorem dX4_startErrands_2 : decode cX4_startErrands 2 = .ok (.iload_n 2, 1) := by decide +kernel
theorem dX4_startErrands_3 : decode cX4_startErrands 3 = .ok (.aload_n 1, 1) := by decide +kernel
theorem dX4_startErrands_4 : decode cX4_startErrands 4 = .ok (.getfield 82, 3) := by decide +kernel
theorem dX4_startErrands_7 : decode cX4_startErrands 7 = .ok (.if_icmp .ge 55, 3) := by decide +kernel
theorem dX4_startErrands_10 : decode cX4_startErrands 10 = .ok (.iload_n 2, 1) := by decide +kernel
theorem dX4_startErrands_11 : decode cX4_startErrands 11 = .ok (.aload_n 1, 1) := by decide +kernel
theorem dX4_startErrands_12 : decode cX4_startErrands 12 = .ok (.getfield 87, 3) := by decide +kernel
theorem dX4_startErrands_15 : decode cX4_startErrands 15 = .ok (.arraylength, 1) := by decide +kernel
theorem dX4_startErrands_16 : decode cX4_startErrands 16 = .ok (.if_icmp .ge 46, 3) := by decide +kernel
theorem dX4_startErrands_19 : decode cX4_startErrands 19 = .ok (.aload_n 1, 1) := by decide +kernel
theorem dX4_startErrands_20 : decode cX4_startErrands 20 = .ok (.getfield 87, 3) := by decide +kernel
theorem dX4_startErrands_23 : decode cX4_startErrands 23 = .ok (.iload_n 2, 1) := by decide +kernel
theorem dX4_startErrands_24 : decode cX4_startErrands 24 = .ok (.aaload, 1) := by decide +kernel
theorem dX4_startErrands_25 : decode cX4_startErrands 25 = .ok (.astore_n 3, 1) := by decide +kernel
theorem dX4_startErrands_26 : decode cX4_startErrands 26 = .ok (.aload_n 3, 1) := by decide +kernel
theorem dX4_startErrands_27 : decode cX4_startErrands 27 = .ok (.ifnull 29, 3) := by decide +kernel
theorem dX4_startErrands_30 : decode cX4_startErrands 30 = .ok (.aload_n 0, 1) := by decide +kernel
theorem dX4_startErrands_31 : decode cX4_startErrands 31 = .ok (.dup, 1) := by decide +kernel
theorem dX4_startErrands_32 : decode cX4_startErrands 32 = .ok (.getfield 66, 3) := by decide +kernel
theorem dX4_startErrands_35 : decode cX4_startErrands 35 = .ok (.iconst 1, 1) := by decide +kernel
theorem dX4_startErrands_36 : decode cX4_startErrands 36 = .ok (.iadd, 1) := by decide +kernel
theorem dX4_startErrands_37 : decode cX4_startErrands 37 = .ok (.putfield 66, 3) := by decide +kernel
theorem dX4_startErrands_40 : decode cX4_startErrands 40 = .ok (.aload_n 0, 1) := by decide +kernel
theorem dX4_startErrands_41 : decode cX4_startErrands 41 = .ok (.iconst 0, 1) := by decide +kernel
theorem dX4_startErrands_42 : decode cX4_startErrands 42 = .ok (.bipush 6, 2) := by decide +kernel
theorem dX4_startErrands_44 : decode cX4_startErrands 44 = .ok (.aload_n 3, 1) := by decide +kernel
theorem dX4_startErrands_45 : decode cX4_startErrands 45 = .ok (.getfield 91, 3) := by decide +kernel
theorem dX4_startErrands_48 : decode cX4_startErrands 48 = .ok (.aload_n 0, 1) := by decide +kernel
theorem dX4_startErrands_49 : decode cX4_startErrands 49 = .ok (.invokevirtual 96, 3) := by decide +kernel
theorem dX4_startErrands_52 : decode cX4_startErrands 52 = .ok (.aload_n 3, 1) := by decide +kernel
theorem dX4_startErrands_53 : decode cX4_startErrands 53 = .ok (.invokevirtual 100, 3) := by decide +kernel
theorem dX4_startErrands_56 : decode cX4_startErrands 56 = .ok (.iinc 2 1, 3) := by decide +kernel
theorem dX4_startErrands_59 : decode cX4_startErrands 59 = .ok (.goto (-57), 3) := by decide +kernel
theorem dX4_startErrands_62 : decode cX4_startErrands 62 = .ok (.return_, 1) := by decide +kernel
theorem dX4_post_0 : decode cX4_post 0 = .ok (.iload_n 2, 1) := by decide +kernel
theorem dX4_post_1 : decode cX4_post 1 = .ok (.bipush 7, 2) := by decide +kernel
theorem dX4_post_3 : decode cX4_post 3 = .ok (.imul, 1) := by decide +kernel
theorem dX4_post_4 : decode cX4_post 4 = .ok (.iload_n 3, 1) := by decide +kernel
theorem dX4_post_5 : decode cX4_post 5 = .ok (.iadd, 1) := by decide +kernel
theorem dX4_post_6 : decode cX4_post 6 = .ok (.istore 6, 2) := by decide +kernel
theorem dX4_post_8 : decode cX4_post 8 = .ok (.iload 6, 2) := by decide +kernel
theorem dX4_post_10 : decode cX4_post 10 = .ok (.ifCond .lt 32, 3) := by decide +kernel
theorem dX4_post_13 : decode cX4_post 13 = .ok (.iload 6, 2) := by decide +kernel
theorem dX4_post_15 : decode cX4_post 15 = .ok (.aload_n 0, 1) := by decide +kernel
theorem dX4_post_16 : decode cX4_post 16 = .ok (.getfield 18, 3) := by decide +kernel
theorem dX4_post_19 : decode cX4_post 19 = .ok (.arraylength, 1) := by decide +kernel
theorem dX4_post_20 : decode cX4_post 20 = .ok (.if_icmp .ge 22, 3) := by decide +kernel
theorem dX4_post_23 : decode cX4_post 23 = .ok (.aload_n 0, 1) := by decide +kernel
theorem dX4_post_24 : decode cX4_post 24 = .ok (.getfield 51, 3) := by decide +kernel
theorem dX4_post_27 : decode cX4_post 27 = .ok (.ifCond .lt 15, 3) := by decide +kernel
theorem dX4_post_30 : decode cX4_post 30 = .ok (.aload_n 0, 1) := by decide +kernel
theorem dX4_post_31 : decode cX4_post 31 = .ok (.getfield 51, 3) := by decide +kernel
theorem dX4_post_34 : decode cX4_post 34 = .ok (.aload_n 0, 1) := by decide +kernel
theorem dX4_post_35 : decode cX4_post 35 = .ok (.getfield 30, 3) := by decide +kernel
theorem dX4_post_38 : decode cX4_post 38 = .ok (.arraylength, 1) := by decide +kernel
theorem dX4_post_39 : decode cX4_post 39 = .ok (.if_icmp .lt 4, 3) := by decide +kernel
theorem dX4_post_42 : decode cX4_post 42 = .ok (.return_, 1) := by decide +kernel
theorem dX4_post_43 : decode cX4_post 43 = .ok (.aload_n 0, 1) := by decide +kernel
theorem dX4_post_44 : decode cX4_post 44 = .ok (.getfield 30, 3) := by decide +kernel
theorem dX4_post_47 : decode cX4_post 47 = .ok (.aload_n 0, 1) := by decide +kernel
theorem dX4_post_48 : decode cX4_post 48 = .ok (.getfield 51, 3) := by decide +kernel
theorem dX4_post_51 : decode cX4_post 51 = .ok (.aaload, 1) := by decide +kernel
theorem dX4_post_52 : decode cX4_post 52 = .ok (.astore 7, 2) := by decide +kernel
theorem dX4_post_54 : decode cX4_post 54 = .ok (.aload 7, 2) := by decide +kernel
theorem dX4_post_56 : decode cX4_post 56 = .ok (.iload_n 1, 1) := by decide +kernel
theorem dX4_post_57 : decode cX4_post 57 = .ok (.putfield 104, 3) := by decide +kernel
theorem dX4_post_60 : decode cX4_post 60 = .ok (.aload 7, 2) := by decide +kernel
theorem dX4_post_62 : decode cX4_post 62 = .ok (.iload_n 2, 1) := by decide +kernel
theorem dX4_post_63 : decode cX4_post 63 = .ok (.putfield 107, 3) := by decide +kernel
theorem dX4_post_66 : decode cX4_post 66 = .ok (.aload 7, 2) := by decide +kernel
theorem dX4_post_68 : decode cX4_post 68 = .ok (.iload_n 3, 1) := by decide +kernel
theorem dX4_post_69 : decode cX4_post 69 = .ok (.putfield 110, 3) := by decide +kernel
theorem dX4_post_72 : decode cX4_post 72 = .ok (.aload 7, 2) := by decide +kernel
theorem dX4_post_74 : decode cX4_post 74 = .ok (.iload 4, 2) := by decide +kernel
theorem dX4_post_76 : decode cX4_post 76 = .ok (.putfield 113, 3) := by decide +kernel
theorem dX4_post_79 : decode cX4_post 79 = .ok (.aload 7, 2) := by decide +kernel
theorem dX4_post_81 : decode cX4_post 81 = .ok (.aload_n 0, 1) := by decide +kernel
theorem dX4_post_82 : decode cX4_post 82 = .ok (.getfield 40, 3) := by decide +kernel
theorem dX4_post_85 : decode cX4_post 85 = .ok (.aload_n 0, 1) := by decide +kernel
theorem dX4_post_86 : decode cX4_post 86 = .ok (.getfield 18, 3) := by decide +kernel
theorem dX4_post_89 : decode cX4_post 89 = .ok (.iload 6, 2) := by decide +kernel
theorem dX4_post_91 : decode cX4_post 91 = .ok (.iaload, 1) := by decide +kernel
theorem dX4_post_92 : decode cX4_post 92 = .ok (.iadd, 1) := by decide +kernel
theorem dX4_post_93 : decode cX4_post 93 = .ok (.putfield 116, 3) := by decide +kernel
theorem dX4_post_96 : decode cX4_post 96 = .ok (.aload 7, 2) := by decide +kernel
theorem dX4_post_98 : decode cX4_post 98 = .ok (.aload 5, 2) := by decide +kernel
theorem dX4_post_100 : decode cX4_post 100 = .ok (.putfield 119, 3) := by decide +kernel
theorem dX4_post_103 : decode cX4_post 103 = .ok (.aload_n 0, 1) := by decide +kernel
theorem dX4_post_104 : decode cX4_post 104 = .ok (.getfield 51, 3) := by decide +kernel
theorem dX4_post_107 : decode cX4_post 107 = .ok (.istore 8, 2) := by decide +kernel
theorem dX4_post_109 : decode cX4_post 109 = .ok (.iload 8, 2) := by decide +kernel
theorem dX4_post_111 : decode cX4_post 111 = .ok (.ifCond .le 45, 3) := by decide +kernel
theorem dX4_post_114 : decode cX4_post 114 = .ok (.aload_n 0, 1) := by decide +kernel
theorem dX4_post_115 : decode cX4_post 115 = .ok (.getfield 30, 3) := by decide +kernel
theorem dX4_post_118 : decode cX4_post 118 = .ok (.iload 8, 2) := by decide +kernel
theorem dX4_post_120 : decode cX4_post 120 = .ok (.iconst 1, 1) := by decide +kernel
theorem dX4_post_121 : decode cX4_post 121 = .ok (.isub, 1) := by decide +kernel
theorem dX4_post_122 : decode cX4_post 122 = .ok (.aaload, 1) := by decide +kernel
theorem dX4_post_123 : decode cX4_post 123 = .ok (.getfield 116, 3) := by decide +kernel
theorem dX4_post_126 : decode cX4_post 126 = .ok (.aload 7, 2) := by decide +kernel
theorem dX4_post_128 : decode cX4_post 128 = .ok (.getfield 116, 3) := by decide +kernel
theorem dX4_post_131 : decode cX4_post 131 = .ok (.if_icmp .le 25, 3) := by decide +kernel
theorem dX4_post_134 : decode cX4_post 134 = .ok (.aload_n 0, 1) := by decide +kernel
theorem dX4_post_135 : decode cX4_post 135 = .ok (.getfield 30, 3) := by decide +kernel
theorem dX4_post_138 : decode cX4_post 138 = .ok (.iload 8, 2) := by decide +kernel
theorem dX4_post_140 : decode cX4_post 140 = .ok (.aload_n 0, 1) := by decide +kernel
theorem dX4_post_141 : decode cX4_post 141 = .ok (.getfield 30, 3) := by decide +kernel
theorem dX4_post_144 : decode cX4_post 144 = .ok (.iload 8, 2) := by decide +kernel
theorem dX4_post_146 : decode cX4_post 146 = .ok (.iconst 1, 1) := by decide +kernel
theorem dX4_post_147 : decode cX4_post 147 = .ok (.isub, 1) := by decide +kernel
theorem dX4_post_148 : decode cX4_post 148 = .ok (.aaload, 1) := by decide +kernel
theorem dX4_post_149 : decode cX4_post 149 = .ok (.aastore, 1) := by decide +kernel
theorem dX4_post_150 : decode cX4_post 150 = .ok (.iinc 8 (-1), 3) := by decide +kernel
theorem dX4_post_153 : decode cX4_post 153 = .ok (.goto (-44), 3) := by decide +kernel
theorem dX4_post_156 : decode cX4_post 156 = .ok (.aload_n 0, 1) := by decide +kernel
theorem dX4_post_157 : decode cX4_post 157 = .ok (.getfield 30, 3) := by decide +kernel
theorem dX4_post_160 : decode cX4_post 160 = .ok (.iload 8, 2) := by decide +kernel
theorem dX4_post_162 : decode cX4_post 162 = .ok (.aload 7, 2) := by decide +kernel
theorem dX4_post_164 : decode cX4_post 164 = .ok (.aastore, 1) := by decide +kernel
theorem dX4_post_165 : decode cX4_post 165 = .ok (.aload_n 0, 1) := by decide +kernel
theorem dX4_post_166 : decode cX4_post 166 = .ok (.dup, 1) := by decide +kernel
theorem dX4_post_167 : decode cX4_post 167 = .ok (.getfield 51, 3) := by decide +kernel
theorem dX4_post_170 : decode cX4_post 170 = .ok (.iconst 1, 1) := by decide +kernel
theorem dX4_post_171 : decode cX4_post 171 = .ok (.iadd, 1) := by decide +kernel
theorem dX4_post_172 : decode cX4_post 172 = .ok (.putfield 51, 3) := by decide +kernel
theorem dX4_post_175 : decode cX4_post 175 = .ok (.return_, 1) := by decide +kernel
theorem dX4_isOnItsWay_0 : decode cX4_isOnItsWay 0 = .ok (.iload_n 1, 1) := by decide +kernel
theorem dX4_isOnItsWay_1 : decode cX4_isOnItsWay 1 = .ok (.ifCond .lt 24, 3) := by decide +kernel
theorem dX4_isOnItsWay_4 : decode cX4_isOnItsWay 4 = .ok (.iload_n 1, 1) := by decide +kernel
theorem dX4_isOnItsWay_5 : decode cX4_isOnItsWay 5 = .ok (.aload_n 0, 1) := by decide +kernel
theorem dX4_isOnItsWay_6 : decode cX4_isOnItsWay 6 = .ok (.getfield 51, 3) := by decide +kernel
theorem dX4_isOnItsWay_9 : decode cX4_isOnItsWay 9 = .ok (.if_icmp .ge 16, 3) := by decide +kernel
theorem dX4_isOnItsWay_12 : decode cX4_isOnItsWay 12 = .ok (.iload_n 1, 1) := by decide +kernel
theorem dX4_isOnItsWay_13 : decode cX4_isOnItsWay 13 = .ok (.aload_n 0, 1) := by decide +kernel
theorem dX4_isOnItsWay_14 : decode cX4_isOnItsWay 14 = .ok (.getfield 30, 3) := by decide +kernel
theorem dX4_isOnItsWay_17 : decode cX4_isOnItsWay 17 = .ok (.arraylength, 1) := by decide +kernel
theorem dX4_isOnItsWay_18 : decode cX4_isOnItsWay 18 = .ok (.if_icmp .ge 7, 3) := by decide +kernel
theorem dX4_isOnItsWay_21 : decode cX4_isOnItsWay 21 = .ok (.iconst 1, 1) := by decide +kernel
theorem dX4_isOnItsWay_22 : decode cX4_isOnItsWay 22 = .ok (.goto 4, 3) := by decide +kernel
theorem dX4_isOnItsWay_25 : decode cX4_isOnItsWay 25 = .ok (.iconst 0, 1) := by decide +kernel
theorem dX4_isOnItsWay_26 : decode cX4_isOnItsWay 26 = .ok (.ireturn, 1) := by decide +kernel
theorem dX4_takeOut_0 : decode cX4_takeOut 0 = .ok (.aload_n 0, 1) := by decide +kernel
theorem dX4_takeOut_1 : decode cX4_takeOut 1 = .ok (.iload_n 1, 1) := by decide +kernel
theorem dX4_takeOut_2 : decode cX4_takeOut 2 = .ok (.invokevirtual 123, 3) := by decide +kernel
theorem dX4_takeOut_5 : decode cX4_takeOut 5 = .ok (.ifCond .ne 4, 3) := by decide +kernel
theorem dX4_takeOut_8 : decode cX4_takeOut 8 = .ok (.return_, 1) := by decide +kernel
theorem dX4_takeOut_9 : decode cX4_takeOut 9 = .ok (.aload_n 0, 1) := by decide +kernel
theorem dX4_takeOut_10 : decode cX4_takeOut 10 = .ok (.getfield 30, 3) := by decide +kernel
theorem dX4_takeOut_13 : decode cX4_takeOut 13 = .ok (.iload_n 1, 1) := by decide +kernel
theorem dX4_takeOut_14 : decode cX4_takeOut 14 = .ok (.aaload, 1) := by decide +kernel
theorem dX4_takeOut_15 : decode cX4_takeOut 15 = .ok (.astore_n 2, 1) := by decide +kernel
theorem dX4_takeOut_16 : decode cX4_takeOut 16 = .ok (.iload_n 1, 1) := by decide +kernel
theorem dX4_takeOut_17 : decode cX4_takeOut 17 = .ok (.istore_n 3, 1) := by decide +kernel
theorem dX4_takeOut_18 : decode cX4_takeOut 18 = .ok (.iload_n 3, 1) := by decide +kernel
theorem dX4_takeOut_19 : decode cX4_takeOut 19 = .ok (.iconst 1, 1) := by decide +kernel
theorem dX4_takeOut_20 : decode cX4_takeOut 20 = .ok (.iadd, 1) := by decide +kernel
theorem dX4_takeOut_21 : decode cX4_takeOut 21 = .ok (.aload_n 0, 1) := by decide +kernel
theorem dX4_takeOut_22 : decode cX4_takeOut 22 = .ok (.getfield 51, 3) := by decide +kernel
theorem dX4_takeOut_25 : decode cX4_takeOut 25 = .ok (.if_icmp .ge 23, 3) := by decide +kernel
theorem dX4_takeOut_28 : decode cX4_takeOut 28 = .ok (.aload_n 0, 1) := by decide +kernel
theorem dX4_takeOut_29 : decode cX4_takeOut 29 = .ok (.getfield 30, 3) := by decide +kernel
theorem dX4_takeOut_32 : decode cX4_takeOut 32 = .ok (.iload_n 3, 1) := by decide +kernel
theorem dX4_takeOut_33 : decode cX4_takeOut 33 = .ok (.aload_n 0, 1) := by decide +kernel
theorem dX4_takeOut_34 : decode cX4_takeOut 34 = .ok (.getfield 30, 3) := by decide +kernel
theorem dX4_takeOut_37 : decode cX4_takeOut 37 = .ok (.iload_n 3, 1) := by decide +kernel
theorem dX4_takeOut_38 : decode cX4_takeOut 38 = .ok (.iconst 1, 1) := by decide +kernel
theorem dX4_takeOut_39 : decode cX4_takeOut 39 = .ok (.iadd, 1) := by decide +kernel
theorem dX4_takeOut_40 : decode cX4_takeOut 40 = .ok (.aaload, 1) := by decide +kernel
theorem dX4_takeOut_41 : decode cX4_takeOut 41 = .ok (.aastore, 1) := by decide +kernel
theorem dX4_takeOut_42 : decode cX4_takeOut 42 = .ok (.iinc 3 1, 3) := by decide +kernel
theorem dX4_takeOut_45 : decode cX4_takeOut 45 = .ok (.goto (-27), 3) := by decide +kernel
theorem dX4_takeOut_48 : decode cX4_takeOut 48 = .ok (.aload_n 0, 1) := by decide +kernel
theorem dX4_takeOut_49 : decode cX4_takeOut 49 = .ok (.dup, 1) := by decide +kernel
theorem dX4_takeOut_50 : decode cX4_takeOut 50 = .ok (.getfield 51, 3) := by decide +kernel
theorem dX4_takeOut_53 : decode cX4_takeOut 53 = .ok (.iconst 1, 1) := by decide +kernel
theorem dX4_takeOut_54 : decode cX4_takeOut 54 = .ok (.isub, 1) := by decide +kernel
theorem dX4_takeOut_55 : decode cX4_takeOut 55 = .ok (.putfield 51, 3) := by decide +kernel
theorem dX4_takeOut_58 : decode cX4_takeOut 58 = .ok (.aload_n 0, 1) := by decide +kernel
theorem dX4_takeOut_59 : decode cX4_takeOut 59 = .ok (.getfield 30, 3) := by decide +kernel
theorem dX4_takeOut_62 : decode cX4_takeOut 62 = .ok (.aload_n 0, 1) := by decide +kernel
theorem dX4_takeOut_63 : decode cX4_takeOut 63 = .ok (.getfield 51, 3) := by decide +kernel
theorem dX4_takeOut_66 : decode cX4_takeOut 66 = .ok (.aload_n 2, 1) := by decide +kernel
theorem dX4_takeOut_67 : decode cX4_takeOut 67 = .ok (.aastore, 1) := by decide +kernel
theorem dX4_takeOut_68 : decode cX4_takeOut 68 = .ok (.return_, 1) := by decide +kernel
theorem dX4_dropMessage_0 : decode cX4_dropMessage 0 = .ok (.aload_n 0, 1) := by decide +kernel
theorem dX4_dropMessage_1 : decode cX4_dropMessage 1 = .ok (.iload_n 1, 1) := by decide +kernel
theorem dX4_dropMessage_2 : decode cX4_dropMessage 2 = .ok (.invokevirtual 123, 3) := by decide +kernel
theorem dX4_dropMessage_5 : decode cX4_dropMessage 5 = .ok (.ifCond .ne 5, 3) := by decide +kernel
theorem dX4_dropMessage_8 : decode cX4_dropMessage 8 = .ok (.iconst (-1), 1) := by decide +kernel
theorem dX4_dropMessage_9 : decode cX4_dropMessage 9 = .ok (.ireturn, 1) := by decide +kernel
theorem dX4_dropMessage_10 : decode cX4_dropMessage 10 = .ok (.aload_n 0, 1) := by decide +kernel
theorem dX4_dropMessage_11 : decode cX4_dropMessage 11 = .ok (.getfield 30, 3) := by decide +kernel
theorem dX4_dropMessage_14 : decode cX4_dropMessage 14 = .ok (.iload_n 1, 1) := by decide +kernel
theorem dX4_dropMessage_15 : decode cX4_dropMessage 15 = .ok (.aaload, 1) := by decide +kernel
theorem dX4_dropMessage_16 : decode cX4_dropMessage 16 = .ok (.astore_n 2, 1) := by decide +kernel
theorem dX4_dropMessage_17 : decode cX4_dropMessage 17 = .ok (.aload_n 2, 1) := by decide +kernel
theorem dX4_dropMessage_18 : decode cX4_dropMessage 18 = .ok (.getfield 113, 3) := by decide +kernel
theorem dX4_dropMessage_21 : decode cX4_dropMessage 21 = .ok (.istore_n 3, 1) := by decide +kernel
theorem dX4_dropMessage_22 : decode cX4_dropMessage 22 = .ok (.aload_n 2, 1) := by decide +kernel
theorem dX4_dropMessage_23 : decode cX4_dropMessage 23 = .ok (.getfield 104, 3) := by decide +kernel
theorem dX4_dropMessage_26 : decode cX4_dropMessage 26 = .ok (.iconst 1, 1) := by decide +kernel
theorem dX4_dropMessage_27 : decode cX4_dropMessage 27 = .ok (.if_icmp .ne 11, 3) := by decide +kernel
theorem dX4_dropMessage_30 : decode cX4_dropMessage 30 = .ok (.aload_n 0, 1) := by decide +kernel
theorem dX4_dropMessage_31 : decode cX4_dropMessage 31 = .ok (.aload_n 2, 1) := by decide +kernel
theorem dX4_dropMessage_32 : decode cX4_dropMessage 32 = .ok (.getfield 107, 3) := by decide +kernel
theorem dX4_dropMessage_35 : decode cX4_dropMessage 35 = .ok (.invokevirtual 127, 3) := by decide +kernel
theorem dX4_dropMessage_38 : decode cX4_dropMessage 38 = .ok (.aload_n 2, 1) := by decide +kernel
theorem dX4_dropMessage_39 : decode cX4_dropMessage 39 = .ok (.getfield 104, 3) := by decide +kernel
theorem dX4_dropMessage_42 : decode cX4_dropMessage 42 = .ok (.iconst 2, 1) := by decide +kernel
theorem dX4_dropMessage_43 : decode cX4_dropMessage 43 = .ok (.if_icmp .ne 11, 3) := by decide +kernel
theorem dX4_dropMessage_46 : decode cX4_dropMessage 46 = .ok (.aload_n 0, 1) := by decide +kernel
theorem dX4_dropMessage_47 : decode cX4_dropMessage 47 = .ok (.aload_n 2, 1) := by decide +kernel
theorem dX4_dropMessage_48 : decode cX4_dropMessage 48 = .ok (.getfield 110, 3) := by decide +kernel
theorem dX4_dropMessage_51 : decode cX4_dropMessage 51 = .ok (.invokevirtual 127, 3) := by decide +kernel
theorem dX4_dropMessage_54 : decode cX4_dropMessage 54 = .ok (.aload_n 0, 1) := by decide +kernel
theorem dX4_dropMessage_55 : decode cX4_dropMessage 55 = .ok (.dup, 1) := by decide +kernel
theorem dX4_dropMessage_56 : decode cX4_dropMessage 56 = .ok (.getfield 63, 3) := by decide +kernel
theorem dX4_dropMessage_59 : decode cX4_dropMessage 59 = .ok (.iload_n 3, 1) := by decide +kernel
theorem dX4_dropMessage_60 : decode cX4_dropMessage 60 = .ok (.iadd, 1) := by decide +kernel
theorem dX4_dropMessage_61 : decode cX4_dropMessage 61 = .ok (.putfield 63, 3) := by decide +kernel
theorem dX4_dropMessage_64 : decode cX4_dropMessage 64 = .ok (.aload_n 0, 1) := by decide +kernel
theorem dX4_dropMessage_65 : decode cX4_dropMessage 65 = .ok (.dup, 1) := by decide +kernel
theorem dX4_dropMessage_66 : decode cX4_dropMessage 66 = .ok (.getfield 72, 3) := by decide +kernel
theorem dX4_dropMessage_69 : decode cX4_dropMessage 69 = .ok (.iconst 1, 1) := by decide +kernel
theorem dX4_dropMessage_70 : decode cX4_dropMessage 70 = .ok (.iadd, 1) := by decide +kernel
theorem dX4_dropMessage_71 : decode cX4_dropMessage 71 = .ok (.putfield 72, 3) := by decide +kernel
theorem dX4_dropMessage_74 : decode cX4_dropMessage 74 = .ok (.aload_n 0, 1) := by decide +kernel
theorem dX4_dropMessage_75 : decode cX4_dropMessage 75 = .ok (.iconst 1, 1) := by decide +kernel
theorem dX4_dropMessage_76 : decode cX4_dropMessage 76 = .ok (.putfield 75, 3) := by decide +kernel
theorem dX4_dropMessage_79 : decode cX4_dropMessage 79 = .ok (.aload_n 0, 1) := by decide +kernel
theorem dX4_dropMessage_80 : decode cX4_dropMessage 80 = .ok (.iload_n 1, 1) := by decide +kernel
theorem dX4_dropMessage_81 : decode cX4_dropMessage 81 = .ok (.invokevirtual 131, 3) := by decide +kernel
theorem dX4_dropMessage_84 : decode cX4_dropMessage 84 = .ok (.iload_n 3, 1) := by decide +kernel
theorem dX4_dropMessage_85 : decode cX4_dropMessage 85 = .ok (.ireturn, 1) := by decide +kernel
theorem dX4_loseAskOf_0 : decode cX4_loseAskOf 0 = .ok (.iload_n 1, 1) := by decide +kernel
theorem dX4_loseAskOf_1 : decode cX4_loseAskOf 1 = .ok (.invokestatic 134, 3) := by decide +kernel
theorem dX4_loseAskOf_4 : decode cX4_loseAskOf 4 = .ok (.ifCond .eq 13, 3) := by decide +kernel
theorem dX4_loseAskOf_7 : decode cX4_loseAskOf 7 = .ok (.aload_n 0, 1) := by decide +kernel
theorem dX4_loseAskOf_8 : decode cX4_loseAskOf 8 = .ok (.getfield 24, 3) := by decide +kernel
theorem dX4_loseAskOf_11 : decode cX4_loseAskOf 11 = .ok (.iload_n 1, 1) := by decide +kernel
theorem dX4_loseAskOf_12 : decode cX4_loseAskOf 12 = .ok (.aaload, 1) := by decide +kernel
theorem dX4_loseAskOf_13 : decode cX4_loseAskOf 13 = .ok (.iconst 1, 1) := by decide +kernel
theorem dX4_loseAskOf_14 : decode cX4_loseAskOf 14 = .ok (.putfield 137, 3) := by decide +kernel
theorem dX4_loseAskOf_17 : decode cX4_loseAskOf 17 = .ok (.return_, 1) := by decide +kernel
theorem dX4_replaceLost_0 : decode cX4_replaceLost 0 = .ok (.aload_n 0, 1) := by decide +kernel
theorem dX4_replaceLost_1 : decode cX4_replaceLost 1 = .ok (.getfield 63, 3) := by decide +kernel
theorem dX4_replaceLost_4 : decode cX4_replaceLost 4 = .ok (.istore_n 1, 1) := by decide +kernel
theorem dX4_replaceLost_5 : decode cX4_replaceLost 5 = .ok (.aload_n 0, 1) := by decide +kernel
theorem dX4_replaceLost_6 : decode cX4_replaceLost 6 = .ok (.dup, 1) := by decide +kernel
theorem dX4_replaceLost_7 : decode cX4_replaceLost 7 = .ok (.getfield 60, 3) := by decide +kernel
theorem dX4_replaceLost_10 : decode cX4_replaceLost 10 = .ok (.iload_n 1, 1) := by decide +kernel
theorem dX4_replaceLost_11 : decode cX4_replaceLost 11 = .ok (.iadd, 1) := by decide +kernel
theorem dX4_replaceLost_12 : decode cX4_replaceLost 12 = .ok (.putfield 60, 3) := by decide +kernel
theorem dX4_replaceLost_15 : decode cX4_replaceLost 15 = .ok (.aload_n 0, 1) := by decide +kernel
theorem dX4_replaceLost_16 : decode cX4_replaceLost 16 = .ok (.iconst 0, 1) := by decide +kernel
theorem dX4_replaceLost_17 : decode cX4_replaceLost 17 = .ok (.putfield 63, 3) := by decide +kernel
theorem dX4_replaceLost_20 : decode cX4_replaceLost 20 = .ok (.aload_n 0, 1) := by decide +kernel
theorem dX4_replaceLost_21 : decode cX4_replaceLost 21 = .ok (.iconst 0, 1) := by decide +kernel
theorem dX4_replaceLost_22 : decode cX4_replaceLost 22 = .ok (.putfield 75, 3) := by decide +kernel
theorem dX4_replaceLost_25 : decode cX4_replaceLost 25 = .ok (.iconst 0, 1) := by decide +kernel
theorem dX4_replaceLost_26 : decode cX4_replaceLost 26 = .ok (.istore_n 2, 1) := by decide +kernel
theorem dX4_replaceLost_27 : decode cX4_replaceLost 27 = .ok (.iload_n 2, 1) := by decide +kernel
theorem dX4_replaceLost_28 : decode cX4_replaceLost 28 = .ok (.aload_n 0, 1) := by decide +kernel
theorem dX4_replaceLost_29 : decode cX4_replaceLost 29 = .ok (.getfield 24, 3) := by decide +kernel
theorem dX4_replaceLost_32 : decode cX4_replaceLost 32 = .ok (.arraylength, 1) := by decide +kernel
theorem dX4_replaceLost_33 : decode cX4_replaceLost 33 = .ok (.if_icmp .ge 46, 3) := by decide +kernel
theorem dX4_replaceLost_36 : decode cX4_replaceLost 36 = .ok (.aload_n 0, 1) := by decide +kernel
theorem dX4_replaceLost_37 : decode cX4_replaceLost 37 = .ok (.getfield 24, 3) := by decide +kernel
theorem dX4_replaceLost_40 : decode cX4_replaceLost 40 = .ok (.iload_n 2, 1) := by decide +kernel
theorem dX4_replaceLost_41 : decode cX4_replaceLost 41 = .ok (.aaload, 1) := by decide +kernel
theorem dX4_replaceLost_42 : decode cX4_replaceLost 42 = .ok (.getfield 137, 3) := by decide +kernel
theorem dX4_replaceLost_45 : decode cX4_replaceLost 45 = .ok (.ifCond .eq 28, 3) := by decide +kernel
theorem dX4_replaceLost_48 : decode cX4_replaceLost 48 = .ok (.aload_n 0, 1) := by decide +kernel
theorem dX4_replaceLost_49 : decode cX4_replaceLost 49 = .ok (.getfield 24, 3) := by decide +kernel
theorem dX4_replaceLost_52 : decode cX4_replaceLost 52 = .ok (.iload_n 2, 1) := by decide +kernel
theorem dX4_replaceLost_53 : decode cX4_replaceLost 53 = .ok (.aaload, 1) := by decide +kernel
theorem dX4_replaceLost_54 : decode cX4_replaceLost 54 = .ok (.iconst 0, 1) := by decide +kernel
theorem dX4_replaceLost_55 : decode cX4_replaceLost 55 = .ok (.putfield 137, 3) := by decide +kernel
theorem dX4_replaceLost_58 : decode cX4_replaceLost 58 = .ok (.aload_n 0, 1) := by decide +kernel
theorem dX4_replaceLost_59 : decode cX4_replaceLost 59 = .ok (.getfield 24, 3) := by decide +kernel
theorem dX4_replaceLost_62 : decode cX4_replaceLost 62 = .ok (.iload_n 2, 1) := by decide +kernel
theorem dX4_replaceLost_63 : decode cX4_replaceLost 63 = .ok (.aaload, 1) := by decide +kernel
theorem dX4_replaceLost_64 : decode cX4_replaceLost 64 = .ok (.iconst 0, 1) := by decide +kernel
theorem dX4_replaceLost_65 : decode cX4_replaceLost 65 = .ok (.putfield 140, 3) := by decide +kernel
theorem dX4_replaceLost_68 : decode cX4_replaceLost 68 = .ok (.aload_n 0, 1) := by decide +kernel
theorem dX4_replaceLost_69 : decode cX4_replaceLost 69 = .ok (.iload_n 2, 1) := by decide +kernel
theorem dX4_replaceLost_70 : decode cX4_replaceLost 70 = .ok (.invokevirtual 143, 3) := by decide +kernel
theorem dX4_replaceLost_73 : decode cX4_replaceLost 73 = .ok (.iinc 2 1, 3) := by decide +kernel
theorem dX4_replaceLost_76 : decode cX4_replaceLost 76 = .ok (.goto (-49), 3) := by decide +kernel
theorem dX4_replaceLost_79 : decode cX4_replaceLost 79 = .ok (.iload_n 1, 1) := by decide +kernel
theorem dX4_replaceLost_80 : decode cX4_replaceLost 80 = .ok (.ireturn, 1) := by decide +kernel
theorem dX4_tick_0 : decode cX4_tick 0 = .ok (.aload_n 0, 1) := by decide +kernel
theorem dX4_tick_1 : decode cX4_tick 1 = .ok (.dup, 1) := by decide +kernel
theorem dX4_tick_2 : decode cX4_tick 2 = .ok (.getfield 40, 3) := by decide +kernel
theorem dX4_tick_5 : decode cX4_tick 5 = .ok (.iconst 1, 1) := by decide +kernel
theorem dX4_tick_6 : decode cX4_tick 6 = .ok (.iadd, 1) := by decide +kernel
theorem dX4_tick_7 : decode cX4_tick 7 = .ok (.putfield 40, 3) := by decide +kernel
theorem dX4_tick_10 : decode cX4_tick 10 = .ok (.aload_n 0, 1) := by decide +kernel
theorem dX4_tick_11 : decode cX4_tick 11 = .ok (.invokevirtual 146, 3) := by decide +kernel
theorem dX4_tick_14 : decode cX4_tick 14 = .ok (.istore_n 1, 1) := by decide +kernel
theorem dX4_tick_15 : decode cX4_tick 15 = .ok (.iconst 0, 1) := by decide +kernel
theorem dX4_tick_16 : decode cX4_tick 16 = .ok (.istore_n 2, 1) := by decide +kernel
theorem dX4_tick_17 : decode cX4_tick 17 = .ok (.iload_n 2, 1) := by decide +kernel
theorem dX4_tick_18 : decode cX4_tick 18 = .ok (.iload_n 1, 1) := by decide +kernel
theorem dX4_tick_19 : decode cX4_tick 19 = .ok (.if_icmp .ge 24, 3) := by decide +kernel
theorem dX4_tick_22 : decode cX4_tick 22 = .ok (.aload_n 0, 1) := by decide +kernel
theorem dX4_tick_23 : decode cX4_tick 23 = .ok (.aload_n 0, 1) := by decide +kernel
theorem dX4_tick_24 : decode cX4_tick 24 = .ok (.getfield 30, 3) := by decide +kernel
theorem dX4_tick_27 : decode cX4_tick 27 = .ok (.iconst 0, 1) := by decide +kernel
theorem dX4_tick_28 : decode cX4_tick 28 = .ok (.aaload, 1) := by decide +kernel
theorem dX4_tick_29 : decode cX4_tick 29 = .ok (.invokevirtual 149, 3) := by decide +kernel
theorem dX4_tick_32 : decode cX4_tick 32 = .ok (.aload_n 0, 1) := by decide +kernel
theorem dX4_tick_33 : decode cX4_tick 33 = .ok (.iconst 0, 1) := by decide +kernel
theorem dX4_tick_34 : decode cX4_tick 34 = .ok (.invokevirtual 131, 3) := by decide +kernel
theorem dX4_tick_37 : decode cX4_tick 37 = .ok (.iinc 2 1, 3) := by decide +kernel
theorem dX4_tick_40 : decode cX4_tick 40 = .ok (.goto (-23), 3) := by decide +kernel
theorem dX4_tick_43 : decode cX4_tick 43 = .ok (.iconst 0, 1) := by decide +kernel
theorem dX4_tick_44 : decode cX4_tick 44 = .ok (.istore_n 2, 1) := by decide +kernel
theorem dX4_tick_45 : decode cX4_tick 45 = .ok (.iload_n 2, 1) := by decide +kernel
theorem dX4_tick_46 : decode cX4_tick 46 = .ok (.aload_n 0, 1) := by decide +kernel
theorem dX4_tick_47 : decode cX4_tick 47 = .ok (.getfield 24, 3) := by decide +kernel
theorem dX4_tick_50 : decode cX4_tick 50 = .ok (.arraylength, 1) := by decide +kernel
theorem dX4_tick_51 : decode cX4_tick 51 = .ok (.if_icmp .ge 26, 3) := by decide +kernel
theorem dX4_tick_54 : decode cX4_tick 54 = .ok (.aload_n 0, 1) := by decide +kernel
theorem dX4_tick_55 : decode cX4_tick 55 = .ok (.getfield 24, 3) := by decide +kernel
theorem dX4_tick_58 : decode cX4_tick 58 = .ok (.iload_n 2, 1) := by decide +kernel
theorem dX4_tick_59 : decode cX4_tick 59 = .ok (.aaload, 1) := by decide +kernel
theorem dX4_tick_60 : decode cX4_tick 60 = .ok (.getfield 152, 3) := by decide +kernel
theorem dX4_tick_63 : decode cX4_tick 63 = .ok (.ifCond .eq 8, 3) := by decide +kernel
theorem dX4_tick_66 : decode cX4_tick 66 = .ok (.aload_n 0, 1) := by decide +kernel
theorem dX4_tick_67 : decode cX4_tick 67 = .ok (.iload_n 2, 1) := by decide +kernel
theorem dX4_tick_68 : decode cX4_tick 68 = .ok (.invokevirtual 155, 3) := by decide +kernel
theorem dX4_tick_71 : decode cX4_tick 71 = .ok (.iinc 2 1, 3) := by decide +kernel
theorem dX4_tick_74 : decode cX4_tick 74 = .ok (.goto (-29), 3) := by decide +kernel
theorem dX4_tick_77 : decode cX4_tick 77 = .ok (.return_, 1) := by decide +kernel
theorem dX4_countArriving_0 : decode cX4_countArriving 0 = .ok (.iconst 0, 1) := by decide +kernel
theorem dX4_countArriving_1 : decode cX4_countArriving 1 = .ok (.istore_n 1, 1) := by decide +kernel
theorem dX4_countArriving_2 : decode cX4_countArriving 2 = .ok (.iload_n 1, 1) := by decide +kernel
theorem dX4_countArriving_3 : decode cX4_countArriving 3 = .ok (.aload_n 0, 1) := by decide +kernel
theorem dX4_countArriving_4 : decode cX4_countArriving 4 = .ok (.getfield 51, 3) := by decide +kernel
theorem dX4_countArriving_7 : decode cX4_countArriving 7 = .ok (.if_icmp .ge 36, 3) := by decide +kernel
theorem dX4_countArriving_10 : decode cX4_countArriving 10 = .ok (.iload_n 1, 1) := by decide +kernel
theorem dX4_countArriving_11 : decode cX4_countArriving 11 = .ok (.aload_n 0, 1) := by decide +kernel
theorem dX4_countArriving_12 : decode cX4_countArriving 12 = .ok (.getfield 30, 3) := by decide +kernel
theorem dX4_countArriving_15 : decode cX4_countArriving 15 = .ok (.arraylength, 1) := by decide +kernel
theorem dX4_countArriving_16 : decode cX4_countArriving 16 = .ok (.if_icmp .ge 27, 3) := by decide +kernel
theorem dX4_countArriving_19 : decode cX4_countArriving 19 = .ok (.aload_n 0, 1) := by decide +kernel
theorem dX4_countArriving_20 : decode cX4_countArriving 20 = .ok (.getfield 30, 3) := by decide +kernel
theorem dX4_countArriving_23 : decode cX4_countArriving 23 = .ok (.iload_n 1, 1) := by decide +kernel
theorem dX4_countArriving_24 : decode cX4_countArriving 24 = .ok (.aaload, 1) := by decide +kernel
theorem dX4_countArriving_25 : decode cX4_countArriving 25 = .ok (.getfield 116, 3) := by decide +kernel
theorem dX4_countArriving_28 : decode cX4_countArriving 28 = .ok (.aload_n 0, 1) := by decide +kernel
theorem dX4_countArriving_29 : decode cX4_countArriving 29 = .ok (.getfield 40, 3) := by decide +kernel
theorem dX4_countArriving_32 : decode cX4_countArriving 32 = .ok (.if_icmp .le 5, 3) := by decide +kernel
theorem dX4_countArriving_35 : decode cX4_countArriving 35 = .ok (.iload_n 1, 1) := by decide +kernel
theorem dX4_countArriving_36 : decode cX4_countArriving 36 = .ok (.ireturn, 1) := by decide +kernel
theorem dX4_countArriving_37 : decode cX4_countArriving 37 = .ok (.iinc 1 1, 3) := by decide +kernel
theorem dX4_countArriving_40 : decode cX4_countArriving 40 = .ok (.goto (-38), 3) := by decide +kernel
theorem dX4_countArriving_43 : decode cX4_countArriving 43 = .ok (.aload_n 0, 1) := by decide +kernel
theorem dX4_countArriving_44 : decode cX4_countArriving 44 = .ok (.getfield 51, 3) := by decide +kernel
theorem dX4_countArriving_47 : decode cX4_countArriving 47 = .ok (.ireturn, 1) := by decide +kernel
theorem dX4_arrive_0 : decode cX4_arrive 0 = .ok (.aload_n 1, 1) := by decide +kernel
theorem dX4_arrive_1 : decode cX4_arrive 1 = .ok (.getfield 104, 3) := by decide +kernel
theorem dX4_arrive_4 : decode cX4_arrive 4 = .ok (.iconst 3, 1) := by decide +kernel
theorem dX4_arrive_5 : decode cX4_arrive 5 = .ok (.if_icmp .ne 17, 3) := by decide +kernel
theorem dX4_arrive_8 : decode cX4_arrive 8 = .ok (.aload_n 0, 1) := by decide +kernel
theorem dX4_arrive_9 : decode cX4_arrive 9 = .ok (.dup, 1) := by decide +kernel
theorem dX4_arrive_10 : decode cX4_arrive 10 = .ok (.getfield 60, 3) := by decide +kernel
theorem dX4_arrive_13 : decode cX4_arrive 13 = .ok (.aload_n 1, 1) := by decide +kernel
theorem dX4_arrive_14 : decode cX4_arrive 14 = .ok (.getfield 113, 3) := by decide +kernel
theorem dX4_arrive_17 : decode cX4_arrive 17 = .ok (.iadd, 1) := by decide +kernel
theorem dX4_arrive_18 : decode cX4_arrive 18 = .ok (.putfield 60, 3) := by decide +kernel
theorem dX4_arrive_21 : decode cX4_arrive 21 = .ok (.return_, 1) := by decide +kernel
theorem dX4_arrive_22 : decode cX4_arrive 22 = .ok (.aload_n 1, 1) := by decide +kernel
theorem dX4_arrive_23 : decode cX4_arrive 23 = .ok (.getfield 104, 3) := by decide +kernel
theorem dX4_arrive_26 : decode cX4_arrive 26 = .ok (.iconst 1, 1) := by decide +kernel
theorem dX4_arrive_27 : decode cX4_arrive 27 = .ok (.if_icmp .ne 20, 3) := by decide +kernel
theorem dX4_arrive_30 : decode cX4_arrive 30 = .ok (.aload_n 0, 1) := by decide +kernel
theorem dX4_arrive_31 : decode cX4_arrive 31 = .ok (.iconst 2, 1) := by decide +kernel
theorem dX4_arrive_32 : decode cX4_arrive 32 = .ok (.bipush 6, 2) := by decide +kernel
theorem dX4_arrive_34 : decode cX4_arrive 34 = .ok (.aload_n 1, 1) := by decide +kernel
theorem dX4_arrive_35 : decode cX4_arrive 35 = .ok (.getfield 107, 3) := by decide +kernel
theorem dX4_arrive_38 : decode cX4_arrive 38 = .ok (.aload_n 0, 1) := by decide +kernel
theorem dX4_arrive_39 : decode cX4_arrive 39 = .ok (.invokevirtual 96, 3) := by decide +kernel
theorem dX4_arrive_42 : decode cX4_arrive 42 = .ok (.aconst_null, 1) := by decide +kernel
theorem dX4_arrive_43 : decode cX4_arrive 43 = .ok (.invokevirtual 100, 3) := by decide +kernel
theorem dX4_arrive_46 : decode cX4_arrive 46 = .ok (.return_, 1) := by decide +kernel
theorem dX4_arrive_47 : decode cX4_arrive 47 = .ok (.aload_n 1, 1) := by decide +kernel
theorem dX4_arrive_48 : decode cX4_arrive 48 = .ok (.getfield 110, 3) := by decide +kernel
theorem dX4_arrive_51 : decode cX4_arrive 51 = .ok (.istore_n 2, 1) := by decide +kernel
theorem dX4_arrive_52 : decode cX4_arrive 52 = .ok (.iload_n 2, 1) := by decide +kernel
theorem dX4_arrive_53 : decode cX4_arrive 53 = .ok (.invokestatic 134, 3) := by decide +kernel
theorem dX4_arrive_56 : decode cX4_arrive 56 = .ok (.ifCond .ne 4, 3) := by decide +kernel
theorem dX4_arrive_59 : decode cX4_arrive 59 = .ok (.return_, 1) := by decide +kernel
theorem dX4_arrive_60 : decode cX4_arrive 60 = .ok (.aload_n 0, 1) := by decide +kernel
theorem dX4_arrive_61 : decode cX4_arrive 61 = .ok (.getfield 24, 3) := by decide +kernel
theorem dX4_arrive_64 : decode cX4_arrive 64 = .ok (.iload_n 2, 1) := by decide +kernel
theorem dX4_arrive_65 : decode cX4_arrive 65 = .ok (.aaload, 1) := by decide +kernel
theorem dX4_arrive_66 : decode cX4_arrive 66 = .ok (.dup, 1) := by decide +kernel
theorem dX4_arrive_67 : decode cX4_arrive 67 = .ok (.getfield 158, 3) := by decide +kernel
theorem dX4_arrive_70 : decode cX4_arrive 70 = .ok (.aload_n 1, 1) := by decide +kernel
theorem dX4_arrive_71 : decode cX4_arrive 71 = .ok (.getfield 113, 3) := by decide +kernel
theorem dX4_arrive_74 : decode cX4_arrive 74 = .ok (.iadd, 1) := by decide +kernel
theorem dX4_arrive_75 : decode cX4_arrive 75 = .ok (.putfield 158, 3) := by decide +kernel
theorem dX4_arrive_78 : decode cX4_arrive 78 = .ok (.aload_n 1, 1) := by decide +kernel
theorem dX4_arrive_79 : decode cX4_arrive 79 = .ok (.getfield 104, 3) := by decide +kernel
theorem dX4_arrive_82 : decode cX4_arrive 82 = .ok (.iconst 2, 1) := by decide +kernel
theorem dX4_arrive_83 : decode cX4_arrive 83 = .ok (.if_icmp .ne 16, 3) := by decide +kernel
theorem dX4_arrive_86 : decode cX4_arrive 86 = .ok (.aload_n 0, 1) := by decide +kernel
theorem dX4_arrive_87 : decode cX4_arrive 87 = .ok (.getfield 24, 3) := by decide +kernel
theorem dX4_arrive_90 : decode cX4_arrive 90 = .ok (.iload_n 2, 1) := by decide +kernel
theorem dX4_arrive_91 : decode cX4_arrive 91 = .ok (.aaload, 1) := by decide +kernel
theorem dX4_arrive_92 : decode cX4_arrive 92 = .ok (.iconst 0, 1) := by decide +kernel
theorem dX4_arrive_93 : decode cX4_arrive 93 = .ok (.putfield 140, 3) := by decide +kernel
theorem dX4_arrive_96 : decode cX4_arrive 96 = .ok (.goto 23, 3) := by decide +kernel
theorem dX4_arrive_99 : decode cX4_arrive 99 = .ok (.aload_n 1, 1) := by decide +kernel
theorem dX4_arrive_100 : decode cX4_arrive 100 = .ok (.getfield 119, 3) := by decide +kernel
theorem dX4_arrive_103 : decode cX4_arrive 103 = .ok (.ifnull 16, 3) := by decide +kernel
theorem dX4_arrive_106 : decode cX4_arrive 106 = .ok (.aload_n 0, 1) := by decide +kernel
theorem dX4_arrive_107 : decode cX4_arrive 107 = .ok (.getfield 24, 3) := by decide +kernel
theorem dX4_arrive_110 : decode cX4_arrive 110 = .ok (.iload_n 2, 1) := by decide +kernel
theorem dX4_arrive_111 : decode cX4_arrive 111 = .ok (.aaload, 1) := by decide +kernel
theorem dX4_arrive_112 : decode cX4_arrive 112 = .ok (.aload_n 1, 1) := by decide +kernel
theorem dX4_arrive_113 : decode cX4_arrive 113 = .ok (.getfield 119, 3) := by decide +kernel
theorem dX4_arrive_116 : decode cX4_arrive 116 = .ok (.invokevirtual 159, 3) := by decide +kernel
theorem dX4_arrive_119 : decode cX4_arrive 119 = .ok (.aload_n 0, 1) := by decide +kernel
theorem dX4_arrive_120 : decode cX4_arrive 120 = .ok (.iload_n 2, 1) := by decide +kernel
theorem dX4_arrive_121 : decode cX4_arrive 121 = .ok (.invokevirtual 143, 3) := by decide +kernel
theorem dX4_arrive_124 : decode cX4_arrive 124 = .ok (.return_, 1) := by decide +kernel
theorem dX4_sendWhatItCan_0 : decode cX4_sendWhatItCan 0 = .ok (.iload_n 1, 1) := by decide +kernel
theorem dX4_sendWhatItCan_1 : decode cX4_sendWhatItCan 1 = .ok (.invokestatic 134, 3) := by decide +kernel
theorem dX4_sendWhatItCan_4 : decode cX4_sendWhatItCan 4 = .ok (.ifCond .ne 4, 3) := by decide +kernel
theorem dX4_sendWhatItCan_7 : decode cX4_sendWhatItCan 7 = .ok (.return_, 1) := by decide +kernel
theorem dX4_sendWhatItCan_8 : decode cX4_sendWhatItCan 8 = .ok (.aload_n 0, 1) := by decide +kernel
theorem dX4_sendWhatItCan_9 : decode cX4_sendWhatItCan 9 = .ok (.getfield 24, 3) := by decide +kernel
theorem dX4_sendWhatItCan_12 : decode cX4_sendWhatItCan 12 = .ok (.iload_n 1, 1) := by decide +kernel
theorem dX4_sendWhatItCan_13 : decode cX4_sendWhatItCan 13 = .ok (.aaload, 1) := by decide +kernel
theorem dX4_sendWhatItCan_14 : decode cX4_sendWhatItCan 14 = .ok (.astore_n 2, 1) := by decide +kernel
theorem dX4_sendWhatItCan_15 : decode cX4_sendWhatItCan 15 = .ok (.aload_n 2, 1) := by decide +kernel
theorem dX4_sendWhatItCan_16 : decode cX4_sendWhatItCan 16 = .ok (.getfield 163, 3) := by decide +kernel
theorem dX4_sendWhatItCan_19 : decode cX4_sendWhatItCan 19 = .ok (.istore_n 3, 1) := by decide +kernel
theorem dX4_sendWhatItCan_20 : decode cX4_sendWhatItCan 20 = .ok (.iload_n 3, 1) := by decide +kernel
theorem dX4_sendWhatItCan_21 : decode cX4_sendWhatItCan 21 = .ok (.ifCond .le 28, 3) := by decide +kernel
theorem dX4_sendWhatItCan_24 : decode cX4_sendWhatItCan 24 = .ok (.aload_n 2, 1) := by decide +kernel
theorem dX4_sendWhatItCan_25 : decode cX4_sendWhatItCan 25 = .ok (.getfield 158, 3) := by decide +kernel
theorem dX4_sendWhatItCan_28 : decode cX4_sendWhatItCan 28 = .ok (.iconst 2, 1) := by decide +kernel
theorem dX4_sendWhatItCan_29 : decode cX4_sendWhatItCan 29 = .ok (.aload_n 0, 1) := by decide +kernel
theorem dX4_sendWhatItCan_30 : decode cX4_sendWhatItCan 30 = .ok (.getfield 15, 3) := by decide +kernel
theorem dX4_sendWhatItCan_33 : decode cX4_sendWhatItCan 33 = .ok (.imul, 1) := by decide +kernel
theorem dX4_sendWhatItCan_34 : decode cX4_sendWhatItCan 34 = .ok (.if_icmp .lt 15, 3) := by decide +kernel
theorem dX4_sendWhatItCan_37 : decode cX4_sendWhatItCan 37 = .ok (.aload_n 0, 1) := by decide +kernel
theorem dX4_sendWhatItCan_38 : decode cX4_sendWhatItCan 38 = .ok (.iload_n 1, 1) := by decide +kernel
theorem dX4_sendWhatItCan_39 : decode cX4_sendWhatItCan 39 = .ok (.aload_n 2, 1) := by decide +kernel
theorem dX4_sendWhatItCan_40 : decode cX4_sendWhatItCan 40 = .ok (.invokevirtual 166, 3) := by decide +kernel
theorem dX4_sendWhatItCan_43 : decode cX4_sendWhatItCan 43 = .ok (.iinc 3 (-1), 3) := by decide +kernel
theorem dX4_sendWhatItCan_46 : decode cX4_sendWhatItCan 46 = .ok (.goto (-26), 3) := by decide +kernel
theorem dX4_sendWhatItCan_49 : decode cX4_sendWhatItCan 49 = .ok (.aload_n 2, 1) := by decide +kernel
theorem dX4_sendWhatItCan_50 : decode cX4_sendWhatItCan 50 = .ok (.getfield 163, 3) := by decide +kernel
theorem dX4_sendWhatItCan_53 : decode cX4_sendWhatItCan 53 = .ok (.ifCond .le 35, 3) := by decide +kernel
theorem dX4_sendWhatItCan_56 : decode cX4_sendWhatItCan 56 = .ok (.aload_n 2, 1) := by decide +kernel
theorem dX4_sendWhatItCan_57 : decode cX4_sendWhatItCan 57 = .ok (.getfield 140, 3) := by decide +kernel
theorem dX4_sendWhatItCan_60 : decode cX4_sendWhatItCan 60 = .ok (.ifCond .ne 28, 3) := by decide +kernel
theorem dX4_sendWhatItCan_63 : decode cX4_sendWhatItCan 63 = .ok (.aload_n 2, 1) := by decide +kernel
theorem dX4_sendWhatItCan_64 : decode cX4_sendWhatItCan 64 = .ok (.iconst 1, 1) := by decide +kernel
theorem dX4_sendWhatItCan_65 : decode cX4_sendWhatItCan 65 = .ok (.putfield 140, 3) := by decide +kernel
theorem dX4_sendWhatItCan_68 : decode cX4_sendWhatItCan 68 = .ok (.aload_n 2, 1) := by decide +kernel
theorem dX4_sendWhatItCan_69 : decode cX4_sendWhatItCan 69 = .ok (.dup, 1) := by decide +kernel
theorem dX4_sendWhatItCan_70 : decode cX4_sendWhatItCan 70 = .ok (.getfield 170, 3) := by decide +kernel
theorem dX4_sendWhatItCan_73 : decode cX4_sendWhatItCan 73 = .ok (.iconst 1, 1) := by decide +kernel
theorem dX4_sendWhatItCan_74 : decode cX4_sendWhatItCan 74 = .ok (.iadd, 1) := by decide +kernel
theorem dX4_sendWhatItCan_75 : decode cX4_sendWhatItCan 75 = .ok (.putfield 170, 3) := by decide +kernel
theorem dX4_sendWhatItCan_78 : decode cX4_sendWhatItCan 78 = .ok (.aload_n 0, 1) := by decide +kernel
theorem dX4_sendWhatItCan_79 : decode cX4_sendWhatItCan 79 = .ok (.iconst 1, 1) := by decide +kernel
theorem dX4_sendWhatItCan_80 : decode cX4_sendWhatItCan 80 = .ok (.iload_n 1, 1) := by decide +kernel
theorem dX4_sendWhatItCan_81 : decode cX4_sendWhatItCan 81 = .ok (.bipush 6, 2) := by decide +kernel
theorem dX4_sendWhatItCan_83 : decode cX4_sendWhatItCan 83 = .ok (.iconst 0, 1) := by decide +kernel
theorem dX4_sendWhatItCan_84 : decode cX4_sendWhatItCan 84 = .ok (.aconst_null, 1) := by decide +kernel
theorem dX4_sendWhatItCan_85 : decode cX4_sendWhatItCan 85 = .ok (.invokevirtual 100, 3) := by decide +kernel
theorem dX4_sendWhatItCan_88 : decode cX4_sendWhatItCan 88 = .ok (.return_, 1) := by decide +kernel
theorem dX4_sendFirst_0 : decode cX4_sendFirst 0 = .ok (.aload_n 2, 1) := by decide +kernel
theorem dX4_sendFirst_1 : decode cX4_sendFirst 1 = .ok (.iconst 0, 1) := by decide +kernel
theorem dX4_sendFirst_2 : decode cX4_sendFirst 2 = .ok (.invokevirtual 173, 3) := by decide +kernel
theorem dX4_sendFirst_5 : decode cX4_sendFirst 5 = .ok (.astore_n 3, 1) := by decide +kernel
theorem dX4_sendFirst_6 : decode cX4_sendFirst 6 = .ok (.aload_n 3, 1) := by decide +kernel
theorem dX4_sendFirst_7 : decode cX4_sendFirst 7 = .ok (.ifnonnull 4, 3) := by decide +kernel
theorem dX4_sendFirst_10 : decode cX4_sendFirst 10 = .ok (.return_, 1) := by decide +kernel
theorem dX4_sendFirst_11 : decode cX4_sendFirst 11 = .ok (.aload_n 2, 1) := by decide +kernel
theorem dX4_sendFirst_12 : decode cX4_sendFirst 12 = .ok (.getfield 158, 3) := by decide +kernel
theorem dX4_sendFirst_15 : decode cX4_sendFirst 15 = .ok (.iconst 2, 1) := by decide +kernel
theorem dX4_sendFirst_16 : decode cX4_sendFirst 16 = .ok (.idiv, 1) := by decide +kernel
theorem dX4_sendFirst_17 : decode cX4_sendFirst 17 = .ok (.istore 4, 2) := by decide +kernel
theorem dX4_sendFirst_19 : decode cX4_sendFirst 19 = .ok (.aload_n 2, 1) := by decide +kernel
theorem dX4_sendFirst_20 : decode cX4_sendFirst 20 = .ok (.dup, 1) := by decide +kernel
theorem dX4_sendFirst_21 : decode cX4_sendFirst 21 = .ok (.getfield 158, 3) := by decide +kernel
theorem dX4_sendFirst_24 : decode cX4_sendFirst 24 = .ok (.iload 4, 2) := by decide +kernel
theorem dX4_sendFirst_26 : decode cX4_sendFirst 26 = .ok (.isub, 1) := by decide +kernel
theorem dX4_sendFirst_27 : decode cX4_sendFirst 27 = .ok (.putfield 158, 3) := by decide +kernel
theorem dX4_sendFirst_30 : decode cX4_sendFirst 30 = .ok (.aload_n 2, 1) := by decide +kernel
theorem dX4_sendFirst_31 : decode cX4_sendFirst 31 = .ok (.dup, 1) := by decide +kernel
theorem dX4_sendFirst_32 : decode cX4_sendFirst 32 = .ok (.getfield 177, 3) := by decide +kernel
theorem dX4_sendFirst_35 : decode cX4_sendFirst 35 = .ok (.iconst 1, 1) := by decide +kernel
theorem dX4_sendFirst_36 : decode cX4_sendFirst 36 = .ok (.iadd, 1) := by decide +kernel
theorem dX4_sendFirst_37 : decode cX4_sendFirst 37 = .ok (.putfield 177, 3) := by decide +kernel
theorem dX4_sendFirst_40 : decode cX4_sendFirst 40 = .ok (.aload_n 2, 1) := by decide +kernel
theorem dX4_sendFirst_41 : decode cX4_sendFirst 41 = .ok (.invokevirtual 180, 3) := by decide +kernel
theorem dX4_sendFirst_44 : decode cX4_sendFirst 44 = .ok (.aload_n 0, 1) := by decide +kernel
theorem dX4_sendFirst_45 : decode cX4_sendFirst 45 = .ok (.iconst 0, 1) := by decide +kernel
theorem dX4_sendFirst_46 : decode cX4_sendFirst 46 = .ok (.iload_n 1, 1) := by decide +kernel
theorem dX4_sendFirst_47 : decode cX4_sendFirst 47 = .ok (.aload_n 3, 1) := by decide +kernel
theorem dX4_sendFirst_48 : decode cX4_sendFirst 48 = .ok (.getfield 91, 3) := by decide +kernel
theorem dX4_sendFirst_51 : decode cX4_sendFirst 51 = .ok (.iload 4, 2) := by decide +kernel
theorem dX4_sendFirst_53 : decode cX4_sendFirst 53 = .ok (.aload_n 3, 1) := by decide +kernel
theorem dX4_sendFirst_54 : decode cX4_sendFirst 54 = .ok (.invokevirtual 100, 3) := by decide +kernel
theorem dX4_sendFirst_57 : decode cX4_sendFirst 57 = .ok (.return_, 1) := by decide +kernel
theorem dX4_workIn_0 : decode cX4_workIn 0 = .ok (.iload_n 1, 1) := by decide +kernel
theorem dX4_workIn_1 : decode cX4_workIn 1 = .ok (.invokestatic 134, 3) := by decide +kernel
theorem dX4_workIn_4 : decode cX4_workIn 4 = .ok (.ifCond .ne 4, 3) := by decide +kernel
theorem dX4_workIn_7 : decode cX4_workIn 7 = .ok (.return_, 1) := by decide +kernel
theorem dX4_workIn_8 : decode cX4_workIn 8 = .ok (.aload_n 0, 1) := by decide +kernel
theorem dX4_workIn_9 : decode cX4_workIn 9 = .ok (.getfield 24, 3) := by decide +kernel
theorem dX4_workIn_12 : decode cX4_workIn 12 = .ok (.iload_n 1, 1) := by decide +kernel
theorem dX4_workIn_13 : decode cX4_workIn 13 = .ok (.aaload, 1) := by decide +kernel
theorem dX4_workIn_14 : decode cX4_workIn 14 = .ok (.astore_n 2, 1) := by decide +kernel
theorem dX4_workIn_15 : decode cX4_workIn 15 = .ok (.aload_n 2, 1) := by decide +kernel
theorem dX4_workIn_16 : decode cX4_workIn 16 = .ok (.getfield 183, 3) := by decide +kernel
theorem dX4_workIn_19 : decode cX4_workIn 19 = .ok (.ifCond .le 13, 3) := by decide +kernel
theorem dX4_workIn_22 : decode cX4_workIn 22 = .ok (.aload_n 2, 1) := by decide +kernel
theorem dX4_workIn_23 : decode cX4_workIn 23 = .ok (.dup, 1) := by decide +kernel
theorem dX4_workIn_24 : decode cX4_workIn 24 = .ok (.getfield 183, 3) := by decide +kernel
theorem dX4_workIn_27 : decode cX4_workIn 27 = .ok (.iconst 1, 1) := by decide +kernel
theorem dX4_workIn_28 : decode cX4_workIn 28 = .ok (.isub, 1) := by decide +kernel
theorem dX4_workIn_29 : decode cX4_workIn 29 = .ok (.putfield 183, 3) := by decide +kernel
theorem dX4_workIn_32 : decode cX4_workIn 32 = .ok (.aload_n 2, 1) := by decide +kernel
theorem dX4_workIn_33 : decode cX4_workIn 33 = .ok (.getfield 183, 3) := by decide +kernel
theorem dX4_workIn_36 : decode cX4_workIn 36 = .ok (.ifCond .gt 17, 3) := by decide +kernel
theorem dX4_workIn_39 : decode cX4_workIn 39 = .ok (.aload_n 2, 1) := by decide +kernel
theorem dX4_workIn_40 : decode cX4_workIn 40 = .ok (.getfield 163, 3) := by decide +kernel
theorem dX4_workIn_43 : decode cX4_workIn 43 = .ok (.ifCond .gt 10, 3) := by decide +kernel
theorem dX4_workIn_46 : decode cX4_workIn 46 = .ok (.aload_n 2, 1) := by decide +kernel
theorem dX4_workIn_47 : decode cX4_workIn 47 = .ok (.getfield 140, 3) := by decide +kernel
theorem dX4_workIn_50 : decode cX4_workIn 50 = .ok (.ifCond .eq 4, 3) := by decide +kernel
theorem dX4_workIn_53 : decode cX4_workIn 53 = .ok (.return_, 1) := by decide +kernel
theorem dX4_workIn_54 : decode cX4_workIn 54 = .ok (.aload_n 2, 1) := by decide +kernel
theorem dX4_workIn_55 : decode cX4_workIn 55 = .ok (.iconst 0, 1) := by decide +kernel
theorem dX4_workIn_56 : decode cX4_workIn 56 = .ok (.putfield 152, 3) := by decide +kernel
theorem dX4_workIn_59 : decode cX4_workIn 59 = .ok (.aload_n 2, 1) := by decide +kernel
theorem dX4_workIn_60 : decode cX4_workIn 60 = .ok (.dup, 1) := by decide +kernel
theorem dX4_workIn_61 : decode cX4_workIn 61 = .ok (.getfield 186, 3) := by decide +kernel
theorem dX4_workIn_64 : decode cX4_workIn 64 = .ok (.iconst 1, 1) := by decide +kernel
theorem dX4_workIn_65 : decode cX4_workIn 65 = .ok (.iadd, 1) := by decide +kernel
theorem dX4_workIn_66 : decode cX4_workIn 66 = .ok (.putfield 186, 3) := by decide +kernel
theorem dX4_workIn_69 : decode cX4_workIn 69 = .ok (.aload_n 2, 1) := by decide +kernel
theorem dX4_workIn_70 : decode cX4_workIn 70 = .ok (.getfield 158, 3) := by decide +kernel
theorem dX4_workIn_73 : decode cX4_workIn 73 = .ok (.ifCond .le 21, 3) := by decide +kernel
theorem dX4_workIn_76 : decode cX4_workIn 76 = .ok (.aload_n 0, 1) := by decide +kernel
theorem dX4_workIn_77 : decode cX4_workIn 77 = .ok (.iconst 3, 1) := by decide +kernel
theorem dX4_workIn_78 : decode cX4_workIn 78 = .ok (.iload_n 1, 1) := by decide +kernel
theorem dX4_workIn_79 : decode cX4_workIn 79 = .ok (.bipush 6, 2) := by decide +kernel
theorem dX4_workIn_81 : decode cX4_workIn 81 = .ok (.aload_n 2, 1) := by decide +kernel
theorem dX4_workIn_82 : decode cX4_workIn 82 = .ok (.getfield 158, 3) := by decide +kernel
theorem dX4_workIn_85 : decode cX4_workIn 85 = .ok (.aconst_null, 1) := by decide +kernel
theorem dX4_workIn_86 : decode cX4_workIn 86 = .ok (.invokevirtual 100, 3) := by decide +kernel
theorem dX4_workIn_89 : decode cX4_workIn 89 = .ok (.aload_n 2, 1) := by decide +kernel
theorem dX4_workIn_90 : decode cX4_workIn 90 = .ok (.iconst 0, 1) := by decide +kernel
theorem dX4_workIn_91 : decode cX4_workIn 91 = .ok (.putfield 158, 3) := by decide +kernel
theorem dX4_workIn_94 : decode cX4_workIn 94 = .ok (.return_, 1) := by decide +kernel
theorem dX4_isQuiet_0 : decode cX4_isQuiet 0 = .ok (.aload_n 0, 1) := by decide +kernel
theorem dX4_isQuiet_1 : decode cX4_isQuiet 1 = .ok (.getfield 57, 3) := by decide +kernel
theorem dX4_isQuiet_4 : decode cX4_isQuiet 4 = .ok (.aload_n 0, 1) := by decide +kernel
theorem dX4_isQuiet_5 : decode cX4_isQuiet 5 = .ok (.getfield 60, 3) := by decide +kernel
theorem dX4_isQuiet_8 : decode cX4_isQuiet 8 = .ok (.if_icmp .ne 7, 3) := by decide +kernel
theorem dX4_isQuiet_11 : decode cX4_isQuiet 11 = .ok (.iconst 1, 1) := by decide +kernel
theorem dX4_isQuiet_12 : decode cX4_isQuiet 12 = .ok (.goto 4, 3) := by decide +kernel
theorem dX4_isQuiet_15 : decode cX4_isQuiet 15 = .ok (.iconst 0, 1) := by decide +kernel
theorem dX4_isQuiet_16 : decode cX4_isQuiet 16 = .ok (.ireturn, 1) := by decide +kernel
theorem dX4_isIdle_0 : decode cX4_isIdle 0 = .ok (.aload_n 0, 1) := by decide +kernel
theorem dX4_isIdle_1 : decode cX4_isIdle 1 = .ok (.invokevirtual 189, 3) := by decide +kernel
theorem dX4_isIdle_4 : decode cX4_isIdle 4 = .ok (.ifCond .ne 14, 3) := by decide +kernel
theorem dX4_isIdle_7 : decode cX4_isIdle 7 = .ok (.aload_n 0, 1) := by decide +kernel
theorem dX4_isIdle_8 : decode cX4_isIdle 8 = .ok (.invokevirtual 192, 3) := by decide +kernel
theorem dX4_isIdle_11 : decode cX4_isIdle 11 = .ok (.ifCond .ne 7, 3) := by decide +kernel
theorem dX4_isIdle_14 : decode cX4_isIdle 14 = .ok (.iconst 1, 1) := by decide +kernel
theorem dX4_isIdle_15 : decode cX4_isIdle 15 = .ok (.goto 4, 3) := by decide +kernel
theorem dX4_isIdle_18 : decode cX4_isIdle 18 = .ok (.iconst 0, 1) := by decide +kernel
theorem dX4_isIdle_19 : decode cX4_isIdle 19 = .ok (.ireturn, 1) := by decide +kernel
theorem dX4_isMoreThanGrainsOnItsWay_0 : decode cX4_isMoreThanGrainsOnItsWay 0 = .ok (.iconst 0, 1) := by decide +kernel
theorem dX4_isMoreThanGrainsOnItsWay_1 : decode cX4_isMoreThanGrainsOnItsWay 1 = .ok (.istore_n 1, 1) := by decide +kernel
theorem dX4_isMoreThanGrainsOnItsWay_2 : decode cX4_isMoreThanGrainsOnItsWay 2 = .ok (.iload_n 1, 1) := by decide +kernel
theorem dX4_isMoreThanGrainsOnItsWay_3 : decode cX4_isMoreThanGrainsOnItsWay 3 = .ok (.aload_n 0, 1) := by decide +kernel
theorem dX4_isMoreThanGrainsOnItsWay_4 : decode cX4_isMoreThanGrainsOnItsWay 4 = .ok (.getfield 51, 3) := by decide +kernel
theorem dX4_isMoreThanGrainsOnItsWay_7 : decode cX4_isMoreThanGrainsOnItsWay 7 = .ok (.if_icmp .ge 33, 3) := by decide +kernel
theorem dX4_isMoreThanGrainsOnItsWay_10 : decode cX4_isMoreThanGrainsOnItsWay 10 = .ok (.iload_n 1, 1) := by decide +kernel
theorem dX4_isMoreThanGrainsOnItsWay_11 : decode cX4_isMoreThanGrainsOnItsWay 11 = .ok (.aload_n 0, 1) := by decide +kernel
theorem dX4_isMoreThanGrainsOnItsWay_12 : decode cX4_isMoreThanGrainsOnItsWay 12 = .ok (.getfield 30, 3) := by decide +kernel
theorem dX4_isMoreThanGrainsOnItsWay_15 : decode cX4_isMoreThanGrainsOnItsWay 15 = .ok (.arraylength, 1) := by decide +kernel
theorem dX4_isMoreThanGrainsOnItsWay_16 : decode cX4_isMoreThanGrainsOnItsWay 16 = .ok (.if_icmp .ge 24, 3) := by decide +kernel
theorem dX4_isMoreThanGrainsOnItsWay_19 : decode cX4_isMoreThanGrainsOnItsWay 19 = .ok (.aload_n 0, 1) := by decide +kernel
theorem dX4_isMoreThanGrainsOnItsWay_20 : decode cX4_isMoreThanGrainsOnItsWay 20 = .ok (.getfield 30, 3) := by decide +kernel
theorem dX4_isMoreThanGrainsOnItsWay_23 : decode cX4_isMoreThanGrainsOnItsWay 23 = .ok (.iload_n 1, 1) := by decide +kernel
theorem dX4_isMoreThanGrainsOnItsWay_24 : decode cX4_isMoreThanGrainsOnItsWay 24 = .ok (.aaload, 1) := by decide +kernel
theorem dX4_isMoreThanGrainsOnItsWay_25 : decode cX4_isMoreThanGrainsOnItsWay 25 = .ok (.getfield 104, 3) := by decide +kernel
theorem dX4_isMoreThanGrainsOnItsWay_28 : decode cX4_isMoreThanGrainsOnItsWay 28 = .ok (.iconst 3, 1) := by decide +kernel
theorem dX4_isMoreThanGrainsOnItsWay_29 : decode cX4_isMoreThanGrainsOnItsWay 29 = .ok (.if_icmp .eq 5, 3) := by decide +kernel
theorem dX4_isMoreThanGrainsOnItsWay_32 : decode cX4_isMoreThanGrainsOnItsWay 32 = .ok (.iconst 1, 1) := by decide +kernel
theorem dX4_isMoreThanGrainsOnItsWay_33 : decode cX4_isMoreThanGrainsOnItsWay 33 = .ok (.ireturn, 1) := by decide +kernel
theorem dX4_isMoreThanGrainsOnItsWay_34 : decode cX4_isMoreThanGrainsOnItsWay 34 = .ok (.iinc 1 1, 3) := by decide +kernel
theorem dX4_isMoreThanGrainsOnItsWay_37 : decode cX4_isMoreThanGrainsOnItsWay 37 = .ok (.goto (-35), 3) := by decide +kernel
theorem dX4_isMoreThanGrainsOnItsWay_40 : decode cX4_isMoreThanGrainsOnItsWay 40 = .ok (.iconst 0, 1) := by decide +kernel
theorem dX4_isMoreThanGrainsOnItsWay_41 : decode cX4_isMoreThanGrainsOnItsWay 41 = .ok (.ireturn, 1) := by decide +kernel
theorem dX4_isStuck_0 : decode cX4_isStuck 0 = .ok (.aload_n 0, 1) := by decide +kernel
theorem dX4_isStuck_1 : decode cX4_isStuck 1 = .ok (.getfield 24, 3) := by decide +kernel
theorem dX4_isStuck_4 : decode cX4_isStuck 4 = .ok (.astore_n 1, 1) := by decide +kernel
theorem dX4_isStuck_5 : decode cX4_isStuck 5 = .ok (.aload_n 1, 1) := by decide +kernel
theorem dX4_isStuck_6 : decode cX4_isStuck 6 = .ok (.arraylength, 1) := by decide +kernel
theorem dX4_isStuck_7 : decode cX4_isStuck 7 = .ok (.istore_n 2, 1) := by decide +kernel
theorem dX4_isStuck_8 : decode cX4_isStuck 8 = .ok (.iconst 0, 1) := by decide +kernel
theorem dX4_isStuck_9 : decode cX4_isStuck 9 = .ok (.istore_n 3, 1) := by decide +kernel
theorem dX4_isStuck_10 : decode cX4_isStuck 10 = .ok (.iload_n 3, 1) := by decide +kernel
theorem dX4_isStuck_11 : decode cX4_isStuck 11 = .ok (.iload_n 2, 1) := by decide +kernel
theorem dX4_isStuck_12 : decode cX4_isStuck 12 = .ok (.if_icmp .ge 24, 3) := by decide +kernel
theorem dX4_isStuck_15 : decode cX4_isStuck 15 = .ok (.aload_n 1, 1) := by decide +kernel
theorem dX4_isStuck_16 : decode cX4_isStuck 16 = .ok (.iload_n 3, 1) := by decide +kernel
theorem dX4_isStuck_17 : decode cX4_isStuck 17 = .ok (.aaload, 1) := by decide +kernel
theorem dX4_isStuck_18 : decode cX4_isStuck 18 = .ok (.astore 4, 2) := by decide +kernel
theorem dX4_isStuck_20 : decode cX4_isStuck 20 = .ok (.aload 4, 2) := by decide +kernel
theorem dX4_isStuck_22 : decode cX4_isStuck 22 = .ok (.invokevirtual 196, 3) := by decide +kernel
theorem dX4_isStuck_25 : decode cX4_isStuck 25 = .ok (.ifCond .ne 5, 3) := by decide +kernel
theorem dX4_isStuck_28 : decode cX4_isStuck 28 = .ok (.iconst 0, 1) := by decide +kernel
theorem dX4_isStuck_29 : decode cX4_isStuck 29 = .ok (.ireturn, 1) := by decide +kernel
theorem dX4_isStuck_30 : decode cX4_isStuck 30 = .ok (.iinc 3 1, 3) := by decide +kernel
theorem dX4_isStuck_33 : decode cX4_isStuck 33 = .ok (.goto (-23), 3) := by decide +kernel
theorem dX4_isStuck_36 : decode cX4_isStuck 36 = .ok (.aload_n 0, 1) := by decide +kernel
theorem dX4_isStuck_37 : decode cX4_isStuck 37 = .ok (.getfield 51, 3) := by decide +kernel
theorem dX4_isStuck_40 : decode cX4_isStuck 40 = .ok (.ifCond .ne 7, 3) := by decide +kernel
theorem dX4_isStuck_43 : decode cX4_isStuck 43 = .ok (.iconst 1, 1) := by decide +kernel
theorem dX4_isStuck_44 : decode cX4_isStuck 44 = .ok (.goto 4, 3) := by decide +kernel
theorem dX4_isStuck_47 : decode cX4_isStuck 47 = .ok (.iconst 0, 1) := by decide +kernel
theorem dX4_isStuck_48 : decode cX4_isStuck 48 = .ok (.ireturn, 1) := by decide +kernel
theorem dX4_hasAsked_0 : decode cX4_hasAsked 0 = .ok (.aload_n 0, 1) := by decide +kernel
theorem dX4_hasAsked_1 : decode cX4_hasAsked 1 = .ok (.getfield 24, 3) := by decide +kernel
theorem dX4_hasAsked_4 : decode cX4_hasAsked 4 = .ok (.astore_n 1, 1) := by decide +kernel
theorem dX4_hasAsked_5 : decode cX4_hasAsked 5 = .ok (.aload_n 1, 1) := by decide +kernel
theorem dX4_hasAsked_6 : decode cX4_hasAsked 6 = .ok (.arraylength, 1) := by decide +kernel
theorem dX4_hasAsked_7 : decode cX4_hasAsked 7 = .ok (.istore_n 2, 1) := by decide +kernel
theorem dX4_hasAsked_8 : decode cX4_hasAsked 8 = .ok (.iconst 0, 1) := by decide +kernel
theorem dX4_hasAsked_9 : decode cX4_hasAsked 9 = .ok (.istore_n 3, 1) := by decide +kernel
theorem dX4_hasAsked_10 : decode cX4_hasAsked 10 = .ok (.iload_n 3, 1) := by decide +kernel
theorem dX4_hasAsked_11 : decode cX4_hasAsked 11 = .ok (.iload_n 2, 1) := by decide +kernel
theorem dX4_hasAsked_12 : decode cX4_hasAsked 12 = .ok (.if_icmp .ge 24, 3) := by decide +kernel
theorem dX4_hasAsked_15 : decode cX4_hasAsked 15 = .ok (.aload_n 1, 1) := by decide +kernel
theorem dX4_hasAsked_16 : decode cX4_hasAsked 16 = .ok (.iload_n 3, 1) := by decide +kernel
theorem dX4_hasAsked_17 : decode cX4_hasAsked 17 = .ok (.aaload, 1) := by decide +kernel
theorem dX4_hasAsked_18 : decode cX4_hasAsked 18 = .ok (.astore 4, 2) := by decide +kernel
theorem dX4_hasAsked_20 : decode cX4_hasAsked 20 = .ok (.aload 4, 2) := by decide +kernel
theorem dX4_hasAsked_22 : decode cX4_hasAsked 22 = .ok (.getfield 170, 3) := by decide +kernel
theorem dX4_hasAsked_25 : decode cX4_hasAsked 25 = .ok (.ifCond .le 5, 3) := by decide +kernel
theorem dX4_hasAsked_28 : decode cX4_hasAsked 28 = .ok (.iconst 1, 1) := by decide +kernel
theorem dX4_hasAsked_29 : decode cX4_hasAsked 29 = .ok (.ireturn, 1) := by decide +kernel
theorem dX4_hasAsked_30 : decode cX4_hasAsked 30 = .ok (.iinc 3 1, 3) := by decide +kernel
theorem dX4_hasAsked_33 : decode cX4_hasAsked 33 = .ok (.goto (-23), 3) := by decide +kernel
theorem dX4_hasAsked_36 : decode cX4_hasAsked 36 = .ok (.iconst 0, 1) := by decide +kernel
theorem dX4_hasAsked_37 : decode cX4_hasAsked 37 = .ok (.ireturn, 1) := by decide +kernel
theorem dX4_busyHouses_0 : decode cX4_busyHouses 0 = .ok (.iconst 0, 1) := by decide +kernel
theorem dX4_busyHouses_1 : decode cX4_busyHouses 1 = .ok (.istore_n 1, 1) := by decide +kernel
theorem dX4_busyHouses_2 : decode cX4_busyHouses 2 = .ok (.aload_n 0, 1) := by decide +kernel
theorem dX4_busyHouses_3 : decode cX4_busyHouses 3 = .ok (.getfield 24, 3) := by decide +kernel
theorem dX4_busyHouses_6 : decode cX4_busyHouses 6 = .ok (.astore_n 2, 1) := by decide +kernel
theorem dX4_busyHouses_7 : decode cX4_busyHouses 7 = .ok (.aload_n 2, 1) := by decide +kernel
theorem dX4_busyHouses_8 : decode cX4_busyHouses 8 = .ok (.arraylength, 1) := by decide +kernel
theorem dX4_busyHouses_9 : decode cX4_busyHouses 9 = .ok (.istore_n 3, 1) := by decide +kernel
theorem dX4_busyHouses_10 : decode cX4_busyHouses 10 = .ok (.iconst 0, 1) := by decide +kernel
theorem dX4_busyHouses_11 : decode cX4_busyHouses 11 = .ok (.istore 4, 2) := by decide +kernel
theorem dX4_busyHouses_13 : decode cX4_busyHouses 13 = .ok (.iload 4, 2) := by decide +kernel
theorem dX4_busyHouses_15 : decode cX4_busyHouses 15 = .ok (.iload_n 3, 1) := by decide +kernel
theorem dX4_busyHouses_16 : decode cX4_busyHouses 16 = .ok (.if_icmp .ge 26, 3) := by decide +kernel
theorem dX4_busyHouses_19 : decode cX4_busyHouses 19 = .ok (.aload_n 2, 1) := by decide +kernel
theorem dX4_busyHouses_20 : decode cX4_busyHouses 20 = .ok (.iload 4, 2) := by decide +kernel
theorem dX4_busyHouses_22 : decode cX4_busyHouses 22 = .ok (.aaload, 1) := by decide +kernel
theorem dX4_busyHouses_23 : decode cX4_busyHouses 23 = .ok (.astore 5, 2) := by decide +kernel
theorem dX4_busyHouses_25 : decode cX4_busyHouses 25 = .ok (.aload 5, 2) := by decide +kernel
theorem dX4_busyHouses_27 : decode cX4_busyHouses 27 = .ok (.getfield 152, 3) := by decide +kernel
theorem dX4_busyHouses_30 : decode cX4_busyHouses 30 = .ok (.ifCond .eq 6, 3) := by decide +kernel
theorem dX4_busyHouses_33 : decode cX4_busyHouses 33 = .ok (.iinc 1 1, 3) := by decide +kernel
theorem dX4_busyHouses_36 : decode cX4_busyHouses 36 = .ok (.iinc 4 1, 3) := by decide +kernel
theorem dX4_busyHouses_39 : decode cX4_busyHouses 39 = .ok (.goto (-26), 3) := by decide +kernel
theorem dX4_busyHouses_42 : decode cX4_busyHouses 42 = .ok (.iload_n 1, 1) := by decide +kernel
theorem dX4_busyHouses_43 : decode cX4_busyHouses 43 = .ok (.ireturn, 1) := by decide +kernel
theorem dX4_grainsInHouses_0 : decode cX4_grainsInHouses 0 = .ok (.iconst 0, 1) := by decide +kernel
theorem dX4_grainsInHouses_1 : decode cX4_grainsInHouses 1 = .ok (.istore_n 1, 1) := by decide +kernel
theorem dX4_grainsInHouses_2 : decode cX4_grainsInHouses 2 = .ok (.aload_n 0, 1) := by decide +kernel
theorem dX4_grainsInHouses_3 : decode cX4_grainsInHouses 3 = .ok (.getfield 24, 3) := by decide +kernel
theorem dX4_grainsInHouses_6 : decode cX4_grainsInHouses 6 = .ok (.astore_n 2, 1) := by decide +kernel
theorem dX4_grainsInHouses_7 : decode cX4_grainsInHouses 7 = .ok (.aload_n 2, 1) := by decide +kernel
theorem dX4_grainsInHouses_8 : decode cX4_grainsInHouses 8 = .ok (.arraylength, 1) := by decide +kernel
theorem dX4_grainsInHouses_9 : decode cX4_grainsInHouses 9 = .ok (.istore_n 3, 1) := by decide +kernel
theorem dX4_grainsInHouses_10 : decode cX4_grainsInHouses 10 = .ok (.iconst 0, 1) := by decide +kernel
theorem dX4_grainsInHouses_11 : decode cX4_grainsInHouses 11 = .ok (.istore 4, 2) := by decide +kernel
theorem dX4_grainsInHouses_13 : decode cX4_grainsInHouses 13 = .ok (.iload 4, 2) := by decide +kernel
theorem dX4_grainsInHouses_15 : decode cX4_grainsInHouses 15 = .ok (.iload_n 3, 1) := by decide +kernel
theorem dX4_grainsInHouses_16 : decode cX4_grainsInHouses 16 = .ok (.if_icmp .ge 23, 3) := by decide +kernel
theorem dX4_grainsInHouses_19 : decode cX4_grainsInHouses 19 = .ok (.aload_n 2, 1) := by decide +kernel
theorem dX4_grainsInHouses_20 : decode cX4_grainsInHouses 20 = .ok (.iload 4, 2) := by decide +kernel
theorem dX4_grainsInHouses_22 : decode cX4_grainsInHouses 22 = .ok (.aaload, 1) := by decide +kernel
theorem dX4_grainsInHouses_23 : decode cX4_grainsInHouses 23 = .ok (.astore 5, 2) := by decide +kernel
theorem dX4_grainsInHouses_25 : decode cX4_grainsInHouses 25 = .ok (.iload_n 1, 1) := by decide +kernel
theorem dX4_grainsInHouses_26 : decode cX4_grainsInHouses 26 = .ok (.aload 5, 2) := by decide +kernel
theorem dX4_grainsInHouses_28 : decode cX4_grainsInHouses 28 = .ok (.getfield 158, 3) := by decide +kernel
theorem dX4_grainsInHouses_31 : decode cX4_grainsInHouses 31 = .ok (.iadd, 1) := by decide +kernel
theorem dX4_grainsInHouses_32 : decode cX4_grainsInHouses 32 = .ok (.istore_n 1, 1) := by decide +kernel
theorem dX4_grainsInHouses_33 : decode cX4_grainsInHouses 33 = .ok (.iinc 4 1, 3) := by decide +kernel
theorem dX4_grainsInHouses_36 : decode cX4_grainsInHouses 36 = .ok (.goto (-23), 3) := by decide +kernel
theorem dX4_grainsInHouses_39 : decode cX4_grainsInHouses 39 = .ok (.iload_n 1, 1) := by decide +kernel
theorem dX4_grainsInHouses_40 : decode cX4_grainsInHouses 40 = .ok (.ireturn, 1) := by decide +kernel
theorem dX4_grainsOnTheirWay_0 : decode cX4_grainsOnTheirWay 0 = .ok (.iconst 0, 1) := by decide +kernel
theorem dX4_grainsOnTheirWay_1 : decode cX4_grainsOnTheirWay 1 = .ok (.istore_n 1, 1) := by decide +kernel
theorem dX4_grainsOnTheirWay_2 : decode cX4_grainsOnTheirWay 2 = .ok (.iconst 0, 1) := by decide +kernel
theorem dX4_grainsOnTheirWay_3 : decode cX4_grainsOnTheirWay 3 = .ok (.istore_n 2, 1) := by decide +kernel
theorem dX4_grainsOnTheirWay_4 : decode cX4_grainsOnTheirWay 4 = .ok (.iload_n 2, 1) := by decide +kernel
theorem dX4_grainsOnTheirWay_5 : decode cX4_grainsOnTheirWay 5 = .ok (.aload_n 0, 1) := by decide +kernel
theorem dX4_grainsOnTheirWay_6 : decode cX4_grainsOnTheirWay 6 = .ok (.getfield 51, 3) := by decide +kernel
theorem dX4_grainsOnTheirWay_9 : decode cX4_grainsOnTheirWay 9 = .ok (.if_icmp .ge 30, 3) := by decide +kernel
theorem dX4_grainsOnTheirWay_12 : decode cX4_grainsOnTheirWay 12 = .ok (.iload_n 2, 1) := by decide +kernel
theorem dX4_grainsOnTheirWay_13 : decode cX4_grainsOnTheirWay 13 = .ok (.aload_n 0, 1) := by decide +kernel
theorem dX4_grainsOnTheirWay_14 : decode cX4_grainsOnTheirWay 14 = .ok (.getfield 30, 3) := by decide +kernel
theorem dX4_grainsOnTheirWay_17 : decode cX4_grainsOnTheirWay 17 = .ok (.arraylength, 1) := by decide +kernel
theorem dX4_grainsOnTheirWay_18 : decode cX4_grainsOnTheirWay 18 = .ok (.if_icmp .ge 21, 3) := by decide +kernel
theorem dX4_grainsOnTheirWay_21 : decode cX4_grainsOnTheirWay 21 = .ok (.iload_n 1, 1) := by decide +kernel
theorem dX4_grainsOnTheirWay_22 : decode cX4_grainsOnTheirWay 22 = .ok (.aload_n 0, 1) := by decide +kernel
theorem dX4_grainsOnTheirWay_23 : decode cX4_grainsOnTheirWay 23 = .ok (.getfield 30, 3) := by decide +kernel
theorem dX4_grainsOnTheirWay_26 : decode cX4_grainsOnTheirWay 26 = .ok (.iload_n 2, 1) := by decide +kernel
theorem dX4_grainsOnTheirWay_27 : decode cX4_grainsOnTheirWay 27 = .ok (.aaload, 1) := by decide +kernel
theorem dX4_grainsOnTheirWay_28 : decode cX4_grainsOnTheirWay 28 = .ok (.getfield 113, 3) := by decide +kernel
theorem dX4_grainsOnTheirWay_31 : decode cX4_grainsOnTheirWay 31 = .ok (.iadd, 1) := by decide +kernel
theorem dX4_grainsOnTheirWay_32 : decode cX4_grainsOnTheirWay 32 = .ok (.istore_n 1, 1) := by decide +kernel
theorem dX4_grainsOnTheirWay_33 : decode cX4_grainsOnTheirWay 33 = .ok (.iinc 2 1, 3) := by decide +kernel
theorem dX4_grainsOnTheirWay_36 : decode cX4_grainsOnTheirWay 36 = .ok (.goto (-32), 3) := by decide +kernel
theorem dX4_grainsOnTheirWay_39 : decode cX4_grainsOnTheirWay 39 = .ok (.iload_n 1, 1) := by decide +kernel
theorem dX4_grainsOnTheirWay_40 : decode cX4_grainsOnTheirWay 40 = .ok (.ireturn, 1) := by decide +kernel
theorem dX4_errandsInAll_0 : decode cX4_errandsInAll 0 = .ok (.iconst 0, 1) := by decide +kernel
theorem dX4_errandsInAll_1 : decode cX4_errandsInAll 1 = .ok (.istore_n 1, 1) := by decide +kernel
theorem dX4_errandsInAll_2 : decode cX4_errandsInAll 2 = .ok (.aload_n 0, 1) := by decide +kernel
theorem dX4_errandsInAll_3 : decode cX4_errandsInAll 3 = .ok (.getfield 24, 3) := by decide +kernel
theorem dX4_errandsInAll_6 : decode cX4_errandsInAll 6 = .ok (.astore_n 2, 1) := by decide +kernel
theorem dX4_errandsInAll_7 : decode cX4_errandsInAll 7 = .ok (.aload_n 2, 1) := by decide +kernel
theorem dX4_errandsInAll_8 : decode cX4_errandsInAll 8 = .ok (.arraylength, 1) := by decide +kernel
theorem dX4_errandsInAll_9 : decode cX4_errandsInAll 9 = .ok (.istore_n 3, 1) := by decide +kernel
theorem dX4_errandsInAll_10 : decode cX4_errandsInAll 10 = .ok (.iconst 0, 1) := by decide +kernel
theorem dX4_errandsInAll_11 : decode cX4_errandsInAll 11 = .ok (.istore 4, 2) := by decide +kernel
theorem dX4_errandsInAll_13 : decode cX4_errandsInAll 13 = .ok (.iload 4, 2) := by decide +kernel
theorem dX4_errandsInAll_15 : decode cX4_errandsInAll 15 = .ok (.iload_n 3, 1) := by decide +kernel
theorem dX4_errandsInAll_16 : decode cX4_errandsInAll 16 = .ok (.if_icmp .ge 23, 3) := by decide +kernel
theorem dX4_errandsInAll_19 : decode cX4_errandsInAll 19 = .ok (.aload_n 2, 1) := by decide +kernel
theorem dX4_errandsInAll_20 : decode cX4_errandsInAll 20 = .ok (.iload 4, 2) := by decide +kernel
theorem dX4_errandsInAll_22 : decode cX4_errandsInAll 22 = .ok (.aaload, 1) := by decide +kernel
theorem dX4_errandsInAll_23 : decode cX4_errandsInAll 23 = .ok (.astore 5, 2) := by decide +kernel
theorem dX4_errandsInAll_25 : decode cX4_errandsInAll 25 = .ok (.iload_n 1, 1) := by decide +kernel
theorem dX4_errandsInAll_26 : decode cX4_errandsInAll 26 = .ok (.aload 5, 2) := by decide +kernel
theorem dX4_errandsInAll_28 : decode cX4_errandsInAll 28 = .ok (.invokevirtual 199, 3) := by decide +kernel
theorem dX4_errandsInAll_31 : decode cX4_errandsInAll 31 = .ok (.iadd, 1) := by decide +kernel
theorem dX4_errandsInAll_32 : decode cX4_errandsInAll 32 = .ok (.istore_n 1, 1) := by decide +kernel
theorem dX4_errandsInAll_33 : decode cX4_errandsInAll 33 = .ok (.iinc 4 1, 3) := by decide +kernel
theorem dX4_errandsInAll_36 : decode cX4_errandsInAll 36 = .ok (.goto (-23), 3) := by decide +kernel
theorem dX4_errandsInAll_39 : decode cX4_errandsInAll 39 = .ok (.iconst 0, 1) := by decide +kernel
theorem dX4_errandsInAll_40 : decode cX4_errandsInAll 40 = .ok (.istore_n 2, 1) := by decide +kernel
theorem dX4_errandsInAll_41 : decode cX4_errandsInAll 41 = .ok (.iload_n 2, 1) := by decide +kernel
theorem dX4_errandsInAll_42 : decode cX4_errandsInAll 42 = .ok (.aload_n 0, 1) := by decide +kernel
theorem dX4_errandsInAll_43 : decode cX4_errandsInAll 43 = .ok (.getfield 51, 3) := by decide +kernel
theorem dX4_errandsInAll_46 : decode cX4_errandsInAll 46 = .ok (.if_icmp .ge 30, 3) := by decide +kernel
theorem dX4_errandsInAll_49 : decode cX4_errandsInAll 49 = .ok (.iload_n 2, 1) := by decide +kernel
theorem dX4_errandsInAll_50 : decode cX4_errandsInAll 50 = .ok (.aload_n 0, 1) := by decide +kernel
theorem dX4_errandsInAll_51 : decode cX4_errandsInAll 51 = .ok (.getfield 30, 3) := by decide +kernel
theorem dX4_errandsInAll_54 : decode cX4_errandsInAll 54 = .ok (.arraylength, 1) := by decide +kernel
theorem dX4_errandsInAll_55 : decode cX4_errandsInAll 55 = .ok (.if_icmp .ge 21, 3) := by decide +kernel
theorem dX4_errandsInAll_58 : decode cX4_errandsInAll 58 = .ok (.iload_n 1, 1) := by decide +kernel
theorem dX4_errandsInAll_59 : decode cX4_errandsInAll 59 = .ok (.aload_n 0, 1) := by decide +kernel
theorem dX4_errandsInAll_60 : decode cX4_errandsInAll 60 = .ok (.getfield 30, 3) := by decide +kernel
theorem dX4_errandsInAll_63 : decode cX4_errandsInAll 63 = .ok (.iload_n 2, 1) := by decide +kernel
theorem dX4_errandsInAll_64 : decode cX4_errandsInAll 64 = .ok (.aaload, 1) := by decide +kernel
theorem dX4_errandsInAll_65 : decode cX4_errandsInAll 65 = .ok (.invokevirtual 202, 3) := by decide +kernel
theorem dX4_errandsInAll_68 : decode cX4_errandsInAll 68 = .ok (.iadd, 1) := by decide +kernel
theorem dX4_errandsInAll_69 : decode cX4_errandsInAll 69 = .ok (.istore_n 1, 1) := by decide +kernel
theorem dX4_errandsInAll_70 : decode cX4_errandsInAll 70 = .ok (.iinc 2 1, 3) := by decide +kernel
theorem dX4_errandsInAll_73 : decode cX4_errandsInAll 73 = .ok (.goto (-32), 3) := by decide +kernel
theorem dX4_errandsInAll_76 : decode cX4_errandsInAll 76 = .ok (.iload_n 1, 1) := by decide +kernel
theorem dX4_errandsInAll_77 : decode cX4_errandsInAll 77 = .ok (.ireturn, 1) := by decide +kernel
theorem dX4_tell_0 : decode cX4_tell 0 = .ok (.iload_n 1, 1) := by decide +kernel
theorem dX4_tell_1 : decode cX4_tell 1 = .ok (.tableswitch 166 0 14 #[75, 80, 85, 90, 95, 100, 105, 110, 115, 120, 125, 130, 143, 156, 161], 75) := by decide +kernel
theorem dX4_tell_76 : decode cX4_tell 76 = .ok (.aload_n 0, 1) := by decide +kernel
theorem dX4_tell_77 : decode cX4_tell 77 = .ok (.getfield 40, 3) := by decide +kernel
theorem dX4_tell_80 : decode cX4_tell 80 = .ok (.ireturn, 1) := by decide +kernel
theorem dX4_tell_81 : decode cX4_tell 81 = .ok (.aload_n 0, 1) := by decide +kernel
theorem dX4_tell_82 : decode cX4_tell 82 = .ok (.getfield 57, 3) := by decide +kernel
theorem dX4_tell_85 : decode cX4_tell 85 = .ok (.ireturn, 1) := by decide +kernel
theorem dX4_tell_86 : decode cX4_tell 86 = .ok (.aload_n 0, 1) := by decide +kernel
theorem dX4_tell_87 : decode cX4_tell 87 = .ok (.getfield 60, 3) := by decide +kernel
theorem dX4_tell_90 : decode cX4_tell 90 = .ok (.ireturn, 1) := by decide +kernel
theorem dX4_tell_91 : decode cX4_tell 91 = .ok (.aload_n 0, 1) := by decide +kernel
theorem dX4_tell_92 : decode cX4_tell 92 = .ok (.invokevirtual 205, 3) := by decide +kernel
theorem dX4_tell_95 : decode cX4_tell 95 = .ok (.ireturn, 1) := by decide +kernel
theorem dX4_tell_96 : decode cX4_tell 96 = .ok (.aload_n 0, 1) := by decide +kernel
theorem dX4_tell_97 : decode cX4_tell 97 = .ok (.invokevirtual 208, 3) := by decide +kernel
theorem dX4_tell_100 : decode cX4_tell 100 = .ok (.ireturn, 1) := by decide +kernel
end
section
theorem dX4_tell_101 : decode cX4_tell 101 = .ok (.aload_n 0, 1) := by decide +kernel
theorem dX4_tell_102 : decode cX4_tell 102 = .ok (.getfield 63, 3) := by decide +kernel
theorem dX4_tell_105 : decode cX4_tell 105 = .ok (.ireturn, 1) := by decide +kernel
theorem dX4_tell_106 : decode cX4_tell 106 = .ok (.aload_n 0, 1) := by decide +kernel
theorem dX4_tell_107 : decode cX4_tell 107 = .ok (.getfield 51, 3) := by decide +kernel
theorem dX4_tell_110 : decode cX4_tell 110 = .ok (.ireturn, 1) := by decide +kernel
theorem dX4_tell_111 : decode cX4_tell 111 = .ok (.aload_n 0, 1) := by decide +kernel
theorem dX4_tell_112 : decode cX4_tell 112 = .ok (.invokevirtual 189, 3) := by decide +kernel
theorem dX4_tell_115 : decode cX4_tell 115 = .ok (.ireturn, 1) := by decide +kernel
theorem dX4_tell_116 : decode cX4_tell 116 = .ok (.aload_n 0, 1) := by decide +kernel
theorem dX4_tell_117 : decode cX4_tell 117 = .ok (.getfield 66, 3) := by decide +kernel
theorem dX4_tell_120 : decode cX4_tell 120 = .ok (.ireturn, 1) := by decide +kernel
theorem dX4_tell_121 : decode cX4_tell 121 = .ok (.aload_n 0, 1) := by decide +kernel
theorem dX4_tell_122 : decode cX4_tell 122 = .ok (.getfield 69, 3) := by decide +kernel
theorem dX4_tell_125 : decode cX4_tell 125 = .ok (.ireturn, 1) := by decide +kernel
theorem dX4_tell_126 : decode cX4_tell 126 = .ok (.aload_n 0, 1) := by decide +kernel
theorem dX4_tell_127 : decode cX4_tell 127 = .ok (.getfield 72, 3) := by decide +kernel
theorem dX4_tell_130 : decode cX4_tell 130 = .ok (.ireturn, 1) := by decide +kernel
theorem dX4_tell_131 : decode cX4_tell 131 = .ok (.aload_n 0, 1) := by decide +kernel
theorem dX4_tell_132 : decode cX4_tell 132 = .ok (.invokevirtual 211, 3) := by decide +kernel
theorem dX4_tell_135 : decode cX4_tell 135 = .ok (.ifCond .eq 7, 3) := by decide +kernel
theorem dX4_tell_138 : decode cX4_tell 138 = .ok (.iconst 1, 1) := by decide +kernel
theorem dX4_tell_139 : decode cX4_tell 139 = .ok (.goto 4, 3) := by decide +kernel
theorem dX4_tell_142 : decode cX4_tell 142 = .ok (.iconst 0, 1) := by decide +kernel
theorem dX4_tell_143 : decode cX4_tell 143 = .ok (.ireturn, 1) := by decide +kernel
theorem dX4_tell_144 : decode cX4_tell 144 = .ok (.aload_n 0, 1) := by decide +kernel
theorem dX4_tell_145 : decode cX4_tell 145 = .ok (.invokevirtual 214, 3) := by decide +kernel
theorem dX4_tell_148 : decode cX4_tell 148 = .ok (.ifCond .eq 7, 3) := by decide +kernel
theorem dX4_tell_151 : decode cX4_tell 151 = .ok (.iconst 1, 1) := by decide +kernel
theorem dX4_tell_152 : decode cX4_tell 152 = .ok (.goto 4, 3) := by decide +kernel
theorem dX4_tell_155 : decode cX4_tell 155 = .ok (.iconst 0, 1) := by decide +kernel
theorem dX4_tell_156 : decode cX4_tell 156 = .ok (.ireturn, 1) := by decide +kernel
theorem dX4_tell_157 : decode cX4_tell 157 = .ok (.aload_n 0, 1) := by decide +kernel
theorem dX4_tell_158 : decode cX4_tell 158 = .ok (.getfield 9, 3) := by decide +kernel
theorem dX4_tell_161 : decode cX4_tell 161 = .ok (.ireturn, 1) := by decide +kernel
theorem dX4_tell_162 : decode cX4_tell 162 = .ok (.aload_n 0, 1) := by decide +kernel
theorem dX4_tell_163 : decode cX4_tell 163 = .ok (.getfield 15, 3) := by decide +kernel
theorem dX4_tell_166 : decode cX4_tell 166 = .ok (.ireturn, 1) := by decide +kernel
theorem dX4_tell_167 : decode cX4_tell 167 = .ok (.bipush (-2), 2) := by decide +kernel
theorem dX4_tell_169 : decode cX4_tell 169 = .ok (.ireturn, 1) := by decide +kernel
theorem dX5_init_0 : decode cX5_init 0 = .ok (.aload_n 0, 1) := by decide +kernel
theorem dX5_init_1 : decode cX5_init 1 = .ok (.invokespecial 3, 3) := by decide +kernel
theorem dX5_init_4 : decode cX5_init 4 = .ok (.aload_n 0, 1) := by decide +kernel
theorem dX5_init_5 : decode cX5_init 5 = .ok (.new 9, 3) := by decide +kernel
theorem dX5_init_8 : decode cX5_init 8 = .ok (.dup, 1) := by decide +kernel
theorem dX5_init_9 : decode cX5_init 9 = .ok (.invokespecial 11, 3) := by decide +kernel
theorem dX5_init_12 : decode cX5_init 12 = .ok (.putfield 12, 3) := by decide +kernel
theorem dX5_init_15 : decode cX5_init 15 = .ok (.aload_n 0, 1) := by decide +kernel
theorem dX5_init_16 : decode cX5_init 16 = .ok (.new 9, 3) := by decide +kernel
theorem dX5_init_19 : decode cX5_init 19 = .ok (.dup, 1) := by decide +kernel
theorem dX5_init_20 : decode cX5_init 20 = .ok (.invokespecial 11, 3) := by decide +kernel
theorem dX5_init_23 : decode cX5_init 23 = .ok (.putfield 16, 3) := by decide +kernel
theorem dX5_init_26 : decode cX5_init 26 = .ok (.aload_n 0, 1) := by decide +kernel
theorem dX5_init_27 : decode cX5_init 27 = .ok (.new 9, 3) := by decide +kernel
theorem dX5_init_30 : decode cX5_init 30 = .ok (.dup, 1) := by decide +kernel
theorem dX5_init_31 : decode cX5_init 31 = .ok (.invokespecial 11, 3) := by decide +kernel
theorem dX5_init_34 : decode cX5_init 34 = .ok (.putfield 19, 3) := by decide +kernel
theorem dX5_init_37 : decode cX5_init 37 = .ok (.aload_n 0, 1) := by decide +kernel
theorem dX5_init_38 : decode cX5_init 38 = .ok (.iconst 4, 1) := by decide +kernel
theorem dX5_init_39 : decode cX5_init 39 = .ok (.anewarray 9, 3) := by decide +kernel
theorem dX5_init_42 : decode cX5_init 42 = .ok (.putfield 22, 3) := by decide +kernel
theorem dX5_init_45 : decode cX5_init 45 = .ok (.aload_n 0, 1) := by decide +kernel
theorem dX5_init_46 : decode cX5_init 46 = .ok (.bipush 60, 2) := by decide +kernel
theorem dX5_init_48 : decode cX5_init 48 = .ok (.newarray .char, 2) := by decide +kernel
theorem dX5_init_50 : decode cX5_init 50 = .ok (.putfield 26, 3) := by decide +kernel
theorem dX5_init_53 : decode cX5_init 53 = .ok (.aload_n 0, 1) := by decide +kernel
theorem dX5_init_54 : decode cX5_init 54 = .ok (.new 30, 3) := by decide +kernel
theorem dX5_init_57 : decode cX5_init 57 = .ok (.dup, 1) := by decide +kernel
theorem dX5_init_58 : decode cX5_init 58 = .ok (.invokespecial 32, 3) := by decide +kernel
theorem dX5_init_61 : decode cX5_init 61 = .ok (.putfield 33, 3) := by decide +kernel
theorem dX5_init_64 : decode cX5_init 64 = .ok (.iconst 0, 1) := by decide +kernel
theorem dX5_init_65 : decode cX5_init 65 = .ok (.istore_n 1, 1) := by decide +kernel
theorem dX5_init_66 : decode cX5_init 66 = .ok (.iload_n 1, 1) := by decide +kernel
theorem dX5_init_67 : decode cX5_init 67 = .ok (.aload_n 0, 1) := by decide +kernel
theorem dX5_init_68 : decode cX5_init 68 = .ok (.getfield 22, 3) := by decide +kernel
theorem dX5_init_71 : decode cX5_init 71 = .ok (.arraylength, 1) := by decide +kernel
theorem dX5_init_72 : decode cX5_init 72 = .ok (.if_icmp .ge 22, 3) := by decide +kernel
theorem dX5_init_75 : decode cX5_init 75 = .ok (.aload_n 0, 1) := by decide +kernel
theorem dX5_init_76 : decode cX5_init 76 = .ok (.getfield 22, 3) := by decide +kernel
theorem dX5_init_79 : decode cX5_init 79 = .ok (.iload_n 1, 1) := by decide +kernel
theorem dX5_init_80 : decode cX5_init 80 = .ok (.new 9, 3) := by decide +kernel
theorem dX5_init_83 : decode cX5_init 83 = .ok (.dup, 1) := by decide +kernel
theorem dX5_init_84 : decode cX5_init 84 = .ok (.invokespecial 11, 3) := by decide +kernel
theorem dX5_init_87 : decode cX5_init 87 = .ok (.aastore, 1) := by decide +kernel
theorem dX5_init_88 : decode cX5_init 88 = .ok (.iinc 1 1, 3) := by decide +kernel
theorem dX5_init_91 : decode cX5_init 91 = .ok (.goto (-25), 3) := by decide +kernel
theorem dX5_init_94 : decode cX5_init 94 = .ok (.return_, 1) := by decide +kernel
theorem dX5_setTime_0 : decode cX5_setTime 0 = .ok (.iload_n 1, 1) := by decide +kernel
theorem dX5_setTime_1 : decode cX5_setTime 1 = .ok (.invokestatic 37, 3) := by decide +kernel
theorem dX5_setTime_4 : decode cX5_setTime 4 = .ok (.ifCond .eq 10, 3) := by decide +kernel
theorem dX5_setTime_7 : decode cX5_setTime 7 = .ok (.iload_n 2, 1) := by decide +kernel
theorem dX5_setTime_8 : decode cX5_setTime 8 = .ok (.invokestatic 37, 3) := by decide +kernel
theorem dX5_setTime_11 : decode cX5_setTime 11 = .ok (.ifCond .ne 5, 3) := by decide +kernel
theorem dX5_setTime_14 : decode cX5_setTime 14 = .ok (.iconst (-1), 1) := by decide +kernel
theorem dX5_setTime_15 : decode cX5_setTime 15 = .ok (.ireturn, 1) := by decide +kernel
theorem dX5_setTime_16 : decode cX5_setTime 16 = .ok (.iload_n 3, 1) := by decide +kernel
theorem dX5_setTime_17 : decode cX5_setTime 17 = .ok (.invokestatic 41, 3) := by decide +kernel
theorem dX5_setTime_20 : decode cX5_setTime 20 = .ok (.ifCond .eq 8, 3) := by decide +kernel
theorem dX5_setTime_23 : decode cX5_setTime 23 = .ok (.iload_n 1, 1) := by decide +kernel
theorem dX5_setTime_24 : decode cX5_setTime 24 = .ok (.iload_n 2, 1) := by decide +kernel
theorem dX5_setTime_25 : decode cX5_setTime 25 = .ok (.if_icmp .ne 6, 3) := by decide +kernel
theorem dX5_setTime_28 : decode cX5_setTime 28 = .ok (.bipush (-2), 2) := by decide +kernel
theorem dX5_setTime_30 : decode cX5_setTime 30 = .ok (.ireturn, 1) := by decide +kernel
theorem dX5_setTime_31 : decode cX5_setTime 31 = .ok (.aload_n 0, 1) := by decide +kernel
theorem dX5_setTime_32 : decode cX5_setTime 32 = .ok (.iload_n 1, 1) := by decide +kernel
theorem dX5_setTime_33 : decode cX5_setTime 33 = .ok (.iload_n 2, 1) := by decide +kernel
theorem dX5_setTime_34 : decode cX5_setTime 34 = .ok (.iload_n 3, 1) := by decide +kernel
theorem dX5_setTime_35 : decode cX5_setTime 35 = .ok (.invokevirtual 44, 3) := by decide +kernel
theorem dX5_setTime_38 : decode cX5_setTime 38 = .ok (.ireturn, 1) := by decide +kernel
theorem dX5_setBankTime_0 : decode cX5_setBankTime 0 = .ok (.iload_n 1, 1) := by decide +kernel
theorem dX5_setBankTime_1 : decode cX5_setBankTime 1 = .ok (.invokestatic 37, 3) := by decide +kernel
theorem dX5_setBankTime_4 : decode cX5_setBankTime 4 = .ok (.ifCond .ne 5, 3) := by decide +kernel
theorem dX5_setBankTime_7 : decode cX5_setBankTime 7 = .ok (.iconst (-1), 1) := by decide +kernel
theorem dX5_setBankTime_8 : decode cX5_setBankTime 8 = .ok (.ireturn, 1) := by decide +kernel
theorem dX5_setBankTime_9 : decode cX5_setBankTime 9 = .ok (.iload_n 2, 1) := by decide +kernel
theorem dX5_setBankTime_10 : decode cX5_setBankTime 10 = .ok (.invokestatic 41, 3) := by decide +kernel
theorem dX5_setBankTime_13 : decode cX5_setBankTime 13 = .ok (.ifCond .ne 6, 3) := by decide +kernel
theorem dX5_setBankTime_16 : decode cX5_setBankTime 16 = .ok (.bipush (-2), 2) := by decide +kernel
theorem dX5_setBankTime_18 : decode cX5_setBankTime 18 = .ok (.ireturn, 1) := by decide +kernel
theorem dX5_setBankTime_19 : decode cX5_setBankTime 19 = .ok (.aload_n 0, 1) := by decide +kernel
theorem dX5_setBankTime_20 : decode cX5_setBankTime 20 = .ok (.iload_n 1, 1) := by decide +kernel
theorem dX5_setBankTime_21 : decode cX5_setBankTime 21 = .ok (.bipush 6, 2) := by decide +kernel
theorem dX5_setBankTime_23 : decode cX5_setBankTime 23 = .ok (.iload_n 2, 1) := by decide +kernel
theorem dX5_setBankTime_24 : decode cX5_setBankTime 24 = .ok (.invokevirtual 44, 3) := by decide +kernel
theorem dX5_setBankTime_27 : decode cX5_setBankTime 27 = .ok (.ireturn, 1) := by decide +kernel
theorem dX5_set_0 : decode cX5_set 0 = .ok (.iload_n 1, 1) := by decide +kernel
theorem dX5_set_1 : decode cX5_set 1 = .ok (.ifCond .ne 9, 3) := by decide +kernel
theorem dX5_set_4 : decode cX5_set 4 = .ok (.aload_n 0, 1) := by decide +kernel
theorem dX5_set_5 : decode cX5_set 5 = .ok (.iload_n 2, 1) := by decide +kernel
theorem dX5_set_6 : decode cX5_set 6 = .ok (.invokevirtual 48, 3) := by decide +kernel
theorem dX5_set_9 : decode cX5_set 9 = .ok (.ireturn, 1) := by decide +kernel
theorem dX5_set_10 : decode cX5_set 10 = .ok (.iload_n 1, 1) := by decide +kernel
theorem dX5_set_11 : decode cX5_set 11 = .ok (.iconst 1, 1) := by decide +kernel
theorem dX5_set_12 : decode cX5_set 12 = .ok (.if_icmp .ne 9, 3) := by decide +kernel
theorem dX5_set_15 : decode cX5_set 15 = .ok (.aload_n 0, 1) := by decide +kernel
theorem dX5_set_16 : decode cX5_set 16 = .ok (.iload_n 2, 1) := by decide +kernel
theorem dX5_set_17 : decode cX5_set 17 = .ok (.invokevirtual 52, 3) := by decide +kernel
theorem dX5_set_20 : decode cX5_set 20 = .ok (.ireturn, 1) := by decide +kernel
theorem dX5_set_21 : decode cX5_set 21 = .ok (.iconst (-1), 1) := by decide +kernel
theorem dX5_set_22 : decode cX5_set 22 = .ok (.ireturn, 1) := by decide +kernel
theorem dX5_launch_0 : decode cX5_launch 0 = .ok (.aload_n 0, 1) := by decide +kernel
theorem dX5_launch_1 : decode cX5_launch 1 = .ok (.getfield 33, 3) := by decide +kernel
theorem dX5_launch_4 : decode cX5_launch 4 = .ok (.aload_n 0, 1) := by decide +kernel
theorem dX5_launch_5 : decode cX5_launch 5 = .ok (.getfield 26, 3) := by decide +kernel
theorem dX5_launch_8 : decode cX5_launch 8 = .ok (.aload_n 0, 1) := by decide +kernel
theorem dX5_launch_9 : decode cX5_launch 9 = .ok (.getfield 55, 3) := by decide +kernel
theorem dX5_launch_12 : decode cX5_launch 12 = .ok (.invokevirtual 59, 3) := by decide +kernel
theorem dX5_launch_15 : decode cX5_launch 15 = .ok (.istore_n 1, 1) := by decide +kernel
theorem dX5_launch_16 : decode cX5_launch 16 = .ok (.iload_n 1, 1) := by decide +kernel
theorem dX5_launch_17 : decode cX5_launch 17 = .ok (.iconst (-1), 1) := by decide +kernel
theorem dX5_launch_18 : decode cX5_launch 18 = .ok (.if_icmp .eq 8, 3) := by decide +kernel
theorem dX5_launch_21 : decode cX5_launch 21 = .ok (.bipush (-100), 2) := by decide +kernel
theorem dX5_launch_23 : decode cX5_launch 23 = .ok (.iload_n 1, 1) := by decide +kernel
theorem dX5_launch_24 : decode cX5_launch 24 = .ok (.isub, 1) := by decide +kernel
theorem dX5_launch_25 : decode cX5_launch 25 = .ok (.ireturn, 1) := by decide +kernel
theorem dX5_launch_26 : decode cX5_launch 26 = .ok (.aload_n 0, 1) := by decide +kernel
theorem dX5_launch_27 : decode cX5_launch 27 = .ok (.getfield 12, 3) := by decide +kernel
theorem dX5_launch_30 : decode cX5_launch 30 = .ok (.invokevirtual 63, 3) := by decide +kernel
theorem dX5_launch_33 : decode cX5_launch 33 = .ok (.aload_n 0, 1) := by decide +kernel
theorem dX5_launch_34 : decode cX5_launch 34 = .ok (.getfield 33, 3) := by decide +kernel
theorem dX5_launch_37 : decode cX5_launch 37 = .ok (.getfield 67, 3) := by decide +kernel
theorem dX5_launch_40 : decode cX5_launch 40 = .ok (.iadd, 1) := by decide +kernel
theorem dX5_launch_41 : decode cX5_launch 41 = .ok (.bipush 80, 2) := by decide +kernel
theorem dX5_launch_43 : decode cX5_launch 43 = .ok (.if_icmp .le 6, 3) := by decide +kernel
theorem dX5_launch_46 : decode cX5_launch 46 = .ok (.bipush (-3), 2) := by decide +kernel
theorem dX5_launch_48 : decode cX5_launch 48 = .ok (.ireturn, 1) := by decide +kernel
theorem dX5_launch_49 : decode cX5_launch 49 = .ok (.aload_n 0, 1) := by decide +kernel
theorem dX5_launch_50 : decode cX5_launch 50 = .ok (.invokevirtual 70, 3) := by decide +kernel
theorem dX5_launch_53 : decode cX5_launch 53 = .ok (.aload_n 0, 1) := by decide +kernel
theorem dX5_launch_54 : decode cX5_launch 54 = .ok (.getfield 12, 3) := by decide +kernel
theorem dX5_launch_57 : decode cX5_launch 57 = .ok (.aload_n 0, 1) := by decide +kernel
theorem dX5_launch_58 : decode cX5_launch 58 = .ok (.getfield 33, 3) := by decide +kernel
theorem dX5_launch_61 : decode cX5_launch 61 = .ok (.invokevirtual 73, 3) := by decide +kernel
theorem dX5_launch_64 : decode cX5_launch 64 = .ok (.aload_n 0, 1) := by decide +kernel
theorem dX5_launch_65 : decode cX5_launch 65 = .ok (.getfield 33, 3) := by decide +kernel
theorem dX5_launch_68 : decode cX5_launch 68 = .ok (.getfield 77, 3) := by decide +kernel
theorem dX5_launch_71 : decode cX5_launch 71 = .ok (.ireturn, 1) := by decide +kernel
theorem dX5_pass_0 : decode cX5_pass 0 = .ok (.iload_n 1, 1) := by decide +kernel
theorem dX5_pass_1 : decode cX5_pass 1 = .ok (.iconst 1, 1) := by decide +kernel
theorem dX5_pass_2 : decode cX5_pass 2 = .ok (.if_icmp .lt 9, 3) := by decide +kernel
theorem dX5_pass_5 : decode cX5_pass 5 = .ok (.iload_n 1, 1) := by decide +kernel
theorem dX5_pass_6 : decode cX5_pass 6 = .ok (.bipush 100, 2) := by decide +kernel
theorem dX5_pass_8 : decode cX5_pass 8 = .ok (.if_icmp .le 6, 3) := by decide +kernel
theorem dX5_pass_11 : decode cX5_pass 11 = .ok (.bipush (-2), 2) := by decide +kernel
theorem dX5_pass_13 : decode cX5_pass 13 = .ok (.ireturn, 1) := by decide +kernel
theorem dX5_pass_14 : decode cX5_pass 14 = .ok (.aload_n 0, 1) := by decide +kernel
theorem dX5_pass_15 : decode cX5_pass 15 = .ok (.getfield 12, 3) := by decide +kernel
theorem dX5_pass_18 : decode cX5_pass 18 = .ok (.getfield 80, 3) := by decide +kernel
theorem dX5_pass_21 : decode cX5_pass 21 = .ok (.iload_n 1, 1) := by decide +kernel
theorem dX5_pass_22 : decode cX5_pass 22 = .ok (.iadd, 1) := by decide +kernel
theorem dX5_pass_23 : decode cX5_pass 23 = .ok (.ldc 83, 2) := by decide +kernel
theorem dX5_pass_25 : decode cX5_pass 25 = .ok (.if_icmp .le 6, 3) := by decide +kernel
theorem dX5_pass_28 : decode cX5_pass 28 = .ok (.bipush (-3), 2) := by decide +kernel
theorem dX5_pass_30 : decode cX5_pass 30 = .ok (.ireturn, 1) := by decide +kernel
theorem dX5_pass_31 : decode cX5_pass 31 = .ok (.aload_n 0, 1) := by decide +kernel
theorem dX5_pass_32 : decode cX5_pass 32 = .ok (.invokevirtual 70, 3) := by decide +kernel
theorem dX5_pass_35 : decode cX5_pass 35 = .ok (.iconst 0, 1) := by decide +kernel
theorem dX5_pass_36 : decode cX5_pass 36 = .ok (.istore_n 2, 1) := by decide +kernel
theorem dX5_pass_37 : decode cX5_pass 37 = .ok (.iload_n 2, 1) := by decide +kernel
theorem dX5_pass_38 : decode cX5_pass 38 = .ok (.iload_n 1, 1) := by decide +kernel
theorem dX5_pass_39 : decode cX5_pass 39 = .ok (.if_icmp .ge 16, 3) := by decide +kernel
theorem dX5_pass_42 : decode cX5_pass 42 = .ok (.aload_n 0, 1) := by decide +kernel
theorem dX5_pass_43 : decode cX5_pass 43 = .ok (.getfield 12, 3) := by decide +kernel
theorem dX5_pass_46 : decode cX5_pass 46 = .ok (.invokevirtual 84, 3) := by decide +kernel
theorem dX5_pass_49 : decode cX5_pass 49 = .ok (.iinc 2 1, 3) := by decide +kernel
theorem dX5_pass_52 : decode cX5_pass 52 = .ok (.goto (-15), 3) := by decide +kernel
theorem dX5_pass_55 : decode cX5_pass 55 = .ok (.aload_n 0, 1) := by decide +kernel
theorem dX5_pass_56 : decode cX5_pass 56 = .ok (.getfield 12, 3) := by decide +kernel
theorem dX5_pass_59 : decode cX5_pass 59 = .ok (.getfield 80, 3) := by decide +kernel
theorem dX5_pass_62 : decode cX5_pass 62 = .ok (.ireturn, 1) := by decide +kernel
theorem dX5_lose_0 : decode cX5_lose 0 = .ok (.iload_n 1, 1) := by decide +kernel
theorem dX5_lose_1 : decode cX5_lose 1 = .ok (.ifCond .ge 6, 3) := by decide +kernel
theorem dX5_lose_4 : decode cX5_lose 4 = .ok (.bipush (-2), 2) := by decide +kernel
theorem dX5_lose_6 : decode cX5_lose 6 = .ok (.ireturn, 1) := by decide +kernel
theorem dX5_lose_7 : decode cX5_lose 7 = .ok (.aload_n 0, 1) := by decide +kernel
theorem dX5_lose_8 : decode cX5_lose 8 = .ok (.getfield 12, 3) := by decide +kernel
theorem dX5_lose_11 : decode cX5_lose 11 = .ok (.iload_n 1, 1) := by decide +kernel
theorem dX5_lose_12 : decode cX5_lose 12 = .ok (.invokevirtual 87, 3) := by decide +kernel
theorem dX5_lose_15 : decode cX5_lose 15 = .ok (.ifCond .ne 5, 3) := by decide +kernel
theorem dX5_lose_18 : decode cX5_lose 18 = .ok (.iconst (-1), 1) := by decide +kernel
theorem dX5_lose_19 : decode cX5_lose 19 = .ok (.ireturn, 1) := by decide +kernel
theorem dX5_lose_20 : decode cX5_lose 20 = .ok (.aload_n 0, 1) := by decide +kernel
theorem dX5_lose_21 : decode cX5_lose 21 = .ok (.invokevirtual 70, 3) := by decide +kernel
theorem dX5_lose_24 : decode cX5_lose 24 = .ok (.aload_n 0, 1) := by decide +kernel
theorem dX5_lose_25 : decode cX5_lose 25 = .ok (.getfield 12, 3) := by decide +kernel
theorem dX5_lose_28 : decode cX5_lose 28 = .ok (.iload_n 1, 1) := by decide +kernel
theorem dX5_lose_29 : decode cX5_lose 29 = .ok (.invokevirtual 90, 3) := by decide +kernel
theorem dX5_lose_32 : decode cX5_lose 32 = .ok (.ireturn, 1) := by decide +kernel
theorem dX5_makeGood_0 : decode cX5_makeGood 0 = .ok (.aload_n 0, 1) := by decide +kernel
theorem dX5_makeGood_1 : decode cX5_makeGood 1 = .ok (.getfield 12, 3) := by decide +kernel
theorem dX5_makeGood_4 : decode cX5_makeGood 4 = .ok (.getfield 93, 3) := by decide +kernel
theorem dX5_makeGood_7 : decode cX5_makeGood 7 = .ok (.ifCond .ne 6, 3) := by decide +kernel
theorem dX5_makeGood_10 : decode cX5_makeGood 10 = .ok (.bipush (-5), 2) := by decide +kernel
theorem dX5_makeGood_12 : decode cX5_makeGood 12 = .ok (.ireturn, 1) := by decide +kernel
theorem dX5_makeGood_13 : decode cX5_makeGood 13 = .ok (.aload_n 0, 1) := by decide +kernel
theorem dX5_makeGood_14 : decode cX5_makeGood 14 = .ok (.invokevirtual 70, 3) := by decide +kernel
theorem dX5_makeGood_17 : decode cX5_makeGood 17 = .ok (.aload_n 0, 1) := by decide +kernel
theorem dX5_makeGood_18 : decode cX5_makeGood 18 = .ok (.getfield 12, 3) := by decide +kernel
theorem dX5_makeGood_21 : decode cX5_makeGood 21 = .ok (.invokevirtual 97, 3) := by decide +kernel
theorem dX5_makeGood_24 : decode cX5_makeGood 24 = .ok (.ireturn, 1) := by decide +kernel
theorem dX5_type_0 : decode cX5_type 0 = .ok (.aload_n 0, 1) := by decide +kernel
theorem dX5_type_1 : decode cX5_type 1 = .ok (.getfield 55, 3) := by decide +kernel
theorem dX5_type_4 : decode cX5_type 4 = .ok (.ifCond .lt 15, 3) := by decide +kernel
theorem dX5_type_7 : decode cX5_type 7 = .ok (.aload_n 0, 1) := by decide +kernel
theorem dX5_type_8 : decode cX5_type 8 = .ok (.getfield 55, 3) := by decide +kernel
theorem dX5_type_11 : decode cX5_type 11 = .ok (.aload_n 0, 1) := by decide +kernel
theorem dX5_type_12 : decode cX5_type 12 = .ok (.getfield 26, 3) := by decide +kernel
theorem dX5_type_15 : decode cX5_type 15 = .ok (.arraylength, 1) := by decide +kernel
theorem dX5_type_16 : decode cX5_type 16 = .ok (.if_icmp .lt 6, 3) := by decide +kernel
theorem dX5_type_19 : decode cX5_type 19 = .ok (.bipush (-3), 2) := by decide +kernel
theorem dX5_type_21 : decode cX5_type 21 = .ok (.ireturn, 1) := by decide +kernel
theorem dX5_type_22 : decode cX5_type 22 = .ok (.aload_n 0, 1) := by decide +kernel
theorem dX5_type_23 : decode cX5_type 23 = .ok (.getfield 26, 3) := by decide +kernel
theorem dX5_type_26 : decode cX5_type 26 = .ok (.aload_n 0, 1) := by decide +kernel
theorem dX5_type_27 : decode cX5_type 27 = .ok (.getfield 55, 3) := by decide +kernel
theorem dX5_type_30 : decode cX5_type 30 = .ok (.iload_n 1, 1) := by decide +kernel
theorem dX5_type_31 : decode cX5_type 31 = .ok (.castore, 1) := by decide +kernel
theorem dX5_type_32 : decode cX5_type 32 = .ok (.aload_n 0, 1) := by decide +kernel
theorem dX5_type_33 : decode cX5_type 33 = .ok (.dup, 1) := by decide +kernel
theorem dX5_type_34 : decode cX5_type 34 = .ok (.getfield 55, 3) := by decide +kernel
theorem dX5_type_37 : decode cX5_type 37 = .ok (.iconst 1, 1) := by decide +kernel
theorem dX5_type_38 : decode cX5_type 38 = .ok (.iadd, 1) := by decide +kernel
theorem dX5_type_39 : decode cX5_type 39 = .ok (.putfield 55, 3) := by decide +kernel
theorem dX5_type_42 : decode cX5_type 42 = .ok (.aload_n 0, 1) := by decide +kernel
theorem dX5_type_43 : decode cX5_type 43 = .ok (.getfield 55, 3) := by decide +kernel
theorem dX5_type_46 : decode cX5_type 46 = .ok (.ireturn, 1) := by decide +kernel
theorem dX5_clearText_0 : decode cX5_clearText 0 = .ok (.aload_n 0, 1) := by decide +kernel
theorem dX5_clearText_1 : decode cX5_clearText 1 = .ok (.getfield 55, 3) := by decide +kernel
theorem dX5_clearText_4 : decode cX5_clearText 4 = .ok (.istore_n 1, 1) := by decide +kernel
theorem dX5_clearText_5 : decode cX5_clearText 5 = .ok (.aload_n 0, 1) := by decide +kernel
theorem dX5_clearText_6 : decode cX5_clearText 6 = .ok (.iconst 0, 1) := by decide +kernel
theorem dX5_clearText_7 : decode cX5_clearText 7 = .ok (.putfield 55, 3) := by decide +kernel
theorem dX5_clearText_10 : decode cX5_clearText 10 = .ok (.iload_n 1, 1) := by decide +kernel
theorem dX5_clearText_11 : decode cX5_clearText 11 = .ok (.ireturn, 1) := by decide +kernel
theorem dX5_undo_0 : decode cX5_undo 0 = .ok (.aload_n 0, 1) := by decide +kernel
theorem dX5_undo_1 : decode cX5_undo 1 = .ok (.getfield 100, 3) := by decide +kernel
theorem dX5_undo_4 : decode cX5_undo 4 = .ok (.iconst 1, 1) := by decide +kernel
theorem dX5_undo_5 : decode cX5_undo 5 = .ok (.isub, 1) := by decide +kernel
theorem dX5_undo_6 : decode cX5_undo 6 = .ok (.istore_n 1, 1) := by decide +kernel
theorem dX5_undo_7 : decode cX5_undo 7 = .ok (.iload_n 1, 1) := by decide +kernel
theorem dX5_undo_8 : decode cX5_undo 8 = .ok (.ifCond .lt 12, 3) := by decide +kernel
theorem dX5_undo_11 : decode cX5_undo 11 = .ok (.iload_n 1, 1) := by decide +kernel
theorem dX5_undo_12 : decode cX5_undo 12 = .ok (.aload_n 0, 1) := by decide +kernel
theorem dX5_undo_13 : decode cX5_undo 13 = .ok (.getfield 22, 3) := by decide +kernel
theorem dX5_undo_16 : decode cX5_undo 16 = .ok (.arraylength, 1) := by decide +kernel
theorem dX5_undo_17 : decode cX5_undo 17 = .ok (.if_icmp .lt 6, 3) := by decide +kernel
theorem dX5_undo_20 : decode cX5_undo 20 = .ok (.bipush (-5), 2) := by decide +kernel
theorem dX5_undo_22 : decode cX5_undo 22 = .ok (.ireturn, 1) := by decide +kernel
theorem dX5_undo_23 : decode cX5_undo 23 = .ok (.aload_n 0, 1) := by decide +kernel
theorem dX5_undo_24 : decode cX5_undo 24 = .ok (.getfield 12, 3) := by decide +kernel
theorem dX5_undo_27 : decode cX5_undo 27 = .ok (.aload_n 0, 1) := by decide +kernel
theorem dX5_undo_28 : decode cX5_undo 28 = .ok (.getfield 22, 3) := by decide +kernel
theorem dX5_undo_31 : decode cX5_undo 31 = .ok (.iload_n 1, 1) := by decide +kernel
theorem dX5_undo_32 : decode cX5_undo 32 = .ok (.aaload, 1) := by decide +kernel
theorem dX5_undo_33 : decode cX5_undo 33 = .ok (.invokevirtual 103, 3) := by decide +kernel
theorem dX5_undo_36 : decode cX5_undo 36 = .ok (.aload_n 0, 1) := by decide +kernel
theorem dX5_undo_37 : decode cX5_undo 37 = .ok (.iload_n 1, 1) := by decide +kernel
theorem dX5_undo_38 : decode cX5_undo 38 = .ok (.putfield 100, 3) := by decide +kernel
theorem dX5_undo_41 : decode cX5_undo 41 = .ok (.aload_n 0, 1) := by decide +kernel
theorem dX5_undo_42 : decode cX5_undo 42 = .ok (.getfield 100, 3) := by decide +kernel
theorem dX5_undo_45 : decode cX5_undo 45 = .ok (.ireturn, 1) := by decide +kernel
theorem dX5_keep_0 : decode cX5_keep 0 = .ok (.aload_n 0, 1) := by decide +kernel
theorem dX5_keep_1 : decode cX5_keep 1 = .ok (.getfield 16, 3) := by decide +kernel
theorem dX5_keep_4 : decode cX5_keep 4 = .ok (.aload_n 0, 1) := by decide +kernel
theorem dX5_keep_5 : decode cX5_keep 5 = .ok (.getfield 12, 3) := by decide +kernel
theorem dX5_keep_8 : decode cX5_keep 8 = .ok (.invokevirtual 103, 3) := by decide +kernel
theorem dX5_keep_11 : decode cX5_keep 11 = .ok (.aload_n 0, 1) := by decide +kernel
theorem dX5_keep_12 : decode cX5_keep 12 = .ok (.iconst 1, 1) := by decide +kernel
theorem dX5_keep_13 : decode cX5_keep 13 = .ok (.putfield 107, 3) := by decide +kernel
theorem dX5_keep_16 : decode cX5_keep 16 = .ok (.aload_n 0, 1) := by decide +kernel
theorem dX5_keep_17 : decode cX5_keep 17 = .ok (.getfield 12, 3) := by decide +kernel
theorem dX5_keep_20 : decode cX5_keep 20 = .ok (.getfield 80, 3) := by decide +kernel
theorem dX5_keep_23 : decode cX5_keep 23 = .ok (.ireturn, 1) := by decide +kernel
theorem dX5_restore_0 : decode cX5_restore 0 = .ok (.aload_n 0, 1) := by decide +kernel
theorem dX5_restore_1 : decode cX5_restore 1 = .ok (.getfield 107, 3) := by decide +kernel
theorem dX5_restore_4 : decode cX5_restore 4 = .ok (.ifCond .ne 6, 3) := by decide +kernel
theorem dX5_restore_7 : decode cX5_restore 7 = .ok (.bipush (-5), 2) := by decide +kernel
theorem dX5_restore_9 : decode cX5_restore 9 = .ok (.ireturn, 1) := by decide +kernel
theorem dX5_restore_10 : decode cX5_restore 10 = .ok (.aload_n 0, 1) := by decide +kernel
theorem dX5_restore_11 : decode cX5_restore 11 = .ok (.invokevirtual 70, 3) := by decide +kernel
theorem dX5_restore_14 : decode cX5_restore 14 = .ok (.aload_n 0, 1) := by decide +kernel
theorem dX5_restore_15 : decode cX5_restore 15 = .ok (.getfield 12, 3) := by decide +kernel
theorem dX5_restore_18 : decode cX5_restore 18 = .ok (.aload_n 0, 1) := by decide +kernel
theorem dX5_restore_19 : decode cX5_restore 19 = .ok (.getfield 16, 3) := by decide +kernel
theorem dX5_restore_22 : decode cX5_restore 22 = .ok (.invokevirtual 103, 3) := by decide +kernel
theorem dX5_restore_25 : decode cX5_restore 25 = .ok (.aload_n 0, 1) := by decide +kernel
theorem dX5_restore_26 : decode cX5_restore 26 = .ok (.getfield 12, 3) := by decide +kernel
theorem dX5_restore_29 : decode cX5_restore 29 = .ok (.getfield 80, 3) := by decide +kernel
theorem dX5_restore_32 : decode cX5_restore 32 = .ok (.ireturn, 1) := by decide +kernel
theorem dX5_time_0 : decode cX5_time 0 = .ok (.iload_n 1, 1) := by decide +kernel
theorem dX5_time_1 : decode cX5_time 1 = .ok (.invokestatic 37, 3) := by decide +kernel
theorem dX5_time_4 : decode cX5_time 4 = .ok (.ifCond .eq 10, 3) := by decide +kernel
theorem dX5_time_7 : decode cX5_time 7 = .ok (.iload_n 2, 1) := by decide +kernel
theorem dX5_time_8 : decode cX5_time 8 = .ok (.invokestatic 37, 3) := by decide +kernel
theorem dX5_time_11 : decode cX5_time 11 = .ok (.ifCond .ne 5, 3) := by decide +kernel
theorem dX5_time_14 : decode cX5_time 14 = .ok (.iconst (-1), 1) := by decide +kernel
theorem dX5_time_15 : decode cX5_time 15 = .ok (.ireturn, 1) := by decide +kernel
theorem dX5_time_16 : decode cX5_time 16 = .ok (.aload_n 0, 1) := by decide +kernel
theorem dX5_time_17 : decode cX5_time 17 = .ok (.getfield 12, 3) := by decide +kernel
theorem dX5_time_20 : decode cX5_time 20 = .ok (.iload_n 1, 1) := by decide +kernel
theorem dX5_time_21 : decode cX5_time 21 = .ok (.iload_n 2, 1) := by decide +kernel
theorem dX5_time_22 : decode cX5_time 22 = .ok (.invokevirtual 110, 3) := by decide +kernel
theorem dX5_time_25 : decode cX5_time 25 = .ok (.ireturn, 1) := by decide +kernel
theorem dX5_bankTime_0 : decode cX5_bankTime 0 = .ok (.iload_n 1, 1) := by decide +kernel
theorem dX5_bankTime_1 : decode cX5_bankTime 1 = .ok (.invokestatic 37, 3) := by decide +kernel
theorem dX5_bankTime_4 : decode cX5_bankTime 4 = .ok (.ifCond .eq 16, 3) := by decide +kernel
theorem dX5_bankTime_7 : decode cX5_bankTime 7 = .ok (.aload_n 0, 1) := by decide +kernel
theorem dX5_bankTime_8 : decode cX5_bankTime 8 = .ok (.getfield 12, 3) := by decide +kernel
theorem dX5_bankTime_11 : decode cX5_bankTime 11 = .ok (.iload_n 1, 1) := by decide +kernel
theorem dX5_bankTime_12 : decode cX5_bankTime 12 = .ok (.bipush 6, 2) := by decide +kernel
theorem dX5_bankTime_14 : decode cX5_bankTime 14 = .ok (.invokevirtual 110, 3) := by decide +kernel
theorem dX5_bankTime_17 : decode cX5_bankTime 17 = .ok (.goto 4, 3) := by decide +kernel
theorem dX5_bankTime_20 : decode cX5_bankTime 20 = .ok (.iconst (-1), 1) := by decide +kernel
theorem dX5_bankTime_21 : decode cX5_bankTime 21 = .ok (.ireturn, 1) := by decide +kernel
theorem dX5_house_0 : decode cX5_house 0 = .ok (.iload_n 1, 1) := by decide +kernel
theorem dX5_house_1 : decode cX5_house 1 = .ok (.invokestatic 37, 3) := by decide +kernel
theorem dX5_house_4 : decode cX5_house 4 = .ok (.ifCond .eq 19, 3) := by decide +kernel
theorem dX5_house_7 : decode cX5_house 7 = .ok (.aload_n 0, 1) := by decide +kernel
theorem dX5_house_8 : decode cX5_house 8 = .ok (.getfield 12, 3) := by decide +kernel
theorem dX5_house_11 : decode cX5_house 11 = .ok (.getfield 114, 3) := by decide +kernel
theorem dX5_house_14 : decode cX5_house 14 = .ok (.iload_n 1, 1) := by decide +kernel
theorem dX5_house_15 : decode cX5_house 15 = .ok (.aaload, 1) := by decide +kernel
theorem dX5_house_16 : decode cX5_house 16 = .ok (.iload_n 2, 1) := by decide +kernel
theorem dX5_house_17 : decode cX5_house 17 = .ok (.invokevirtual 118, 3) := by decide +kernel
theorem dX5_house_20 : decode cX5_house 20 = .ok (.goto 4, 3) := by decide +kernel
theorem dX5_house_23 : decode cX5_house 23 = .ok (.iconst (-1), 1) := by decide +kernel
theorem dX5_house_24 : decode cX5_house 24 = .ok (.ireturn, 1) := by decide +kernel
theorem dX5_waiting_0 : decode cX5_waiting 0 = .ok (.iload_n 1, 1) := by decide +kernel
theorem dX5_waiting_1 : decode cX5_waiting 1 = .ok (.invokestatic 37, 3) := by decide +kernel
theorem dX5_waiting_4 : decode cX5_waiting 4 = .ok (.ifCond .ne 5, 3) := by decide +kernel
theorem dX5_waiting_7 : decode cX5_waiting 7 = .ok (.iconst (-1), 1) := by decide +kernel
theorem dX5_waiting_8 : decode cX5_waiting 8 = .ok (.ireturn, 1) := by decide +kernel
theorem dX5_waiting_9 : decode cX5_waiting 9 = .ok (.iload_n 3, 1) := by decide +kernel
theorem dX5_waiting_10 : decode cX5_waiting 10 = .ok (.ifCond .lt 12, 3) := by decide +kernel
theorem dX5_waiting_13 : decode cX5_waiting 13 = .ok (.iload_n 3, 1) := by decide +kernel
theorem dX5_waiting_14 : decode cX5_waiting 14 = .ok (.iconst 3, 1) := by decide +kernel
theorem dX5_waiting_15 : decode cX5_waiting 15 = .ok (.if_icmp .gt 7, 3) := by decide +kernel
theorem dX5_waiting_18 : decode cX5_waiting 18 = .ok (.iload_n 2, 1) := by decide +kernel
theorem dX5_waiting_19 : decode cX5_waiting 19 = .ok (.ifCond .ge 6, 3) := by decide +kernel
theorem dX5_waiting_22 : decode cX5_waiting 22 = .ok (.bipush (-2), 2) := by decide +kernel
theorem dX5_waiting_24 : decode cX5_waiting 24 = .ok (.ireturn, 1) := by decide +kernel
theorem dX5_waiting_25 : decode cX5_waiting 25 = .ok (.aload_n 0, 1) := by decide +kernel
theorem dX5_waiting_26 : decode cX5_waiting 26 = .ok (.getfield 12, 3) := by decide +kernel
theorem dX5_waiting_29 : decode cX5_waiting 29 = .ok (.getfield 114, 3) := by decide +kernel
theorem dX5_waiting_32 : decode cX5_waiting 32 = .ok (.iload_n 1, 1) := by decide +kernel
theorem dX5_waiting_33 : decode cX5_waiting 33 = .ok (.aaload, 1) := by decide +kernel
theorem dX5_waiting_34 : decode cX5_waiting 34 = .ok (.iload_n 2, 1) := by decide +kernel
theorem dX5_waiting_35 : decode cX5_waiting 35 = .ok (.invokevirtual 123, 3) := by decide +kernel
theorem dX5_waiting_38 : decode cX5_waiting 38 = .ok (.astore 4, 2) := by decide +kernel
theorem dX5_waiting_40 : decode cX5_waiting 40 = .ok (.aload 4, 2) := by decide +kernel
theorem dX5_waiting_42 : decode cX5_waiting 42 = .ok (.ifnonnull 8, 3) := by decide +kernel
theorem dX5_waiting_45 : decode cX5_waiting 45 = .ok (.bipush (-5), 2) := by decide +kernel
theorem dX5_waiting_47 : decode cX5_waiting 47 = .ok (.goto 9, 3) := by decide +kernel
theorem dX5_waiting_50 : decode cX5_waiting 50 = .ok (.aload 4, 2) := by decide +kernel
theorem dX5_waiting_52 : decode cX5_waiting 52 = .ok (.iload_n 3, 1) := by decide +kernel
theorem dX5_waiting_53 : decode cX5_waiting 53 = .ok (.invokevirtual 127, 3) := by decide +kernel
theorem dX5_waiting_56 : decode cX5_waiting 56 = .ok (.ireturn, 1) := by decide +kernel
theorem dX5_message_0 : decode cX5_message 0 = .ok (.iload_n 2, 1) := by decide +kernel
theorem dX5_message_1 : decode cX5_message 1 = .ok (.ifCond .lt 13, 3) := by decide +kernel
theorem dX5_message_4 : decode cX5_message 4 = .ok (.iload_n 2, 1) := by decide +kernel
theorem dX5_message_5 : decode cX5_message 5 = .ok (.bipush 6, 2) := by decide +kernel
theorem dX5_message_7 : decode cX5_message 7 = .ok (.if_icmp .gt 7, 3) := by decide +kernel
theorem dX5_message_10 : decode cX5_message 10 = .ok (.iload_n 1, 1) := by decide +kernel
theorem dX5_message_11 : decode cX5_message 11 = .ok (.ifCond .ge 6, 3) := by decide +kernel
theorem dX5_message_14 : decode cX5_message 14 = .ok (.bipush (-2), 2) := by decide +kernel
theorem dX5_message_16 : decode cX5_message 16 = .ok (.ireturn, 1) := by decide +kernel
theorem dX5_message_17 : decode cX5_message 17 = .ok (.aload_n 0, 1) := by decide +kernel
theorem dX5_message_18 : decode cX5_message 18 = .ok (.getfield 12, 3) := by decide +kernel
theorem dX5_message_21 : decode cX5_message 21 = .ok (.iload_n 1, 1) := by decide +kernel
theorem dX5_message_22 : decode cX5_message 22 = .ok (.invokevirtual 87, 3) := by decide +kernel
theorem dX5_message_25 : decode cX5_message 25 = .ok (.ifCond .eq 26, 3) := by decide +kernel
theorem dX5_message_28 : decode cX5_message 28 = .ok (.aload_n 0, 1) := by decide +kernel
theorem dX5_message_29 : decode cX5_message 29 = .ok (.getfield 12, 3) := by decide +kernel
theorem dX5_message_32 : decode cX5_message 32 = .ok (.getfield 130, 3) := by decide +kernel
theorem dX5_message_35 : decode cX5_message 35 = .ok (.iload_n 1, 1) := by decide +kernel
theorem dX5_message_36 : decode cX5_message 36 = .ok (.aaload, 1) := by decide +kernel
theorem dX5_message_37 : decode cX5_message 37 = .ok (.iload_n 2, 1) := by decide +kernel
theorem dX5_message_38 : decode cX5_message 38 = .ok (.aload_n 0, 1) := by decide +kernel
theorem dX5_message_39 : decode cX5_message 39 = .ok (.getfield 12, 3) := by decide +kernel
theorem dX5_message_42 : decode cX5_message 42 = .ok (.getfield 80, 3) := by decide +kernel
theorem dX5_message_45 : decode cX5_message 45 = .ok (.invokevirtual 134, 3) := by decide +kernel
theorem dX5_message_48 : decode cX5_message 48 = .ok (.goto 5, 3) := by decide +kernel
theorem dX5_message_51 : decode cX5_message 51 = .ok (.bipush (-5), 2) := by decide +kernel
theorem dX5_message_53 : decode cX5_message 53 = .ok (.ireturn, 1) := by decide +kernel
theorem dX5_total_0 : decode cX5_total 0 = .ok (.iload_n 1, 1) := by decide +kernel
theorem dX5_total_1 : decode cX5_total 1 = .ok (.bipush 15, 2) := by decide +kernel
theorem dX5_total_3 : decode cX5_total 3 = .ok (.if_icmp .ne 8, 3) := by decide +kernel
theorem dX5_total_6 : decode cX5_total 6 = .ok (.aload_n 0, 1) := by decide +kernel
theorem dX5_total_7 : decode cX5_total 7 = .ok (.getfield 100, 3) := by decide +kernel
theorem dX5_total_10 : decode cX5_total 10 = .ok (.ireturn, 1) := by decide +kernel
theorem dX5_total_11 : decode cX5_total 11 = .ok (.iload_n 1, 1) := by decide +kernel
theorem dX5_total_12 : decode cX5_total 12 = .ok (.bipush 16, 2) := by decide +kernel
theorem dX5_total_14 : decode cX5_total 14 = .ok (.if_icmp .ne 10, 3) := by decide +kernel
theorem dX5_total_17 : decode cX5_total 17 = .ok (.aload_n 0, 1) := by decide +kernel
theorem dX5_total_18 : decode cX5_total 18 = .ok (.getfield 55, 3) := by decide +kernel
theorem dX5_total_21 : decode cX5_total 21 = .ok (.goto 11, 3) := by decide +kernel
theorem dX5_total_24 : decode cX5_total 24 = .ok (.aload_n 0, 1) := by decide +kernel
theorem dX5_total_25 : decode cX5_total 25 = .ok (.getfield 12, 3) := by decide +kernel
theorem dX5_total_28 : decode cX5_total 28 = .ok (.iload_n 1, 1) := by decide +kernel
theorem dX5_total_29 : decode cX5_total 29 = .ok (.invokevirtual 138, 3) := by decide +kernel
theorem dX5_total_32 : decode cX5_total 32 = .ok (.ireturn, 1) := by decide +kernel
theorem dX5_quietIn_0 : decode cX5_quietIn 0 = .ok (.aload_n 0, 1) := by decide +kernel
theorem dX5_quietIn_1 : decode cX5_quietIn 1 = .ok (.iconst 1, 1) := by decide +kernel
theorem dX5_quietIn_2 : decode cX5_quietIn 2 = .ok (.invokevirtual 139, 3) := by decide +kernel
theorem dX5_quietIn_5 : decode cX5_quietIn 5 = .ok (.ireturn, 1) := by decide +kernel
theorem dX5_idleIn_0 : decode cX5_idleIn 0 = .ok (.aload_n 0, 1) := by decide +kernel
theorem dX5_idleIn_1 : decode cX5_idleIn 1 = .ok (.iconst 0, 1) := by decide +kernel
theorem dX5_idleIn_2 : decode cX5_idleIn 2 = .ok (.invokevirtual 139, 3) := by decide +kernel
theorem dX5_idleIn_5 : decode cX5_idleIn 5 = .ok (.ireturn, 1) := by decide +kernel
theorem dX5_planned_0 : decode cX5_planned 0 = .ok (.iload_n 1, 1) := by decide +kernel
theorem dX5_planned_1 : decode cX5_planned 1 = .ok (.ifCond .lt 8, 3) := by decide +kernel
theorem dX5_planned_4 : decode cX5_planned 4 = .ok (.iload_n 1, 1) := by decide +kernel
theorem dX5_planned_5 : decode cX5_planned 5 = .ok (.iconst 3, 1) := by decide +kernel
theorem dX5_planned_6 : decode cX5_planned 6 = .ok (.if_icmp .le 6, 3) := by decide +kernel
theorem dX5_planned_9 : decode cX5_planned 9 = .ok (.bipush (-2), 2) := by decide +kernel
theorem dX5_planned_11 : decode cX5_planned 11 = .ok (.ireturn, 1) := by decide +kernel
theorem dX5_planned_12 : decode cX5_planned 12 = .ok (.aload_n 0, 1) := by decide +kernel
theorem dX5_planned_13 : decode cX5_planned 13 = .ok (.getfield 33, 3) := by decide +kernel
theorem dX5_planned_16 : decode cX5_planned 16 = .ok (.aload_n 0, 1) := by decide +kernel
theorem dX5_planned_17 : decode cX5_planned 17 = .ok (.getfield 26, 3) := by decide +kernel
theorem dX5_planned_20 : decode cX5_planned 20 = .ok (.aload_n 0, 1) := by decide +kernel
theorem dX5_planned_21 : decode cX5_planned 21 = .ok (.getfield 55, 3) := by decide +kernel
theorem dX5_planned_24 : decode cX5_planned 24 = .ok (.invokevirtual 59, 3) := by decide +kernel
theorem dX5_planned_27 : decode cX5_planned 27 = .ok (.istore_n 2, 1) := by decide +kernel
theorem dX5_planned_28 : decode cX5_planned 28 = .ok (.iload_n 2, 1) := by decide +kernel
theorem dX5_planned_29 : decode cX5_planned 29 = .ok (.iconst (-1), 1) := by decide +kernel
theorem dX5_planned_30 : decode cX5_planned 30 = .ok (.if_icmp .ne 14, 3) := by decide +kernel
theorem dX5_planned_33 : decode cX5_planned 33 = .ok (.aload_n 0, 1) := by decide +kernel
theorem dX5_planned_34 : decode cX5_planned 34 = .ok (.getfield 33, 3) := by decide +kernel
theorem dX5_planned_37 : decode cX5_planned 37 = .ok (.iload_n 1, 1) := by decide +kernel
theorem dX5_planned_38 : decode cX5_planned 38 = .ok (.invokevirtual 143, 3) := by decide +kernel
theorem dX5_planned_41 : decode cX5_planned 41 = .ok (.goto 7, 3) := by decide +kernel
theorem dX5_planned_44 : decode cX5_planned 44 = .ok (.bipush (-100), 2) := by decide +kernel
theorem dX5_planned_46 : decode cX5_planned 46 = .ok (.iload_n 2, 1) := by decide +kernel
theorem dX5_planned_47 : decode cX5_planned 47 = .ok (.isub, 1) := by decide +kernel
theorem dX5_planned_48 : decode cX5_planned 48 = .ok (.ireturn, 1) := by decide +kernel
theorem dX5_leastCoin_0 : decode cX5_leastCoin 0 = .ok (.aload_n 0, 1) := by decide +kernel
theorem dX5_leastCoin_1 : decode cX5_leastCoin 1 = .ok (.getfield 33, 3) := by decide +kernel
theorem dX5_leastCoin_4 : decode cX5_leastCoin 4 = .ok (.aload_n 0, 1) := by decide +kernel
theorem dX5_leastCoin_5 : decode cX5_leastCoin 5 = .ok (.getfield 26, 3) := by decide +kernel
theorem dX5_leastCoin_8 : decode cX5_leastCoin 8 = .ok (.aload_n 0, 1) := by decide +kernel
theorem dX5_leastCoin_9 : decode cX5_leastCoin 9 = .ok (.getfield 55, 3) := by decide +kernel
theorem dX5_leastCoin_12 : decode cX5_leastCoin 12 = .ok (.invokevirtual 59, 3) := by decide +kernel
theorem dX5_leastCoin_15 : decode cX5_leastCoin 15 = .ok (.istore_n 1, 1) := by decide +kernel
theorem dX5_leastCoin_16 : decode cX5_leastCoin 16 = .ok (.iload_n 1, 1) := by decide +kernel
theorem dX5_leastCoin_17 : decode cX5_leastCoin 17 = .ok (.iconst (-1), 1) := by decide +kernel
theorem dX5_leastCoin_18 : decode cX5_leastCoin 18 = .ok (.if_icmp .eq 8, 3) := by decide +kernel
theorem dX5_leastCoin_21 : decode cX5_leastCoin 21 = .ok (.bipush (-100), 2) := by decide +kernel
theorem dX5_leastCoin_23 : decode cX5_leastCoin 23 = .ok (.iload_n 1, 1) := by decide +kernel
theorem dX5_leastCoin_24 : decode cX5_leastCoin 24 = .ok (.isub, 1) := by decide +kernel
theorem dX5_leastCoin_25 : decode cX5_leastCoin 25 = .ok (.ireturn, 1) := by decide +kernel
theorem dX5_leastCoin_26 : decode cX5_leastCoin 26 = .ok (.iconst 2, 1) := by decide +kernel
theorem dX5_leastCoin_27 : decode cX5_leastCoin 27 = .ok (.istore_n 2, 1) := by decide +kernel
theorem dX5_leastCoin_28 : decode cX5_leastCoin 28 = .ok (.iload_n 2, 1) := by decide +kernel
theorem dX5_leastCoin_29 : decode cX5_leastCoin 29 = .ok (.bipush 16, 2) := by decide +kernel
theorem dX5_leastCoin_31 : decode cX5_leastCoin 31 = .ok (.if_icmp .gt 19, 3) := by decide +kernel
theorem dX5_leastCoin_34 : decode cX5_leastCoin 34 = .ok (.aload_n 0, 1) := by decide +kernel
theorem dX5_leastCoin_35 : decode cX5_leastCoin 35 = .ok (.iload_n 2, 1) := by decide +kernel
theorem dX5_leastCoin_36 : decode cX5_leastCoin 36 = .ok (.invokevirtual 144, 3) := by decide +kernel
theorem dX5_leastCoin_39 : decode cX5_leastCoin 39 = .ok (.ifCond .ne 5, 3) := by decide +kernel
theorem dX5_leastCoin_42 : decode cX5_leastCoin 42 = .ok (.iload_n 2, 1) := by decide +kernel
theorem dX5_leastCoin_43 : decode cX5_leastCoin 43 = .ok (.ireturn, 1) := by decide +kernel
theorem dX5_leastCoin_44 : decode cX5_leastCoin 44 = .ok (.iinc 2 1, 3) := by decide +kernel
theorem dX5_leastCoin_47 : decode cX5_leastCoin 47 = .ok (.goto (-19), 3) := by decide +kernel
theorem dX5_leastCoin_50 : decode cX5_leastCoin 50 = .ok (.bipush (-5), 2) := by decide +kernel
theorem dX5_leastCoin_52 : decode cX5_leastCoin 52 = .ok (.ireturn, 1) := by decide +kernel
theorem dX5_isHouse_0 : decode cX5_isHouse 0 = .ok (.iload_n 0, 1) := by decide +kernel
theorem dX5_isHouse_1 : decode cX5_isHouse 1 = .ok (.ifCond .lt 13, 3) := by decide +kernel
theorem dX5_isHouse_4 : decode cX5_isHouse 4 = .ok (.iload_n 0, 1) := by decide +kernel
theorem dX5_isHouse_5 : decode cX5_isHouse 5 = .ok (.bipush 6, 2) := by decide +kernel
theorem dX5_isHouse_7 : decode cX5_isHouse 7 = .ok (.if_icmp .ge 7, 3) := by decide +kernel
theorem dX5_isHouse_10 : decode cX5_isHouse 10 = .ok (.iconst 1, 1) := by decide +kernel
theorem dX5_isHouse_11 : decode cX5_isHouse 11 = .ok (.goto 4, 3) := by decide +kernel
theorem dX5_isHouse_14 : decode cX5_isHouse 14 = .ok (.iconst 0, 1) := by decide +kernel
theorem dX5_isHouse_15 : decode cX5_isHouse 15 = .ok (.ireturn, 1) := by decide +kernel
theorem dX5_isWay_0 : decode cX5_isWay 0 = .ok (.iload_n 0, 1) := by decide +kernel
theorem dX5_isWay_1 : decode cX5_isWay 1 = .ok (.iconst 1, 1) := by decide +kernel
theorem dX5_isWay_2 : decode cX5_isWay 2 = .ok (.if_icmp .lt 13, 3) := by decide +kernel
theorem dX5_isWay_5 : decode cX5_isWay 5 = .ok (.iload_n 0, 1) := by decide +kernel
theorem dX5_isWay_6 : decode cX5_isWay 6 = .ok (.bipush 9, 2) := by decide +kernel
theorem dX5_isWay_8 : decode cX5_isWay 8 = .ok (.if_icmp .gt 7, 3) := by decide +kernel
theorem dX5_isWay_11 : decode cX5_isWay 11 = .ok (.iconst 1, 1) := by decide +kernel
theorem dX5_isWay_12 : decode cX5_isWay 12 = .ok (.goto 4, 3) := by decide +kernel
theorem dX5_isWay_15 : decode cX5_isWay 15 = .ok (.iconst 0, 1) := by decide +kernel
theorem dX5_isWay_16 : decode cX5_isWay 16 = .ok (.ireturn, 1) := by decide +kernel
theorem dX5_changeWay_0 : decode cX5_changeWay 0 = .ok (.aload_n 0, 1) := by decide +kernel
theorem dX5_changeWay_1 : decode cX5_changeWay 1 = .ok (.getfield 12, 3) := by decide +kernel
theorem dX5_changeWay_4 : decode cX5_changeWay 4 = .ok (.iload_n 1, 1) := by decide +kernel
theorem dX5_changeWay_5 : decode cX5_changeWay 5 = .ok (.iload_n 2, 1) := by decide +kernel
theorem dX5_changeWay_6 : decode cX5_changeWay 6 = .ok (.invokevirtual 110, 3) := by decide +kernel
theorem dX5_changeWay_9 : decode cX5_changeWay 9 = .ok (.istore 4, 2) := by decide +kernel
theorem dX5_changeWay_11 : decode cX5_changeWay 11 = .ok (.iload 4, 2) := by decide +kernel
theorem dX5_changeWay_13 : decode cX5_changeWay 13 = .ok (.iload_n 3, 1) := by decide +kernel
theorem dX5_changeWay_14 : decode cX5_changeWay 14 = .ok (.if_icmp .ne 6, 3) := by decide +kernel
theorem dX5_changeWay_17 : decode cX5_changeWay 17 = .ok (.bipush (-5), 2) := by decide +kernel
theorem dX5_changeWay_19 : decode cX5_changeWay 19 = .ok (.ireturn, 1) := by decide +kernel
theorem dX5_changeWay_20 : decode cX5_changeWay 20 = .ok (.aload_n 0, 1) := by decide +kernel
theorem dX5_changeWay_21 : decode cX5_changeWay 21 = .ok (.invokevirtual 70, 3) := by decide +kernel
theorem dX5_changeWay_24 : decode cX5_changeWay 24 = .ok (.aload_n 0, 1) := by decide +kernel
theorem dX5_changeWay_25 : decode cX5_changeWay 25 = .ok (.getfield 12, 3) := by decide +kernel
theorem dX5_changeWay_28 : decode cX5_changeWay 28 = .ok (.iload_n 1, 1) := by decide +kernel
theorem dX5_changeWay_29 : decode cX5_changeWay 29 = .ok (.iload_n 2, 1) := by decide +kernel
theorem dX5_changeWay_30 : decode cX5_changeWay 30 = .ok (.iload_n 3, 1) := by decide +kernel
theorem dX5_changeWay_31 : decode cX5_changeWay 31 = .ok (.invokevirtual 147, 3) := by decide +kernel
theorem dX5_changeWay_34 : decode cX5_changeWay 34 = .ok (.iload 4, 2) := by decide +kernel
theorem dX5_changeWay_36 : decode cX5_changeWay 36 = .ok (.ireturn, 1) := by decide +kernel
theorem dX5_changePower_0 : decode cX5_changePower 0 = .ok (.iload_n 1, 1) := by decide +kernel
theorem dX5_changePower_1 : decode cX5_changePower 1 = .ok (.iconst 2, 1) := by decide +kernel
theorem dX5_changePower_2 : decode cX5_changePower 2 = .ok (.if_icmp .lt 9, 3) := by decide +kernel
theorem dX5_changePower_5 : decode cX5_changePower 5 = .ok (.iload_n 1, 1) := by decide +kernel
theorem dX5_changePower_6 : decode cX5_changePower 6 = .ok (.bipush 16, 2) := by decide +kernel
theorem dX5_changePower_8 : decode cX5_changePower 8 = .ok (.if_icmp .le 6, 3) := by decide +kernel
theorem dX5_changePower_11 : decode cX5_changePower 11 = .ok (.bipush (-2), 2) := by decide +kernel
theorem dX5_changePower_13 : decode cX5_changePower 13 = .ok (.ireturn, 1) := by decide +kernel
theorem dX5_changePower_14 : decode cX5_changePower 14 = .ok (.aload_n 0, 1) := by decide +kernel
theorem dX5_changePower_15 : decode cX5_changePower 15 = .ok (.getfield 12, 3) := by decide +kernel
theorem dX5_changePower_18 : decode cX5_changePower 18 = .ok (.getfield 151, 3) := by decide +kernel
theorem dX5_changePower_21 : decode cX5_changePower 21 = .ok (.istore_n 2, 1) := by decide +kernel
theorem dX5_changePower_22 : decode cX5_changePower 22 = .ok (.iload_n 2, 1) := by decide +kernel
theorem dX5_changePower_23 : decode cX5_changePower 23 = .ok (.iload_n 1, 1) := by decide +kernel
theorem dX5_changePower_24 : decode cX5_changePower 24 = .ok (.if_icmp .ne 6, 3) := by decide +kernel
theorem dX5_changePower_27 : decode cX5_changePower 27 = .ok (.bipush (-5), 2) := by decide +kernel
theorem dX5_changePower_29 : decode cX5_changePower 29 = .ok (.ireturn, 1) := by decide +kernel
theorem dX5_changePower_30 : decode cX5_changePower 30 = .ok (.aload_n 0, 1) := by decide +kernel
theorem dX5_changePower_31 : decode cX5_changePower 31 = .ok (.invokevirtual 70, 3) := by decide +kernel
theorem dX5_changePower_34 : decode cX5_changePower 34 = .ok (.aload_n 0, 1) := by decide +kernel
theorem dX5_changePower_35 : decode cX5_changePower 35 = .ok (.getfield 12, 3) := by decide +kernel
theorem dX5_changePower_38 : decode cX5_changePower 38 = .ok (.iload_n 1, 1) := by decide +kernel
theorem dX5_changePower_39 : decode cX5_changePower 39 = .ok (.putfield 151, 3) := by decide +kernel
theorem dX5_changePower_42 : decode cX5_changePower 42 = .ok (.iload_n 2, 1) := by decide +kernel
theorem dX5_changePower_43 : decode cX5_changePower 43 = .ok (.ireturn, 1) := by decide +kernel
theorem dX5_changeLeastPart_0 : decode cX5_changeLeastPart 0 = .ok (.iload_n 1, 1) := by decide +kernel
theorem dX5_changeLeastPart_1 : decode cX5_changeLeastPart 1 = .ok (.iconst 1, 1) := by decide +kernel
theorem dX5_changeLeastPart_2 : decode cX5_changeLeastPart 2 = .ok (.if_icmp .lt 9, 3) := by decide +kernel
theorem dX5_changeLeastPart_5 : decode cX5_changeLeastPart 5 = .ok (.iload_n 1, 1) := by decide +kernel
theorem dX5_changeLeastPart_6 : decode cX5_changeLeastPart 6 = .ok (.bipush 99, 2) := by decide +kernel
theorem dX5_changeLeastPart_8 : decode cX5_changeLeastPart 8 = .ok (.if_icmp .le 6, 3) := by decide +kernel
theorem dX5_changeLeastPart_11 : decode cX5_changeLeastPart 11 = .ok (.bipush (-2), 2) := by decide +kernel
theorem dX5_changeLeastPart_13 : decode cX5_changeLeastPart 13 = .ok (.ireturn, 1) := by decide +kernel
theorem dX5_changeLeastPart_14 : decode cX5_changeLeastPart 14 = .ok (.aload_n 0, 1) := by decide +kernel
theorem dX5_changeLeastPart_15 : decode cX5_changeLeastPart 15 = .ok (.getfield 12, 3) := by decide +kernel
theorem dX5_changeLeastPart_18 : decode cX5_changeLeastPart 18 = .ok (.getfield 154, 3) := by decide +kernel
theorem dX5_changeLeastPart_21 : decode cX5_changeLeastPart 21 = .ok (.istore_n 2, 1) := by decide +kernel
theorem dX5_changeLeastPart_22 : decode cX5_changeLeastPart 22 = .ok (.iload_n 2, 1) := by decide +kernel
theorem dX5_changeLeastPart_23 : decode cX5_changeLeastPart 23 = .ok (.iload_n 1, 1) := by decide +kernel
theorem dX5_changeLeastPart_24 : decode cX5_changeLeastPart 24 = .ok (.if_icmp .ne 6, 3) := by decide +kernel
theorem dX5_changeLeastPart_27 : decode cX5_changeLeastPart 27 = .ok (.bipush (-5), 2) := by decide +kernel
theorem dX5_changeLeastPart_29 : decode cX5_changeLeastPart 29 = .ok (.ireturn, 1) := by decide +kernel
theorem dX5_changeLeastPart_30 : decode cX5_changeLeastPart 30 = .ok (.aload_n 0, 1) := by decide +kernel
theorem dX5_changeLeastPart_31 : decode cX5_changeLeastPart 31 = .ok (.invokevirtual 70, 3) := by decide +kernel
theorem dX5_changeLeastPart_34 : decode cX5_changeLeastPart 34 = .ok (.aload_n 0, 1) := by decide +kernel
theorem dX5_changeLeastPart_35 : decode cX5_changeLeastPart 35 = .ok (.getfield 12, 3) := by decide +kernel
theorem dX5_changeLeastPart_38 : decode cX5_changeLeastPart 38 = .ok (.iload_n 1, 1) := by decide +kernel
theorem dX5_changeLeastPart_39 : decode cX5_changeLeastPart 39 = .ok (.putfield 154, 3) := by decide +kernel
theorem dX5_changeLeastPart_42 : decode cX5_changeLeastPart 42 = .ok (.iload_n 2, 1) := by decide +kernel
theorem dX5_changeLeastPart_43 : decode cX5_changeLeastPart 43 = .ok (.ireturn, 1) := by decide +kernel
theorem dX5_record_0 : decode cX5_record 0 = .ok (.aload_n 0, 1) := by decide +kernel
theorem dX5_record_1 : decode cX5_record 1 = .ok (.getfield 100, 3) := by decide +kernel
theorem dX5_record_4 : decode cX5_record 4 = .ok (.aload_n 0, 1) := by decide +kernel
theorem dX5_record_5 : decode cX5_record 5 = .ok (.getfield 22, 3) := by decide +kernel
theorem dX5_record_8 : decode cX5_record 8 = .ok (.arraylength, 1) := by decide +kernel
theorem dX5_record_9 : decode cX5_record 9 = .ok (.if_icmp .lt 67, 3) := by decide +kernel
theorem dX5_record_12 : decode cX5_record 12 = .ok (.aload_n 0, 1) := by decide +kernel
theorem dX5_record_13 : decode cX5_record 13 = .ok (.getfield 22, 3) := by decide +kernel
theorem dX5_record_16 : decode cX5_record 16 = .ok (.iconst 0, 1) := by decide +kernel
theorem dX5_record_17 : decode cX5_record 17 = .ok (.aaload, 1) := by decide +kernel
theorem dX5_record_18 : decode cX5_record 18 = .ok (.astore_n 1, 1) := by decide +kernel
theorem dX5_record_19 : decode cX5_record 19 = .ok (.iconst 0, 1) := by decide +kernel
theorem dX5_record_20 : decode cX5_record 20 = .ok (.istore_n 2, 1) := by decide +kernel
theorem dX5_record_21 : decode cX5_record 21 = .ok (.iload_n 2, 1) := by decide +kernel
theorem dX5_record_22 : decode cX5_record 22 = .ok (.iconst 1, 1) := by decide +kernel
theorem dX5_record_23 : decode cX5_record 23 = .ok (.iadd, 1) := by decide +kernel
theorem dX5_record_24 : decode cX5_record 24 = .ok (.aload_n 0, 1) := by decide +kernel
theorem dX5_record_25 : decode cX5_record 25 = .ok (.getfield 22, 3) := by decide +kernel
theorem dX5_record_28 : decode cX5_record 28 = .ok (.arraylength, 1) := by decide +kernel
theorem dX5_record_29 : decode cX5_record 29 = .ok (.if_icmp .ge 23, 3) := by decide +kernel
theorem dX5_record_32 : decode cX5_record 32 = .ok (.aload_n 0, 1) := by decide +kernel
theorem dX5_record_33 : decode cX5_record 33 = .ok (.getfield 22, 3) := by decide +kernel
theorem dX5_record_36 : decode cX5_record 36 = .ok (.iload_n 2, 1) := by decide +kernel
theorem dX5_record_37 : decode cX5_record 37 = .ok (.aload_n 0, 1) := by decide +kernel
theorem dX5_record_38 : decode cX5_record 38 = .ok (.getfield 22, 3) := by decide +kernel
theorem dX5_record_41 : decode cX5_record 41 = .ok (.iload_n 2, 1) := by decide +kernel
theorem dX5_record_42 : decode cX5_record 42 = .ok (.iconst 1, 1) := by decide +kernel
theorem dX5_record_43 : decode cX5_record 43 = .ok (.iadd, 1) := by decide +kernel
theorem dX5_record_44 : decode cX5_record 44 = .ok (.aaload, 1) := by decide +kernel
theorem dX5_record_45 : decode cX5_record 45 = .ok (.aastore, 1) := by decide +kernel
theorem dX5_record_46 : decode cX5_record 46 = .ok (.iinc 2 1, 3) := by decide +kernel
theorem dX5_record_49 : decode cX5_record 49 = .ok (.goto (-28), 3) := by decide +kernel
theorem dX5_record_52 : decode cX5_record 52 = .ok (.aload_n 0, 1) := by decide +kernel
theorem dX5_record_53 : decode cX5_record 53 = .ok (.getfield 22, 3) := by decide +kernel
theorem dX5_record_56 : decode cX5_record 56 = .ok (.aload_n 0, 1) := by decide +kernel
theorem dX5_record_57 : decode cX5_record 57 = .ok (.getfield 22, 3) := by decide +kernel
theorem dX5_record_60 : decode cX5_record 60 = .ok (.arraylength, 1) := by decide +kernel
theorem dX5_record_61 : decode cX5_record 61 = .ok (.iconst 1, 1) := by decide +kernel
theorem dX5_record_62 : decode cX5_record 62 = .ok (.isub, 1) := by decide +kernel
theorem dX5_record_63 : decode cX5_record 63 = .ok (.aload_n 1, 1) := by decide +kernel
theorem dX5_record_64 : decode cX5_record 64 = .ok (.aastore, 1) := by decide +kernel
theorem dX5_record_65 : decode cX5_record 65 = .ok (.aload_n 0, 1) := by decide +kernel
theorem dX5_record_66 : decode cX5_record 66 = .ok (.aload_n 0, 1) := by decide +kernel
theorem dX5_record_67 : decode cX5_record 67 = .ok (.getfield 22, 3) := by decide +kernel
theorem dX5_record_70 : decode cX5_record 70 = .ok (.arraylength, 1) := by decide +kernel
theorem dX5_record_71 : decode cX5_record 71 = .ok (.iconst 1, 1) := by decide +kernel
theorem dX5_record_72 : decode cX5_record 72 = .ok (.isub, 1) := by decide +kernel
theorem dX5_record_73 : decode cX5_record 73 = .ok (.putfield 100, 3) := by decide +kernel
theorem dX5_record_76 : decode cX5_record 76 = .ok (.aload_n 0, 1) := by decide +kernel
theorem dX5_record_77 : decode cX5_record 77 = .ok (.getfield 100, 3) := by decide +kernel
theorem dX5_record_80 : decode cX5_record 80 = .ok (.ifCond .lt 41, 3) := by decide +kernel
theorem dX5_record_83 : decode cX5_record 83 = .ok (.aload_n 0, 1) := by decide +kernel
theorem dX5_record_84 : decode cX5_record 84 = .ok (.getfield 100, 3) := by decide +kernel
theorem dX5_record_87 : decode cX5_record 87 = .ok (.aload_n 0, 1) := by decide +kernel
theorem dX5_record_88 : decode cX5_record 88 = .ok (.getfield 22, 3) := by decide +kernel
theorem dX5_record_91 : decode cX5_record 91 = .ok (.arraylength, 1) := by decide +kernel
theorem dX5_record_92 : decode cX5_record 92 = .ok (.if_icmp .ge 29, 3) := by decide +kernel
theorem dX5_record_95 : decode cX5_record 95 = .ok (.aload_n 0, 1) := by decide +kernel
theorem dX5_record_96 : decode cX5_record 96 = .ok (.getfield 22, 3) := by decide +kernel
theorem dX5_record_99 : decode cX5_record 99 = .ok (.aload_n 0, 1) := by decide +kernel
theorem dX5_record_100 : decode cX5_record 100 = .ok (.getfield 100, 3) := by decide +kernel
theorem dX5_record_103 : decode cX5_record 103 = .ok (.aaload, 1) := by decide +kernel
theorem dX5_record_104 : decode cX5_record 104 = .ok (.aload_n 0, 1) := by decide +kernel
theorem dX5_record_105 : decode cX5_record 105 = .ok (.getfield 12, 3) := by decide +kernel
theorem dX5_record_108 : decode cX5_record 108 = .ok (.invokevirtual 103, 3) := by decide +kernel
theorem dX5_record_111 : decode cX5_record 111 = .ok (.aload_n 0, 1) := by decide +kernel
theorem dX5_record_112 : decode cX5_record 112 = .ok (.dup, 1) := by decide +kernel
theorem dX5_record_113 : decode cX5_record 113 = .ok (.getfield 100, 3) := by decide +kernel
theorem dX5_record_116 : decode cX5_record 116 = .ok (.iconst 1, 1) := by decide +kernel
theorem dX5_record_117 : decode cX5_record 117 = .ok (.iadd, 1) := by decide +kernel
theorem dX5_record_118 : decode cX5_record 118 = .ok (.putfield 100, 3) := by decide +kernel
theorem dX5_record_121 : decode cX5_record 121 = .ok (.return_, 1) := by decide +kernel
theorem dX5_ticksUntil_0 : decode cX5_ticksUntil 0 = .ok (.aload_n 0, 1) := by decide +kernel
theorem dX5_ticksUntil_1 : decode cX5_ticksUntil 1 = .ok (.getfield 19, 3) := by decide +kernel
theorem dX5_ticksUntil_4 : decode cX5_ticksUntil 4 = .ok (.aload_n 0, 1) := by decide +kernel
theorem dX5_ticksUntil_5 : decode cX5_ticksUntil 5 = .ok (.getfield 12, 3) := by decide +kernel
theorem dX5_ticksUntil_8 : decode cX5_ticksUntil 8 = .ok (.invokevirtual 103, 3) := by decide +kernel
theorem dX5_ticksUntil_11 : decode cX5_ticksUntil 11 = .ok (.iconst 0, 1) := by decide +kernel
theorem dX5_ticksUntil_12 : decode cX5_ticksUntil 12 = .ok (.istore_n 2, 1) := by decide +kernel
theorem dX5_ticksUntil_13 : decode cX5_ticksUntil 13 = .ok (.iload_n 2, 1) := by decide +kernel
theorem dX5_ticksUntil_14 : decode cX5_ticksUntil 14 = .ok (.sipush 500, 3) := by decide +kernel
theorem dX5_ticksUntil_17 : decode cX5_ticksUntil 17 = .ok (.if_icmp .gt 58, 3) := by decide +kernel
theorem dX5_ticksUntil_20 : decode cX5_ticksUntil 20 = .ok (.iload_n 1, 1) := by decide +kernel
theorem dX5_ticksUntil_21 : decode cX5_ticksUntil 21 = .ok (.ifCond .eq 16, 3) := by decide +kernel
theorem dX5_ticksUntil_24 : decode cX5_ticksUntil 24 = .ok (.aload_n 0, 1) := by decide +kernel
theorem dX5_ticksUntil_25 : decode cX5_ticksUntil 25 = .ok (.getfield 19, 3) := by decide +kernel
theorem dX5_ticksUntil_28 : decode cX5_ticksUntil 28 = .ok (.invokevirtual 157, 3) := by decide +kernel
theorem dX5_ticksUntil_31 : decode cX5_ticksUntil 31 = .ok (.ifCond .eq 18, 3) := by decide +kernel
theorem dX5_ticksUntil_34 : decode cX5_ticksUntil 34 = .ok (.goto 13, 3) := by decide +kernel
theorem dX5_ticksUntil_37 : decode cX5_ticksUntil 37 = .ok (.aload_n 0, 1) := by decide +kernel
theorem dX5_ticksUntil_38 : decode cX5_ticksUntil 38 = .ok (.getfield 19, 3) := by decide +kernel
theorem dX5_ticksUntil_41 : decode cX5_ticksUntil 41 = .ok (.invokevirtual 161, 3) := by decide +kernel
theorem dX5_ticksUntil_44 : decode cX5_ticksUntil 44 = .ok (.ifCond .eq 5, 3) := by decide +kernel
theorem dX5_ticksUntil_47 : decode cX5_ticksUntil 47 = .ok (.iload_n 2, 1) := by decide +kernel
theorem dX5_ticksUntil_48 : decode cX5_ticksUntil 48 = .ok (.ireturn, 1) := by decide +kernel
theorem dX5_ticksUntil_49 : decode cX5_ticksUntil 49 = .ok (.aload_n 0, 1) := by decide +kernel
theorem dX5_ticksUntil_50 : decode cX5_ticksUntil 50 = .ok (.getfield 19, 3) := by decide +kernel
theorem dX5_ticksUntil_53 : decode cX5_ticksUntil 53 = .ok (.invokevirtual 164, 3) := by decide +kernel
theorem dX5_ticksUntil_56 : decode cX5_ticksUntil 56 = .ok (.ifCond .eq 6, 3) := by decide +kernel
theorem dX5_ticksUntil_59 : decode cX5_ticksUntil 59 = .ok (.bipush (-5), 2) := by decide +kernel
theorem dX5_ticksUntil_61 : decode cX5_ticksUntil 61 = .ok (.ireturn, 1) := by decide +kernel
theorem dX5_ticksUntil_62 : decode cX5_ticksUntil 62 = .ok (.aload_n 0, 1) := by decide +kernel
theorem dX5_ticksUntil_63 : decode cX5_ticksUntil 63 = .ok (.getfield 19, 3) := by decide +kernel
theorem dX5_ticksUntil_66 : decode cX5_ticksUntil 66 = .ok (.invokevirtual 84, 3) := by decide +kernel
theorem dX5_ticksUntil_69 : decode cX5_ticksUntil 69 = .ok (.iinc 2 1, 3) := by decide +kernel
theorem dX5_ticksUntil_72 : decode cX5_ticksUntil 72 = .ok (.goto (-59), 3) := by decide +kernel
theorem dX5_ticksUntil_75 : decode cX5_ticksUntil 75 = .ok (.bipush (-5), 2) := by decide +kernel
theorem dX5_ticksUntil_77 : decode cX5_ticksUntil 77 = .ok (.ireturn, 1) := by decide +kernel
theorem dX5_wouldAskWith_0 : decode cX5_wouldAskWith 0 = .ok (.aload_n 0, 1) := by decide +kernel
theorem dX5_wouldAskWith_1 : decode cX5_wouldAskWith 1 = .ok (.getfield 19, 3) := by decide +kernel
theorem dX5_wouldAskWith_4 : decode cX5_wouldAskWith 4 = .ok (.aload_n 0, 1) := by decide +kernel
theorem dX5_wouldAskWith_5 : decode cX5_wouldAskWith 5 = .ok (.getfield 12, 3) := by decide +kernel
theorem dX5_wouldAskWith_8 : decode cX5_wouldAskWith 8 = .ok (.iload_n 1, 1) := by decide +kernel
theorem dX5_wouldAskWith_9 : decode cX5_wouldAskWith 9 = .ok (.invokevirtual 167, 3) := by decide +kernel
theorem dX5_wouldAskWith_12 : decode cX5_wouldAskWith 12 = .ok (.aload_n 0, 1) := by decide +kernel
theorem dX5_wouldAskWith_13 : decode cX5_wouldAskWith 13 = .ok (.getfield 19, 3) := by decide +kernel
theorem dX5_wouldAskWith_16 : decode cX5_wouldAskWith 16 = .ok (.aload_n 0, 1) := by decide +kernel
theorem dX5_wouldAskWith_17 : decode cX5_wouldAskWith 17 = .ok (.getfield 33, 3) := by decide +kernel
theorem dX5_wouldAskWith_20 : decode cX5_wouldAskWith 20 = .ok (.invokevirtual 73, 3) := by decide +kernel
theorem dX5_wouldAskWith_23 : decode cX5_wouldAskWith 23 = .ok (.iconst 0, 1) := by decide +kernel
theorem dX5_wouldAskWith_24 : decode cX5_wouldAskWith 24 = .ok (.istore_n 2, 1) := by decide +kernel
theorem dX5_wouldAskWith_25 : decode cX5_wouldAskWith 25 = .ok (.iload_n 2, 1) := by decide +kernel
theorem dX5_wouldAskWith_26 : decode cX5_wouldAskWith 26 = .ok (.sipush 500, 3) := by decide +kernel
theorem dX5_wouldAskWith_29 : decode cX5_wouldAskWith 29 = .ok (.if_icmp .ge 38, 3) := by decide +kernel
theorem dX5_wouldAskWith_32 : decode cX5_wouldAskWith 32 = .ok (.aload_n 0, 1) := by decide +kernel
theorem dX5_wouldAskWith_33 : decode cX5_wouldAskWith 33 = .ok (.getfield 19, 3) := by decide +kernel
theorem dX5_wouldAskWith_36 : decode cX5_wouldAskWith 36 = .ok (.invokevirtual 161, 3) := by decide +kernel
theorem dX5_wouldAskWith_39 : decode cX5_wouldAskWith 39 = .ok (.ifCond .ne 28, 3) := by decide +kernel
theorem dX5_wouldAskWith_42 : decode cX5_wouldAskWith 42 = .ok (.aload_n 0, 1) := by decide +kernel
theorem dX5_wouldAskWith_43 : decode cX5_wouldAskWith 43 = .ok (.getfield 19, 3) := by decide +kernel
theorem dX5_wouldAskWith_46 : decode cX5_wouldAskWith 46 = .ok (.invokevirtual 84, 3) := by decide +kernel
theorem dX5_wouldAskWith_49 : decode cX5_wouldAskWith 49 = .ok (.aload_n 0, 1) := by decide +kernel
theorem dX5_wouldAskWith_50 : decode cX5_wouldAskWith 50 = .ok (.getfield 19, 3) := by decide +kernel
theorem dX5_wouldAskWith_53 : decode cX5_wouldAskWith 53 = .ok (.invokevirtual 171, 3) := by decide +kernel
theorem dX5_wouldAskWith_56 : decode cX5_wouldAskWith 56 = .ok (.ifCond .eq 5, 3) := by decide +kernel
theorem dX5_wouldAskWith_59 : decode cX5_wouldAskWith 59 = .ok (.iconst 1, 1) := by decide +kernel
theorem dX5_wouldAskWith_60 : decode cX5_wouldAskWith 60 = .ok (.ireturn, 1) := by decide +kernel
theorem dX5_wouldAskWith_61 : decode cX5_wouldAskWith 61 = .ok (.iinc 2 1, 3) := by decide +kernel
theorem dX5_wouldAskWith_64 : decode cX5_wouldAskWith 64 = .ok (.goto (-39), 3) := by decide +kernel
theorem dX5_wouldAskWith_67 : decode cX5_wouldAskWith 67 = .ok (.iconst 0, 1) := by decide +kernel
theorem dX5_wouldAskWith_68 : decode cX5_wouldAskWith 68 = .ok (.ireturn, 1) := by decide +kernel
theorem dX6_init_0 : decode cX6_init 0 = .ok (.aload_n 0, 1) := by decide +kernel
theorem dX6_init_1 : decode cX6_init 1 = .ok (.invokespecial 1, 3) := by decide +kernel
theorem dX6_init_4 : decode cX6_init 4 = .ok (.aload_n 0, 1) := by decide +kernel
theorem dX6_init_5 : decode cX6_init 5 = .ok (.sipush 1372, 3) := by decide +kernel
theorem dX6_init_8 : decode cX6_init 8 = .ok (.newarray .int, 2) := by decide +kernel
theorem dX6_init_10 : decode cX6_init 10 = .ok (.putfield 7, 3) := by decide +kernel
theorem dX6_init_13 : decode cX6_init 13 = .ok (.aload_n 0, 1) := by decide +kernel
theorem dX6_init_14 : decode cX6_init 14 = .ok (.sipush 5488, 3) := by decide +kernel
theorem dX6_init_17 : decode cX6_init 17 = .ok (.newarray .int, 2) := by decide +kernel
theorem dX6_init_19 : decode cX6_init 19 = .ok (.putfield 13, 3) := by decide +kernel
theorem dX6_init_22 : decode cX6_init 22 = .ok (.aload_n 0, 1) := by decide +kernel
theorem dX6_init_23 : decode cX6_init 23 = .ok (.sipush 1372, 3) := by decide +kernel
theorem dX6_init_26 : decode cX6_init 26 = .ok (.newarray .int, 2) := by decide +kernel
theorem dX6_init_28 : decode cX6_init 28 = .ok (.putfield 16, 3) := by decide +kernel
theorem dX6_init_31 : decode cX6_init 31 = .ok (.aload_n 0, 1) := by decide +kernel
theorem dX6_init_32 : decode cX6_init 32 = .ok (.sipush 1372, 3) := by decide +kernel
theorem dX6_init_35 : decode cX6_init 35 = .ok (.newarray .int, 2) := by decide +kernel
theorem dX6_init_37 : decode cX6_init 37 = .ok (.putfield 19, 3) := by decide +kernel
theorem dX6_init_40 : decode cX6_init 40 = .ok (.aload_n 0, 1) := by decide +kernel
theorem dX6_init_41 : decode cX6_init 41 = .ok (.bipush 60, 2) := by decide +kernel
theorem dX6_init_43 : decode cX6_init 43 = .ok (.newarray .int, 2) := by decide +kernel
theorem dX6_init_45 : decode cX6_init 45 = .ok (.putfield 22, 3) := by decide +kernel
theorem dX6_init_48 : decode cX6_init 48 = .ok (.aload_n 0, 1) := by decide +kernel
theorem dX6_init_49 : decode cX6_init 49 = .ok (.bipush 48, 2) := by decide +kernel
theorem dX6_init_51 : decode cX6_init 51 = .ok (.newarray .int, 2) := by decide +kernel
theorem dX6_init_53 : decode cX6_init 53 = .ok (.putfield 25, 3) := by decide +kernel
theorem dX6_init_56 : decode cX6_init 56 = .ok (.aload_n 0, 1) := by decide +kernel
theorem dX6_init_57 : decode cX6_init 57 = .ok (.bipush 16, 2) := by decide +kernel
theorem dX6_init_59 : decode cX6_init 59 = .ok (.newarray .int, 2) := by decide +kernel
theorem dX6_init_61 : decode cX6_init 61 = .ok (.putfield 28, 3) := by decide +kernel
theorem dX6_init_64 : decode cX6_init 64 = .ok (.aload_n 0, 1) := by decide +kernel
theorem dX6_init_65 : decode cX6_init 65 = .ok (.getfield 7, 3) := by decide +kernel
theorem dX6_init_68 : decode cX6_init 68 = .ok (.bipush 8, 2) := by decide +kernel
theorem dX6_init_70 : decode cX6_init 70 = .ok (.bipush 8, 2) := by decide +kernel
theorem dX6_init_72 : decode cX6_init 72 = .ok (.iastore, 1) := by decide +kernel
theorem dX6_init_73 : decode cX6_init 73 = .ok (.aload_n 0, 1) := by decide +kernel
theorem dX6_init_74 : decode cX6_init 74 = .ok (.getfield 7, 3) := by decide +kernel
theorem dX6_init_77 : decode cX6_init 77 = .ok (.bipush 9, 2) := by decide +kernel
theorem dX6_init_79 : decode cX6_init 79 = .ok (.iconst 1, 1) := by decide +kernel
theorem dX6_init_80 : decode cX6_init 80 = .ok (.iastore, 1) := by decide +kernel
theorem dX6_init_81 : decode cX6_init 81 = .ok (.iconst 0, 1) := by decide +kernel
theorem dX6_init_82 : decode cX6_init 82 = .ok (.istore_n 1, 1) := by decide +kernel
theorem dX6_init_83 : decode cX6_init 83 = .ok (.iload_n 1, 1) := by decide +kernel
theorem dX6_init_84 : decode cX6_init 84 = .ok (.bipush 36, 2) := by decide +kernel
theorem dX6_init_86 : decode cX6_init 86 = .ok (.if_icmp .ge 34, 3) := by decide +kernel
theorem dX6_init_89 : decode cX6_init 89 = .ok (.aload_n 0, 1) := by decide +kernel
theorem dX6_init_90 : decode cX6_init 90 = .ok (.getfield 7, 3) := by decide +kernel
theorem dX6_init_93 : decode cX6_init 93 = .ok (.bipush 12, 2) := by decide +kernel
theorem dX6_init_95 : decode cX6_init 95 = .ok (.iload_n 1, 1) := by decide +kernel
theorem dX6_init_96 : decode cX6_init 96 = .ok (.iadd, 1) := by decide +kernel
theorem dX6_init_97 : decode cX6_init 97 = .ok (.iload_n 1, 1) := by decide +kernel
theorem dX6_init_98 : decode cX6_init 98 = .ok (.bipush 6, 2) := by decide +kernel
theorem dX6_init_100 : decode cX6_init 100 = .ok (.idiv, 1) := by decide +kernel
theorem dX6_init_101 : decode cX6_init 101 = .ok (.iload_n 1, 1) := by decide +kernel
theorem dX6_init_102 : decode cX6_init 102 = .ok (.bipush 6, 2) := by decide +kernel
theorem dX6_init_104 : decode cX6_init 104 = .ok (.irem, 1) := by decide +kernel
theorem dX6_init_105 : decode cX6_init 105 = .ok (.if_icmp .ne 7, 3) := by decide +kernel
theorem dX6_init_108 : decode cX6_init 108 = .ok (.iconst 1, 1) := by decide +kernel
theorem dX6_init_109 : decode cX6_init 109 = .ok (.goto 4, 3) := by decide +kernel
theorem dX6_init_112 : decode cX6_init 112 = .ok (.iconst 2, 1) := by decide +kernel
theorem dX6_init_113 : decode cX6_init 113 = .ok (.iastore, 1) := by decide +kernel
theorem dX6_init_114 : decode cX6_init 114 = .ok (.iinc 1 1, 3) := by decide +kernel
theorem dX6_init_117 : decode cX6_init 117 = .ok (.goto (-34), 3) := by decide +kernel
theorem dX6_init_120 : decode cX6_init 120 = .ok (.iconst 0, 1) := by decide +kernel
theorem dX6_init_121 : decode cX6_init 121 = .ok (.istore_n 1, 1) := by decide +kernel
theorem dX6_init_122 : decode cX6_init 122 = .ok (.iload_n 1, 1) := by decide +kernel
theorem dX6_init_123 : decode cX6_init 123 = .ok (.bipush 6, 2) := by decide +kernel
theorem dX6_init_125 : decode cX6_init 125 = .ok (.if_icmp .ge 19, 3) := by decide +kernel
theorem dX6_init_128 : decode cX6_init 128 = .ok (.aload_n 0, 1) := by decide +kernel
theorem dX6_init_129 : decode cX6_init 129 = .ok (.getfield 7, 3) := by decide +kernel
theorem dX6_init_132 : decode cX6_init 132 = .ok (.bipush 48, 2) := by decide +kernel
theorem dX6_init_134 : decode cX6_init 134 = .ok (.iload_n 1, 1) := by decide +kernel
theorem dX6_init_135 : decode cX6_init 135 = .ok (.iadd, 1) := by decide +kernel
theorem dX6_init_136 : decode cX6_init 136 = .ok (.iconst 3, 1) := by decide +kernel
theorem dX6_init_137 : decode cX6_init 137 = .ok (.iastore, 1) := by decide +kernel
theorem dX6_init_138 : decode cX6_init 138 = .ok (.iinc 1 1, 3) := by decide +kernel
theorem dX6_init_141 : decode cX6_init 141 = .ok (.goto (-19), 3) := by decide +kernel
theorem dX6_init_144 : decode cX6_init 144 = .ok (.return_, 1) := by decide +kernel
theorem dX6_in_0 : decode cX6_in 0 = .ok (.iload_n 0, 1) := by decide +kernel
theorem dX6_in_1 : decode cX6_in 1 = .ok (.iload_n 1, 1) := by decide +kernel
theorem dX6_in_2 : decode cX6_in 2 = .ok (.if_icmp .lt 12, 3) := by decide +kernel
theorem dX6_in_5 : decode cX6_in 5 = .ok (.iload_n 0, 1) := by decide +kernel
theorem dX6_in_6 : decode cX6_in 6 = .ok (.iload_n 2, 1) := by decide +kernel
theorem dX6_in_7 : decode cX6_in 7 = .ok (.if_icmp .gt 7, 3) := by decide +kernel
theorem dX6_in_10 : decode cX6_in 10 = .ok (.iconst 1, 1) := by decide +kernel
theorem dX6_in_11 : decode cX6_in 11 = .ok (.goto 4, 3) := by decide +kernel
theorem dX6_in_14 : decode cX6_in 14 = .ok (.iconst 0, 1) := by decide +kernel
theorem dX6_in_15 : decode cX6_in 15 = .ok (.ireturn, 1) := by decide +kernel
theorem dX6_isHouse_0 : decode cX6_isHouse 0 = .ok (.iload_n 0, 1) := by decide +kernel
theorem dX6_isHouse_1 : decode cX6_isHouse 1 = .ok (.iconst 0, 1) := by decide +kernel
theorem dX6_isHouse_2 : decode cX6_isHouse 2 = .ok (.iconst 5, 1) := by decide +kernel
theorem dX6_isHouse_3 : decode cX6_isHouse 3 = .ok (.invokestatic 31, 3) := by decide +kernel
theorem dX6_isHouse_6 : decode cX6_isHouse 6 = .ok (.ireturn, 1) := by decide +kernel
theorem dX6_copy_0 : decode cX6_copy 0 = .ok (.iconst 0, 1) := by decide +kernel
theorem dX6_copy_1 : decode cX6_copy 1 = .ok (.istore_n 2, 1) := by decide +kernel
theorem dX6_copy_2 : decode cX6_copy 2 = .ok (.iload_n 2, 1) := by decide +kernel
theorem dX6_copy_3 : decode cX6_copy 3 = .ok (.sipush 1372, 3) := by decide +kernel
theorem dX6_copy_6 : decode cX6_copy 6 = .ok (.if_icmp .ge 15, 3) := by decide +kernel
theorem dX6_copy_9 : decode cX6_copy 9 = .ok (.aload_n 1, 1) := by decide +kernel
theorem dX6_copy_10 : decode cX6_copy 10 = .ok (.iload_n 2, 1) := by decide +kernel
theorem dX6_copy_11 : decode cX6_copy 11 = .ok (.aload_n 0, 1) := by decide +kernel
theorem dX6_copy_12 : decode cX6_copy 12 = .ok (.iload_n 2, 1) := by decide +kernel
theorem dX6_copy_13 : decode cX6_copy 13 = .ok (.iaload, 1) := by decide +kernel
theorem dX6_copy_14 : decode cX6_copy 14 = .ok (.iastore, 1) := by decide +kernel
theorem dX6_copy_15 : decode cX6_copy 15 = .ok (.iinc 2 1, 3) := by decide +kernel
theorem dX6_copy_18 : decode cX6_copy 18 = .ok (.goto (-16), 3) := by decide +kernel
theorem dX6_copy_21 : decode cX6_copy 21 = .ok (.return_, 1) := by decide +kernel
theorem dX6_record_0 : decode cX6_record 0 = .ok (.aload_n 0, 1) := by decide +kernel
theorem dX6_record_1 : decode cX6_record 1 = .ok (.getfield 35, 3) := by decide +kernel
theorem dX6_record_4 : decode cX6_record 4 = .ok (.iconst 4, 1) := by decide +kernel
theorem dX6_record_5 : decode cX6_record 5 = .ok (.if_icmp .ne 44, 3) := by decide +kernel
theorem dX6_record_8 : decode cX6_record 8 = .ok (.iconst 0, 1) := by decide +kernel
theorem dX6_record_9 : decode cX6_record 9 = .ok (.istore_n 1, 1) := by decide +kernel
theorem dX6_record_10 : decode cX6_record 10 = .ok (.iload_n 1, 1) := by decide +kernel
theorem dX6_record_11 : decode cX6_record 11 = .ok (.sipush 4116, 3) := by decide +kernel
theorem dX6_record_14 : decode cX6_record 14 = .ok (.if_icmp .ge 25, 3) := by decide +kernel
theorem dX6_record_17 : decode cX6_record 17 = .ok (.aload_n 0, 1) := by decide +kernel
theorem dX6_record_18 : decode cX6_record 18 = .ok (.getfield 13, 3) := by decide +kernel
theorem dX6_record_21 : decode cX6_record 21 = .ok (.iload_n 1, 1) := by decide +kernel
theorem dX6_record_22 : decode cX6_record 22 = .ok (.aload_n 0, 1) := by decide +kernel
theorem dX6_record_23 : decode cX6_record 23 = .ok (.getfield 13, 3) := by decide +kernel
theorem dX6_record_26 : decode cX6_record 26 = .ok (.iload_n 1, 1) := by decide +kernel
theorem dX6_record_27 : decode cX6_record 27 = .ok (.sipush 1372, 3) := by decide +kernel
theorem dX6_record_30 : decode cX6_record 30 = .ok (.iadd, 1) := by decide +kernel
theorem dX6_record_31 : decode cX6_record 31 = .ok (.iaload, 1) := by decide +kernel
theorem dX6_record_32 : decode cX6_record 32 = .ok (.iastore, 1) := by decide +kernel
theorem dX6_record_33 : decode cX6_record 33 = .ok (.iinc 1 1, 3) := by decide +kernel
theorem dX6_record_36 : decode cX6_record 36 = .ok (.goto (-26), 3) := by decide +kernel
theorem dX6_record_39 : decode cX6_record 39 = .ok (.aload_n 0, 1) := by decide +kernel
theorem dX6_record_40 : decode cX6_record 40 = .ok (.dup, 1) := by decide +kernel
theorem dX6_record_41 : decode cX6_record 41 = .ok (.getfield 35, 3) := by decide +kernel
theorem dX6_record_44 : decode cX6_record 44 = .ok (.iconst 1, 1) := by decide +kernel
theorem dX6_record_45 : decode cX6_record 45 = .ok (.isub, 1) := by decide +kernel
theorem dX6_record_46 : decode cX6_record 46 = .ok (.putfield 35, 3) := by decide +kernel
theorem dX6_record_49 : decode cX6_record 49 = .ok (.iconst 0, 1) := by decide +kernel
theorem dX6_record_50 : decode cX6_record 50 = .ok (.istore_n 1, 1) := by decide +kernel
theorem dX6_record_51 : decode cX6_record 51 = .ok (.iload_n 1, 1) := by decide +kernel
theorem dX6_record_52 : decode cX6_record 52 = .ok (.sipush 1372, 3) := by decide +kernel
theorem dX6_record_55 : decode cX6_record 55 = .ok (.if_icmp .ge 30, 3) := by decide +kernel
theorem dX6_record_58 : decode cX6_record 58 = .ok (.aload_n 0, 1) := by decide +kernel
theorem dX6_record_59 : decode cX6_record 59 = .ok (.getfield 13, 3) := by decide +kernel
theorem dX6_record_62 : decode cX6_record 62 = .ok (.sipush 1372, 3) := by decide +kernel
theorem dX6_record_65 : decode cX6_record 65 = .ok (.aload_n 0, 1) := by decide +kernel
theorem dX6_record_66 : decode cX6_record 66 = .ok (.getfield 35, 3) := by decide +kernel
theorem dX6_record_69 : decode cX6_record 69 = .ok (.imul, 1) := by decide +kernel
theorem dX6_record_70 : decode cX6_record 70 = .ok (.iload_n 1, 1) := by decide +kernel
theorem dX6_record_71 : decode cX6_record 71 = .ok (.iadd, 1) := by decide +kernel
theorem dX6_record_72 : decode cX6_record 72 = .ok (.aload_n 0, 1) := by decide +kernel
theorem dX6_record_73 : decode cX6_record 73 = .ok (.getfield 7, 3) := by decide +kernel
theorem dX6_record_76 : decode cX6_record 76 = .ok (.iload_n 1, 1) := by decide +kernel
theorem dX6_record_77 : decode cX6_record 77 = .ok (.iaload, 1) := by decide +kernel
theorem dX6_record_78 : decode cX6_record 78 = .ok (.iastore, 1) := by decide +kernel
theorem dX6_record_79 : decode cX6_record 79 = .ok (.iinc 1 1, 3) := by decide +kernel
theorem dX6_record_82 : decode cX6_record 82 = .ok (.goto (-31), 3) := by decide +kernel
theorem dX6_record_85 : decode cX6_record 85 = .ok (.aload_n 0, 1) := by decide +kernel
theorem dX6_record_86 : decode cX6_record 86 = .ok (.dup, 1) := by decide +kernel
theorem dX6_record_87 : decode cX6_record 87 = .ok (.getfield 35, 3) := by decide +kernel
theorem dX6_record_90 : decode cX6_record 90 = .ok (.iconst 1, 1) := by decide +kernel
theorem dX6_record_91 : decode cX6_record 91 = .ok (.iadd, 1) := by decide +kernel
theorem dX6_record_92 : decode cX6_record 92 = .ok (.putfield 35, 3) := by decide +kernel
theorem dX6_record_95 : decode cX6_record 95 = .ok (.return_, 1) := by decide +kernel
theorem dX6_ofHouse_0 : decode cX6_ofHouse 0 = .ok (.aload_n 0, 1) := by decide +kernel
theorem dX6_ofHouse_1 : decode cX6_ofHouse 1 = .ok (.getfield 7, 3) := by decide +kernel
theorem dX6_ofHouse_4 : decode cX6_ofHouse 4 = .ok (.bipush 54, 2) := by decide +kernel
theorem dX6_ofHouse_6 : decode cX6_ofHouse 6 = .ok (.bipush 9, 2) := by decide +kernel
theorem dX6_ofHouse_8 : decode cX6_ofHouse 8 = .ok (.iload_n 1, 1) := by decide +kernel
theorem dX6_ofHouse_9 : decode cX6_ofHouse 9 = .ok (.imul, 1) := by decide +kernel
theorem dX6_ofHouse_10 : decode cX6_ofHouse 10 = .ok (.iadd, 1) := by decide +kernel
theorem dX6_ofHouse_11 : decode cX6_ofHouse 11 = .ok (.iload_n 2, 1) := by decide +kernel
theorem dX6_ofHouse_12 : decode cX6_ofHouse 12 = .ok (.iadd, 1) := by decide +kernel
theorem dX6_ofHouse_13 : decode cX6_ofHouse 13 = .ok (.iaload, 1) := by decide +kernel
theorem dX6_ofHouse_14 : decode cX6_ofHouse 14 = .ok (.ireturn, 1) := by decide +kernel
theorem dX6_setHouse_0 : decode cX6_setHouse 0 = .ok (.aload_n 0, 1) := by decide +kernel
theorem dX6_setHouse_1 : decode cX6_setHouse 1 = .ok (.getfield 7, 3) := by decide +kernel
theorem dX6_setHouse_4 : decode cX6_setHouse 4 = .ok (.bipush 54, 2) := by decide +kernel
theorem dX6_setHouse_6 : decode cX6_setHouse 6 = .ok (.bipush 9, 2) := by decide +kernel
theorem dX6_setHouse_8 : decode cX6_setHouse 8 = .ok (.iload_n 1, 1) := by decide +kernel
theorem dX6_setHouse_9 : decode cX6_setHouse 9 = .ok (.imul, 1) := by decide +kernel
theorem dX6_setHouse_10 : decode cX6_setHouse 10 = .ok (.iadd, 1) := by decide +kernel
theorem dX6_setHouse_11 : decode cX6_setHouse 11 = .ok (.iload_n 2, 1) := by decide +kernel
theorem dX6_setHouse_12 : decode cX6_setHouse 12 = .ok (.iadd, 1) := by decide +kernel
theorem dX6_setHouse_13 : decode cX6_setHouse 13 = .ok (.iload_n 3, 1) := by decide +kernel
theorem dX6_setHouse_14 : decode cX6_setHouse 14 = .ok (.iastore, 1) := by decide +kernel
theorem dX6_setHouse_15 : decode cX6_setHouse 15 = .ok (.return_, 1) := by decide +kernel
theorem dX6_addToHouse_0 : decode cX6_addToHouse 0 = .ok (.aload_n 0, 1) := by decide +kernel
theorem dX6_addToHouse_1 : decode cX6_addToHouse 1 = .ok (.getfield 7, 3) := by decide +kernel
theorem dX6_addToHouse_4 : decode cX6_addToHouse 4 = .ok (.bipush 54, 2) := by decide +kernel
theorem dX6_addToHouse_6 : decode cX6_addToHouse 6 = .ok (.bipush 9, 2) := by decide +kernel
theorem dX6_addToHouse_8 : decode cX6_addToHouse 8 = .ok (.iload_n 1, 1) := by decide +kernel
theorem dX6_addToHouse_9 : decode cX6_addToHouse 9 = .ok (.imul, 1) := by decide +kernel
theorem dX6_addToHouse_10 : decode cX6_addToHouse 10 = .ok (.iadd, 1) := by decide +kernel
theorem dX6_addToHouse_11 : decode cX6_addToHouse 11 = .ok (.iload_n 2, 1) := by decide +kernel
theorem dX6_addToHouse_12 : decode cX6_addToHouse 12 = .ok (.iadd, 1) := by decide +kernel
theorem dX6_addToHouse_13 : decode cX6_addToHouse 13 = .ok (.dup2, 1) := by decide +kernel
theorem dX6_addToHouse_14 : decode cX6_addToHouse 14 = .ok (.iaload, 1) := by decide +kernel
theorem dX6_addToHouse_15 : decode cX6_addToHouse 15 = .ok (.iload_n 3, 1) := by decide +kernel
theorem dX6_addToHouse_16 : decode cX6_addToHouse 16 = .ok (.iadd, 1) := by decide +kernel
theorem dX6_addToHouse_17 : decode cX6_addToHouse 17 = .ok (.iastore, 1) := by decide +kernel
theorem dX6_addToHouse_18 : decode cX6_addToHouse 18 = .ok (.return_, 1) := by decide +kernel
theorem dX6_ofErrand_0 : decode cX6_ofErrand 0 = .ok (.aload_n 0, 1) := by decide +kernel
theorem dX6_ofErrand_1 : decode cX6_ofErrand 1 = .ok (.getfield 7, 3) := by decide +kernel
theorem dX6_ofErrand_4 : decode cX6_ofErrand 4 = .ok (.bipush 108, 2) := by decide +kernel
theorem dX6_ofErrand_6 : decode cX6_ofErrand 6 = .ok (.iconst 5, 1) := by decide +kernel
theorem dX6_ofErrand_7 : decode cX6_ofErrand 7 = .ok (.iload_n 1, 1) := by decide +kernel
theorem dX6_ofErrand_8 : decode cX6_ofErrand 8 = .ok (.imul, 1) := by decide +kernel
theorem dX6_ofErrand_9 : decode cX6_ofErrand 9 = .ok (.iadd, 1) := by decide +kernel
theorem dX6_ofErrand_10 : decode cX6_ofErrand 10 = .ok (.iload_n 2, 1) := by decide +kernel
theorem dX6_ofErrand_11 : decode cX6_ofErrand 11 = .ok (.iadd, 1) := by decide +kernel
theorem dX6_ofErrand_12 : decode cX6_ofErrand 12 = .ok (.iaload, 1) := by decide +kernel
theorem dX6_ofErrand_13 : decode cX6_ofErrand 13 = .ok (.ireturn, 1) := by decide +kernel
theorem dX6_setErrand_0 : decode cX6_setErrand 0 = .ok (.aload_n 0, 1) := by decide +kernel
theorem dX6_setErrand_1 : decode cX6_setErrand 1 = .ok (.getfield 7, 3) := by decide +kernel
theorem dX6_setErrand_4 : decode cX6_setErrand 4 = .ok (.bipush 108, 2) := by decide +kernel
theorem dX6_setErrand_6 : decode cX6_setErrand 6 = .ok (.iconst 5, 1) := by decide +kernel
theorem dX6_setErrand_7 : decode cX6_setErrand 7 = .ok (.iload_n 1, 1) := by decide +kernel
theorem dX6_setErrand_8 : decode cX6_setErrand 8 = .ok (.imul, 1) := by decide +kernel
theorem dX6_setErrand_9 : decode cX6_setErrand 9 = .ok (.iadd, 1) := by decide +kernel
theorem dX6_setErrand_10 : decode cX6_setErrand 10 = .ok (.iload_n 2, 1) := by decide +kernel
theorem dX6_setErrand_11 : decode cX6_setErrand 11 = .ok (.iadd, 1) := by decide +kernel
theorem dX6_setErrand_12 : decode cX6_setErrand 12 = .ok (.iload_n 3, 1) := by decide +kernel
theorem dX6_setErrand_13 : decode cX6_setErrand 13 = .ok (.iastore, 1) := by decide +kernel
theorem dX6_setErrand_14 : decode cX6_setErrand 14 = .ok (.return_, 1) := by decide +kernel
theorem dX6_ofMessage_0 : decode cX6_ofMessage 0 = .ok (.aload_n 0, 1) := by decide +kernel
theorem dX6_ofMessage_1 : decode cX6_ofMessage 1 = .ok (.getfield 7, 3) := by decide +kernel
theorem dX6_ofMessage_4 : decode cX6_ofMessage 4 = .ok (.sipush 508, 3) := by decide +kernel
theorem dX6_ofMessage_7 : decode cX6_ofMessage 7 = .ok (.bipush 6, 2) := by decide +kernel
theorem dX6_ofMessage_9 : decode cX6_ofMessage 9 = .ok (.iload_n 1, 1) := by decide +kernel
theorem dX6_ofMessage_10 : decode cX6_ofMessage 10 = .ok (.imul, 1) := by decide +kernel
theorem dX6_ofMessage_11 : decode cX6_ofMessage 11 = .ok (.iadd, 1) := by decide +kernel
theorem dX6_ofMessage_12 : decode cX6_ofMessage 12 = .ok (.iload_n 2, 1) := by decide +kernel
theorem dX6_ofMessage_13 : decode cX6_ofMessage 13 = .ok (.iadd, 1) := by decide +kernel
theorem dX6_ofMessage_14 : decode cX6_ofMessage 14 = .ok (.iaload, 1) := by decide +kernel
theorem dX6_ofMessage_15 : decode cX6_ofMessage 15 = .ok (.ireturn, 1) := by decide +kernel
theorem dX6_first_0 : decode cX6_first 0 = .ok (.bipush (-5), 2) := by decide +kernel
theorem dX6_first_2 : decode cX6_first 2 = .ok (.istore_n 3, 1) := by decide +kernel
theorem dX6_first_3 : decode cX6_first 3 = .ok (.iconst 0, 1) := by decide +kernel
theorem dX6_first_4 : decode cX6_first 4 = .ok (.istore 4, 2) := by decide +kernel
theorem dX6_first_6 : decode cX6_first 6 = .ok (.iload 4, 2) := by decide +kernel
theorem dX6_first_8 : decode cX6_first 8 = .ok (.bipush 80, 2) := by decide +kernel
theorem dX6_first_10 : decode cX6_first 10 = .ok (.if_icmp .ge 72, 3) := by decide +kernel
theorem dX6_first_13 : decode cX6_first 13 = .ok (.aload_n 0, 1) := by decide +kernel
theorem dX6_first_14 : decode cX6_first 14 = .ok (.iload 4, 2) := by decide +kernel
theorem dX6_first_16 : decode cX6_first 16 = .ok (.iconst 4, 1) := by decide +kernel
theorem dX6_first_17 : decode cX6_first 17 = .ok (.invokevirtual 39, 3) := by decide +kernel
theorem dX6_first_20 : decode cX6_first 20 = .ok (.iload_n 1, 1) := by decide +kernel
theorem dX6_first_21 : decode cX6_first 21 = .ok (.if_icmp .ne 18, 3) := by decide +kernel
theorem dX6_first_24 : decode cX6_first 24 = .ok (.aload_n 0, 1) := by decide +kernel
theorem dX6_first_25 : decode cX6_first 25 = .ok (.iload 4, 2) := by decide +kernel
theorem dX6_first_27 : decode cX6_first 27 = .ok (.iconst 2, 1) := by decide +kernel
theorem dX6_first_28 : decode cX6_first 28 = .ok (.invokevirtual 39, 3) := by decide +kernel
theorem dX6_first_31 : decode cX6_first 31 = .ok (.iload_n 2, 1) := by decide +kernel
theorem dX6_first_32 : decode cX6_first 32 = .ok (.if_icmp .ne 7, 3) := by decide +kernel
theorem dX6_first_35 : decode cX6_first 35 = .ok (.iconst 1, 1) := by decide +kernel
theorem dX6_first_36 : decode cX6_first 36 = .ok (.goto 4, 3) := by decide +kernel
theorem dX6_first_39 : decode cX6_first 39 = .ok (.iconst 0, 1) := by decide +kernel
theorem dX6_first_40 : decode cX6_first 40 = .ok (.istore 5, 2) := by decide +kernel
theorem dX6_first_42 : decode cX6_first 42 = .ok (.iload 5, 2) := by decide +kernel
theorem dX6_first_44 : decode cX6_first 44 = .ok (.ifCond .eq 30, 3) := by decide +kernel
theorem dX6_first_47 : decode cX6_first 47 = .ok (.iload_n 3, 1) := by decide +kernel
theorem dX6_first_48 : decode cX6_first 48 = .ok (.bipush (-5), 2) := by decide +kernel
theorem dX6_first_50 : decode cX6_first 50 = .ok (.if_icmp .eq 19, 3) := by decide +kernel
theorem dX6_first_53 : decode cX6_first 53 = .ok (.aload_n 0, 1) := by decide +kernel
theorem dX6_first_54 : decode cX6_first 54 = .ok (.iload 4, 2) := by decide +kernel
theorem dX6_first_56 : decode cX6_first 56 = .ok (.iconst 3, 1) := by decide +kernel
theorem dX6_first_57 : decode cX6_first 57 = .ok (.invokevirtual 39, 3) := by decide +kernel
theorem dX6_first_60 : decode cX6_first 60 = .ok (.aload_n 0, 1) := by decide +kernel
theorem dX6_first_61 : decode cX6_first 61 = .ok (.iload_n 3, 1) := by decide +kernel
theorem dX6_first_62 : decode cX6_first 62 = .ok (.iconst 3, 1) := by decide +kernel
theorem dX6_first_63 : decode cX6_first 63 = .ok (.invokevirtual 39, 3) := by decide +kernel
theorem dX6_first_66 : decode cX6_first 66 = .ok (.if_icmp .ge 8, 3) := by decide +kernel
theorem dX6_first_69 : decode cX6_first 69 = .ok (.iload 4, 2) := by decide +kernel
theorem dX6_first_71 : decode cX6_first 71 = .ok (.goto 4, 3) := by decide +kernel
theorem dX6_first_74 : decode cX6_first 74 = .ok (.iload_n 3, 1) := by decide +kernel
theorem dX6_first_75 : decode cX6_first 75 = .ok (.istore_n 3, 1) := by decide +kernel
theorem dX6_first_76 : decode cX6_first 76 = .ok (.iinc 4 1, 3) := by decide +kernel
theorem dX6_first_79 : decode cX6_first 79 = .ok (.goto (-73), 3) := by decide +kernel
theorem dX6_first_82 : decode cX6_first 82 = .ok (.iload_n 3, 1) := by decide +kernel
theorem dX6_first_83 : decode cX6_first 83 = .ok (.ireturn, 1) := by decide +kernel
theorem dX6_firstWaiting_0 : decode cX6_firstWaiting 0 = .ok (.aload_n 0, 1) := by decide +kernel
theorem dX6_firstWaiting_1 : decode cX6_firstWaiting 1 = .ok (.iload_n 1, 1) := by decide +kernel
theorem dX6_firstWaiting_2 : decode cX6_firstWaiting 2 = .ok (.iconst 1, 1) := by decide +kernel
theorem dX6_firstWaiting_3 : decode cX6_firstWaiting 3 = .ok (.iadd, 1) := by decide +kernel
theorem dX6_firstWaiting_4 : decode cX6_firstWaiting 4 = .ok (.iconst 0, 1) := by decide +kernel
theorem dX6_firstWaiting_5 : decode cX6_firstWaiting 5 = .ok (.invokevirtual 43, 3) := by decide +kernel
theorem dX6_firstWaiting_8 : decode cX6_firstWaiting 8 = .ok (.ireturn, 1) := by decide +kernel
theorem dX6_count_0 : decode cX6_count 0 = .ok (.iconst 0, 1) := by decide +kernel
theorem dX6_count_1 : decode cX6_count 1 = .ok (.istore_n 3, 1) := by decide +kernel
theorem dX6_count_2 : decode cX6_count 2 = .ok (.iconst 0, 1) := by decide +kernel
theorem dX6_count_3 : decode cX6_count 3 = .ok (.istore 4, 2) := by decide +kernel
theorem dX6_count_5 : decode cX6_count 5 = .ok (.iload 4, 2) := by decide +kernel
theorem dX6_count_7 : decode cX6_count 7 = .ok (.bipush 80, 2) := by decide +kernel
theorem dX6_count_9 : decode cX6_count 9 = .ok (.if_icmp .ge 39, 3) := by decide +kernel
theorem dX6_count_12 : decode cX6_count 12 = .ok (.iload_n 3, 1) := by decide +kernel
theorem dX6_count_13 : decode cX6_count 13 = .ok (.aload_n 0, 1) := by decide +kernel
theorem dX6_count_14 : decode cX6_count 14 = .ok (.iload 4, 2) := by decide +kernel
theorem dX6_count_16 : decode cX6_count 16 = .ok (.iconst 4, 1) := by decide +kernel
theorem dX6_count_17 : decode cX6_count 17 = .ok (.invokevirtual 39, 3) := by decide +kernel
theorem dX6_count_20 : decode cX6_count 20 = .ok (.iload_n 1, 1) := by decide +kernel
theorem dX6_count_21 : decode cX6_count 21 = .ok (.if_icmp .ne 18, 3) := by decide +kernel
theorem dX6_count_24 : decode cX6_count 24 = .ok (.aload_n 0, 1) := by decide +kernel
theorem dX6_count_25 : decode cX6_count 25 = .ok (.iload 4, 2) := by decide +kernel
theorem dX6_count_27 : decode cX6_count 27 = .ok (.iconst 2, 1) := by decide +kernel
theorem dX6_count_28 : decode cX6_count 28 = .ok (.invokevirtual 39, 3) := by decide +kernel
theorem dX6_count_31 : decode cX6_count 31 = .ok (.iload_n 2, 1) := by decide +kernel
theorem dX6_count_32 : decode cX6_count 32 = .ok (.if_icmp .ne 7, 3) := by decide +kernel
theorem dX6_count_35 : decode cX6_count 35 = .ok (.iconst 1, 1) := by decide +kernel
theorem dX6_count_36 : decode cX6_count 36 = .ok (.goto 4, 3) := by decide +kernel
theorem dX6_count_39 : decode cX6_count 39 = .ok (.iconst 0, 1) := by decide +kernel
theorem dX6_count_40 : decode cX6_count 40 = .ok (.iadd, 1) := by decide +kernel
theorem dX6_count_41 : decode cX6_count 41 = .ok (.istore_n 3, 1) := by decide +kernel
theorem dX6_count_42 : decode cX6_count 42 = .ok (.iinc 4 1, 3) := by decide +kernel
theorem dX6_count_45 : decode cX6_count 45 = .ok (.goto (-40), 3) := by decide +kernel
theorem dX6_count_48 : decode cX6_count 48 = .ok (.iload_n 3, 1) := by decide +kernel
theorem dX6_count_49 : decode cX6_count 49 = .ok (.ireturn, 1) := by decide +kernel
theorem dX6_partsOf_0 : decode cX6_partsOf 0 = .ok (.aload_n 0, 1) := by decide +kernel
theorem dX6_partsOf_1 : decode cX6_partsOf 1 = .ok (.bipush 8, 2) := by decide +kernel
theorem dX6_partsOf_3 : decode cX6_partsOf 3 = .ok (.iload_n 1, 1) := by decide +kernel
theorem dX6_partsOf_4 : decode cX6_partsOf 4 = .ok (.iconst 1, 1) := by decide +kernel
theorem dX6_partsOf_5 : decode cX6_partsOf 5 = .ok (.iadd, 1) := by decide +kernel
theorem dX6_partsOf_6 : decode cX6_partsOf 6 = .ok (.invokevirtual 46, 3) := by decide +kernel
theorem dX6_partsOf_9 : decode cX6_partsOf 9 = .ok (.ireturn, 1) := by decide +kernel
theorem dX6_isWithin_0 : decode cX6_isWithin 0 = .ok (.iload_n 1, 1) := by decide +kernel
theorem dX6_isWithin_1 : decode cX6_isWithin 1 = .ok (.istore_n 3, 1) := by decide +kernel
theorem dX6_isWithin_2 : decode cX6_isWithin 2 = .ok (.iload_n 3, 1) := by decide +kernel
theorem dX6_isWithin_3 : decode cX6_isWithin 3 = .ok (.ifCond .lt 20, 3) := by decide +kernel
theorem dX6_isWithin_6 : decode cX6_isWithin 6 = .ok (.iload_n 3, 1) := by decide +kernel
theorem dX6_isWithin_7 : decode cX6_isWithin 7 = .ok (.iload_n 2, 1) := by decide +kernel
theorem dX6_isWithin_8 : decode cX6_isWithin 8 = .ok (.if_icmp .eq 15, 3) := by decide +kernel
theorem dX6_isWithin_11 : decode cX6_isWithin 11 = .ok (.aload_n 0, 1) := by decide +kernel
theorem dX6_isWithin_12 : decode cX6_isWithin 12 = .ok (.iload_n 3, 1) := by decide +kernel
theorem dX6_isWithin_13 : decode cX6_isWithin 13 = .ok (.iconst 2, 1) := by decide +kernel
theorem dX6_isWithin_14 : decode cX6_isWithin 14 = .ok (.invokevirtual 39, 3) := by decide +kernel
theorem dX6_isWithin_17 : decode cX6_isWithin 17 = .ok (.iconst 1, 1) := by decide +kernel
theorem dX6_isWithin_18 : decode cX6_isWithin 18 = .ok (.isub, 1) := by decide +kernel
theorem dX6_isWithin_19 : decode cX6_isWithin 19 = .ok (.istore_n 3, 1) := by decide +kernel
theorem dX6_isWithin_20 : decode cX6_isWithin 20 = .ok (.goto (-18), 3) := by decide +kernel
theorem dX6_isWithin_23 : decode cX6_isWithin 23 = .ok (.iload_n 3, 1) := by decide +kernel
theorem dX6_isWithin_24 : decode cX6_isWithin 24 = .ok (.iload_n 2, 1) := by decide +kernel
theorem dX6_isWithin_25 : decode cX6_isWithin 25 = .ok (.if_icmp .ne 7, 3) := by decide +kernel
theorem dX6_isWithin_28 : decode cX6_isWithin 28 = .ok (.iconst 1, 1) := by decide +kernel
theorem dX6_isWithin_29 : decode cX6_isWithin 29 = .ok (.goto 4, 3) := by decide +kernel
theorem dX6_isWithin_32 : decode cX6_isWithin 32 = .ok (.iconst 0, 1) := by decide +kernel
theorem dX6_isWithin_33 : decode cX6_isWithin 33 = .ok (.ireturn, 1) := by decide +kernel
theorem dX6_sizeOf_0 : decode cX6_sizeOf 0 = .ok (.iconst 0, 1) := by decide +kernel
theorem dX6_sizeOf_1 : decode cX6_sizeOf 1 = .ok (.istore_n 2, 1) := by decide +kernel
theorem dX6_sizeOf_2 : decode cX6_sizeOf 2 = .ok (.iconst 0, 1) := by decide +kernel
theorem dX6_sizeOf_3 : decode cX6_sizeOf 3 = .ok (.istore_n 3, 1) := by decide +kernel
theorem dX6_sizeOf_4 : decode cX6_sizeOf 4 = .ok (.iload_n 3, 1) := by decide +kernel
theorem dX6_sizeOf_5 : decode cX6_sizeOf 5 = .ok (.bipush 80, 2) := by decide +kernel
theorem dX6_sizeOf_7 : decode cX6_sizeOf 7 = .ok (.if_icmp .ge 35, 3) := by decide +kernel
theorem dX6_sizeOf_10 : decode cX6_sizeOf 10 = .ok (.iload_n 2, 1) := by decide +kernel
theorem dX6_sizeOf_11 : decode cX6_sizeOf 11 = .ok (.aload_n 0, 1) := by decide +kernel
theorem dX6_sizeOf_12 : decode cX6_sizeOf 12 = .ok (.iload_n 3, 1) := by decide +kernel
theorem dX6_sizeOf_13 : decode cX6_sizeOf 13 = .ok (.iconst 4, 1) := by decide +kernel
theorem dX6_sizeOf_14 : decode cX6_sizeOf 14 = .ok (.invokevirtual 39, 3) := by decide +kernel
theorem dX6_sizeOf_17 : decode cX6_sizeOf 17 = .ok (.ifCond .le 16, 3) := by decide +kernel
theorem dX6_sizeOf_20 : decode cX6_sizeOf 20 = .ok (.aload_n 0, 1) := by decide +kernel
theorem dX6_sizeOf_21 : decode cX6_sizeOf 21 = .ok (.iload_n 3, 1) := by decide +kernel
theorem dX6_sizeOf_22 : decode cX6_sizeOf 22 = .ok (.iload_n 1, 1) := by decide +kernel
theorem dX6_sizeOf_23 : decode cX6_sizeOf 23 = .ok (.invokevirtual 49, 3) := by decide +kernel
theorem dX6_sizeOf_26 : decode cX6_sizeOf 26 = .ok (.ifCond .eq 7, 3) := by decide +kernel
theorem dX6_sizeOf_29 : decode cX6_sizeOf 29 = .ok (.iconst 1, 1) := by decide +kernel
theorem dX6_sizeOf_30 : decode cX6_sizeOf 30 = .ok (.goto 4, 3) := by decide +kernel
theorem dX6_sizeOf_33 : decode cX6_sizeOf 33 = .ok (.iconst 0, 1) := by decide +kernel
theorem dX6_sizeOf_34 : decode cX6_sizeOf 34 = .ok (.iadd, 1) := by decide +kernel
theorem dX6_sizeOf_35 : decode cX6_sizeOf 35 = .ok (.istore_n 2, 1) := by decide +kernel
theorem dX6_sizeOf_36 : decode cX6_sizeOf 36 = .ok (.iinc 3 1, 3) := by decide +kernel
theorem dX6_sizeOf_39 : decode cX6_sizeOf 39 = .ok (.goto (-35), 3) := by decide +kernel
theorem dX6_sizeOf_42 : decode cX6_sizeOf 42 = .ok (.iload_n 2, 1) := by decide +kernel
theorem dX6_sizeOf_43 : decode cX6_sizeOf 43 = .ok (.ireturn, 1) := by decide +kernel
theorem dX6_underWay_0 : decode cX6_underWay 0 = .ok (.iconst 0, 1) := by decide +kernel
theorem dX6_underWay_1 : decode cX6_underWay 1 = .ok (.istore_n 1, 1) := by decide +kernel
theorem dX6_underWay_2 : decode cX6_underWay 2 = .ok (.iconst 0, 1) := by decide +kernel
theorem dX6_underWay_3 : decode cX6_underWay 3 = .ok (.istore_n 2, 1) := by decide +kernel
theorem dX6_underWay_4 : decode cX6_underWay 4 = .ok (.iload_n 2, 1) := by decide +kernel
theorem dX6_underWay_5 : decode cX6_underWay 5 = .ok (.bipush 80, 2) := by decide +kernel
theorem dX6_underWay_7 : decode cX6_underWay 7 = .ok (.if_icmp .ge 26, 3) := by decide +kernel
theorem dX6_underWay_10 : decode cX6_underWay 10 = .ok (.iload_n 1, 1) := by decide +kernel
theorem dX6_underWay_11 : decode cX6_underWay 11 = .ok (.aload_n 0, 1) := by decide +kernel
theorem dX6_underWay_12 : decode cX6_underWay 12 = .ok (.iload_n 2, 1) := by decide +kernel
theorem dX6_underWay_13 : decode cX6_underWay 13 = .ok (.iconst 4, 1) := by decide +kernel
theorem dX6_underWay_14 : decode cX6_underWay 14 = .ok (.invokevirtual 39, 3) := by decide +kernel
theorem dX6_underWay_17 : decode cX6_underWay 17 = .ok (.ifCond .le 7, 3) := by decide +kernel
theorem dX6_underWay_20 : decode cX6_underWay 20 = .ok (.iconst 1, 1) := by decide +kernel
theorem dX6_underWay_21 : decode cX6_underWay 21 = .ok (.goto 4, 3) := by decide +kernel
theorem dX6_underWay_24 : decode cX6_underWay 24 = .ok (.iconst 0, 1) := by decide +kernel
theorem dX6_underWay_25 : decode cX6_underWay 25 = .ok (.iadd, 1) := by decide +kernel
theorem dX6_underWay_26 : decode cX6_underWay 26 = .ok (.istore_n 1, 1) := by decide +kernel
theorem dX6_underWay_27 : decode cX6_underWay 27 = .ok (.iinc 2 1, 3) := by decide +kernel
theorem dX6_underWay_30 : decode cX6_underWay 30 = .ok (.goto (-26), 3) := by decide +kernel
theorem dX6_underWay_33 : decode cX6_underWay 33 = .ok (.iload_n 1, 1) := by decide +kernel
theorem dX6_underWay_34 : decode cX6_underWay 34 = .ok (.ireturn, 1) := by decide +kernel
theorem dX6_drop_0 : decode cX6_drop 0 = .ok (.iconst 0, 1) := by decide +kernel
theorem dX6_drop_1 : decode cX6_drop 1 = .ok (.istore_n 2, 1) := by decide +kernel
theorem dX6_drop_2 : decode cX6_drop 2 = .ok (.iload_n 2, 1) := by decide +kernel
theorem dX6_drop_3 : decode cX6_drop 3 = .ok (.bipush 80, 2) := by decide +kernel
theorem dX6_drop_5 : decode cX6_drop 5 = .ok (.if_icmp .ge 49, 3) := by decide +kernel
theorem dX6_drop_8 : decode cX6_drop 8 = .ok (.iload_n 2, 1) := by decide +kernel
theorem dX6_drop_9 : decode cX6_drop 9 = .ok (.iload_n 1, 1) := by decide +kernel
theorem dX6_drop_10 : decode cX6_drop 10 = .ok (.if_icmp .eq 25, 3) := by decide +kernel
theorem dX6_drop_13 : decode cX6_drop 13 = .ok (.aload_n 0, 1) := by decide +kernel
theorem dX6_drop_14 : decode cX6_drop 14 = .ok (.iload_n 2, 1) := by decide +kernel
theorem dX6_drop_15 : decode cX6_drop 15 = .ok (.iconst 4, 1) := by decide +kernel
theorem dX6_drop_16 : decode cX6_drop 16 = .ok (.invokevirtual 39, 3) := by decide +kernel
theorem dX6_drop_19 : decode cX6_drop 19 = .ok (.ifCond .le 16, 3) := by decide +kernel
theorem dX6_drop_22 : decode cX6_drop 22 = .ok (.aload_n 0, 1) := by decide +kernel
theorem dX6_drop_23 : decode cX6_drop 23 = .ok (.iload_n 2, 1) := by decide +kernel
theorem dX6_drop_24 : decode cX6_drop 24 = .ok (.iload_n 1, 1) := by decide +kernel
theorem dX6_drop_25 : decode cX6_drop 25 = .ok (.invokevirtual 49, 3) := by decide +kernel
theorem dX6_drop_28 : decode cX6_drop 28 = .ok (.ifCond .eq 7, 3) := by decide +kernel
theorem dX6_drop_31 : decode cX6_drop 31 = .ok (.iconst 1, 1) := by decide +kernel
theorem dX6_drop_32 : decode cX6_drop 32 = .ok (.goto 4, 3) := by decide +kernel
theorem dX6_drop_35 : decode cX6_drop 35 = .ok (.iconst 0, 1) := by decide +kernel
theorem dX6_drop_36 : decode cX6_drop 36 = .ok (.istore_n 3, 1) := by decide +kernel
theorem dX6_drop_37 : decode cX6_drop 37 = .ok (.iload_n 3, 1) := by decide +kernel
theorem dX6_drop_38 : decode cX6_drop 38 = .ok (.ifCond .eq 10, 3) := by decide +kernel
theorem dX6_drop_41 : decode cX6_drop 41 = .ok (.aload_n 0, 1) := by decide +kernel
theorem dX6_drop_42 : decode cX6_drop 42 = .ok (.iload_n 2, 1) := by decide +kernel
theorem dX6_drop_43 : decode cX6_drop 43 = .ok (.iconst 4, 1) := by decide +kernel
theorem dX6_drop_44 : decode cX6_drop 44 = .ok (.iconst 0, 1) := by decide +kernel
theorem dX6_drop_45 : decode cX6_drop 45 = .ok (.invokevirtual 53, 3) := by decide +kernel
theorem dX6_drop_48 : decode cX6_drop 48 = .ok (.iinc 2 1, 3) := by decide +kernel
theorem dX6_drop_51 : decode cX6_drop 51 = .ok (.goto (-49), 3) := by decide +kernel
theorem dX6_drop_54 : decode cX6_drop 54 = .ok (.aload_n 0, 1) := by decide +kernel
theorem dX6_drop_55 : decode cX6_drop 55 = .ok (.iload_n 1, 1) := by decide +kernel
theorem dX6_drop_56 : decode cX6_drop 56 = .ok (.iconst 4, 1) := by decide +kernel
theorem dX6_drop_57 : decode cX6_drop 57 = .ok (.iconst 0, 1) := by decide +kernel
theorem dX6_drop_58 : decode cX6_drop 58 = .ok (.invokevirtual 53, 3) := by decide +kernel
theorem dX6_drop_61 : decode cX6_drop 61 = .ok (.return_, 1) := by decide +kernel
theorem dX6_add_0 : decode cX6_add 0 = .ok (.iconst 0, 1) := by decide +kernel
theorem dX6_add_1 : decode cX6_add 1 = .ok (.istore 4, 2) := by decide +kernel
theorem dX6_add_3 : decode cX6_add 3 = .ok (.aload_n 0, 1) := by decide +kernel
theorem dX6_add_4 : decode cX6_add 4 = .ok (.iload 4, 2) := by decide +kernel
theorem dX6_add_6 : decode cX6_add 6 = .ok (.iconst 4, 1) := by decide +kernel
theorem dX6_add_7 : decode cX6_add 7 = .ok (.invokevirtual 39, 3) := by decide +kernel
theorem dX6_add_10 : decode cX6_add 10 = .ok (.ifCond .le 9, 3) := by decide +kernel
theorem dX6_add_13 : decode cX6_add 13 = .ok (.iinc 4 1, 3) := by decide +kernel
theorem dX6_add_16 : decode cX6_add 16 = .ok (.goto (-13), 3) := by decide +kernel
theorem dX6_add_19 : decode cX6_add 19 = .ok (.aload_n 0, 1) := by decide +kernel
theorem dX6_add_20 : decode cX6_add 20 = .ok (.getfield 7, 3) := by decide +kernel
theorem dX6_add_23 : decode cX6_add 23 = .ok (.bipush 10, 2) := by decide +kernel
theorem dX6_add_25 : decode cX6_add 25 = .ok (.dup2, 1) := by decide +kernel
theorem dX6_add_26 : decode cX6_add 26 = .ok (.iaload, 1) := by decide +kernel
theorem dX6_add_27 : decode cX6_add 27 = .ok (.iconst 1, 1) := by decide +kernel
theorem dX6_add_28 : decode cX6_add 28 = .ok (.iadd, 1) := by decide +kernel
theorem dX6_add_29 : decode cX6_add 29 = .ok (.iastore, 1) := by decide +kernel
theorem dX6_add_30 : decode cX6_add 30 = .ok (.aload_n 0, 1) := by decide +kernel
theorem dX6_add_31 : decode cX6_add 31 = .ok (.iload 4, 2) := by decide +kernel
theorem dX6_add_33 : decode cX6_add 33 = .ok (.iconst 0, 1) := by decide +kernel
theorem dX6_add_34 : decode cX6_add 34 = .ok (.iload_n 1, 1) := by decide +kernel
theorem dX6_add_35 : decode cX6_add 35 = .ok (.invokevirtual 53, 3) := by decide +kernel
theorem dX6_add_38 : decode cX6_add 38 = .ok (.aload_n 0, 1) := by decide +kernel
theorem dX6_add_39 : decode cX6_add 39 = .ok (.iload 4, 2) := by decide +kernel
theorem dX6_add_41 : decode cX6_add 41 = .ok (.iconst 1, 1) := by decide +kernel
theorem dX6_add_42 : decode cX6_add 42 = .ok (.iload_n 2, 1) := by decide +kernel
theorem dX6_add_43 : decode cX6_add 43 = .ok (.invokevirtual 53, 3) := by decide +kernel
theorem dX6_add_46 : decode cX6_add 46 = .ok (.aload_n 0, 1) := by decide +kernel
theorem dX6_add_47 : decode cX6_add 47 = .ok (.iload 4, 2) := by decide +kernel
theorem dX6_add_49 : decode cX6_add 49 = .ok (.iconst 2, 1) := by decide +kernel
theorem dX6_add_50 : decode cX6_add 50 = .ok (.iload_n 3, 1) := by decide +kernel
theorem dX6_add_51 : decode cX6_add 51 = .ok (.invokevirtual 53, 3) := by decide +kernel
theorem dX6_add_54 : decode cX6_add 54 = .ok (.aload_n 0, 1) := by decide +kernel
theorem dX6_add_55 : decode cX6_add 55 = .ok (.iload 4, 2) := by decide +kernel
theorem dX6_add_57 : decode cX6_add 57 = .ok (.iconst 3, 1) := by decide +kernel
theorem dX6_add_58 : decode cX6_add 58 = .ok (.aload_n 0, 1) := by decide +kernel
theorem dX6_add_59 : decode cX6_add 59 = .ok (.getfield 7, 3) := by decide +kernel
theorem dX6_add_62 : decode cX6_add 62 = .ok (.bipush 10, 2) := by decide +kernel
theorem dX6_add_64 : decode cX6_add 64 = .ok (.iaload, 1) := by decide +kernel
theorem dX6_add_65 : decode cX6_add 65 = .ok (.invokevirtual 53, 3) := by decide +kernel
theorem dX6_add_68 : decode cX6_add 68 = .ok (.aload_n 0, 1) := by decide +kernel
theorem dX6_add_69 : decode cX6_add 69 = .ok (.iload 4, 2) := by decide +kernel
theorem dX6_add_71 : decode cX6_add 71 = .ok (.iconst 4, 1) := by decide +kernel
theorem dX6_add_72 : decode cX6_add 72 = .ok (.iload_n 3, 1) := by decide +kernel
theorem dX6_add_73 : decode cX6_add 73 = .ok (.ifCond .ne 8, 3) := by decide +kernel
theorem dX6_add_76 : decode cX6_add 76 = .ok (.bipush 7, 2) := by decide +kernel
theorem dX6_add_78 : decode cX6_add 78 = .ok (.goto 5, 3) := by decide +kernel
theorem dX6_add_81 : decode cX6_add 81 = .ok (.bipush 8, 2) := by decide +kernel
theorem dX6_add_83 : decode cX6_add 83 = .ok (.invokevirtual 53, 3) := by decide +kernel
theorem dX6_add_86 : decode cX6_add 86 = .ok (.iload 4, 2) := by decide +kernel
theorem dX6_add_88 : decode cX6_add 88 = .ok (.ireturn, 1) := by decide +kernel
theorem dX6_timeBetween_0 : decode cX6_timeBetween 0 = .ok (.iload_n 1, 1) := by decide +kernel
theorem dX6_timeBetween_1 : decode cX6_timeBetween 1 = .ok (.bipush 6, 2) := by decide +kernel
theorem dX6_timeBetween_3 : decode cX6_timeBetween 3 = .ok (.if_icmp .ne 15, 3) := by decide +kernel
theorem dX6_timeBetween_6 : decode cX6_timeBetween 6 = .ok (.aload_n 0, 1) := by decide +kernel
theorem dX6_timeBetween_7 : decode cX6_timeBetween 7 = .ok (.getfield 7, 3) := by decide +kernel
theorem dX6_timeBetween_10 : decode cX6_timeBetween 10 = .ok (.bipush 48, 2) := by decide +kernel
theorem dX6_timeBetween_12 : decode cX6_timeBetween 12 = .ok (.iload_n 2, 1) := by decide +kernel
theorem dX6_timeBetween_13 : decode cX6_timeBetween 13 = .ok (.iadd, 1) := by decide +kernel
theorem dX6_timeBetween_14 : decode cX6_timeBetween 14 = .ok (.iaload, 1) := by decide +kernel
theorem dX6_timeBetween_15 : decode cX6_timeBetween 15 = .ok (.goto 35, 3) := by decide +kernel
theorem dX6_timeBetween_18 : decode cX6_timeBetween 18 = .ok (.iload_n 2, 1) := by decide +kernel
theorem dX6_timeBetween_19 : decode cX6_timeBetween 19 = .ok (.bipush 6, 2) := by decide +kernel
theorem dX6_timeBetween_21 : decode cX6_timeBetween 21 = .ok (.if_icmp .ne 15, 3) := by decide +kernel
theorem dX6_timeBetween_24 : decode cX6_timeBetween 24 = .ok (.aload_n 0, 1) := by decide +kernel
theorem dX6_timeBetween_25 : decode cX6_timeBetween 25 = .ok (.getfield 7, 3) := by decide +kernel
theorem dX6_timeBetween_28 : decode cX6_timeBetween 28 = .ok (.bipush 48, 2) := by decide +kernel
theorem dX6_timeBetween_30 : decode cX6_timeBetween 30 = .ok (.iload_n 1, 1) := by decide +kernel
theorem dX6_timeBetween_31 : decode cX6_timeBetween 31 = .ok (.iadd, 1) := by decide +kernel
theorem dX6_timeBetween_32 : decode cX6_timeBetween 32 = .ok (.iaload, 1) := by decide +kernel
theorem dX6_timeBetween_33 : decode cX6_timeBetween 33 = .ok (.goto 17, 3) := by decide +kernel
theorem dX6_timeBetween_36 : decode cX6_timeBetween 36 = .ok (.aload_n 0, 1) := by decide +kernel
theorem dX6_timeBetween_37 : decode cX6_timeBetween 37 = .ok (.getfield 7, 3) := by decide +kernel
theorem dX6_timeBetween_40 : decode cX6_timeBetween 40 = .ok (.bipush 12, 2) := by decide +kernel
theorem dX6_timeBetween_42 : decode cX6_timeBetween 42 = .ok (.bipush 6, 2) := by decide +kernel
theorem dX6_timeBetween_44 : decode cX6_timeBetween 44 = .ok (.iload_n 1, 1) := by decide +kernel
theorem dX6_timeBetween_45 : decode cX6_timeBetween 45 = .ok (.imul, 1) := by decide +kernel
theorem dX6_timeBetween_46 : decode cX6_timeBetween 46 = .ok (.iadd, 1) := by decide +kernel
theorem dX6_timeBetween_47 : decode cX6_timeBetween 47 = .ok (.iload_n 2, 1) := by decide +kernel
theorem dX6_timeBetween_48 : decode cX6_timeBetween 48 = .ok (.iadd, 1) := by decide +kernel
theorem dX6_timeBetween_49 : decode cX6_timeBetween 49 = .ok (.iaload, 1) := by decide +kernel
theorem dX6_timeBetween_50 : decode cX6_timeBetween 50 = .ok (.ireturn, 1) := by decide +kernel
theorem dX6_send_0 : decode cX6_send 0 = .ok (.sipush 508, 3) := by decide +kernel
theorem dX6_send_3 : decode cX6_send 3 = .ok (.bipush 6, 2) := by decide +kernel
theorem dX6_send_5 : decode cX6_send 5 = .ok (.aload_n 0, 1) := by decide +kernel
theorem dX6_send_6 : decode cX6_send 6 = .ok (.getfield 7, 3) := by decide +kernel
theorem dX6_send_9 : decode cX6_send 9 = .ok (.iconst 4, 1) := by decide +kernel
theorem dX6_send_10 : decode cX6_send 10 = .ok (.iaload, 1) := by decide +kernel
theorem dX6_send_11 : decode cX6_send 11 = .ok (.imul, 1) := by decide +kernel
theorem dX6_send_12 : decode cX6_send 12 = .ok (.iadd, 1) := by decide +kernel
theorem dX6_send_13 : decode cX6_send 13 = .ok (.istore 6, 2) := by decide +kernel
theorem dX6_send_15 : decode cX6_send 15 = .ok (.aload_n 0, 1) := by decide +kernel
theorem dX6_send_16 : decode cX6_send 16 = .ok (.getfield 7, 3) := by decide +kernel
theorem dX6_send_19 : decode cX6_send 19 = .ok (.iload 6, 2) := by decide +kernel
theorem dX6_send_21 : decode cX6_send 21 = .ok (.iconst 0, 1) := by decide +kernel
theorem dX6_send_22 : decode cX6_send 22 = .ok (.iadd, 1) := by decide +kernel
theorem dX6_send_23 : decode cX6_send 23 = .ok (.iload_n 1, 1) := by decide +kernel
theorem dX6_send_24 : decode cX6_send 24 = .ok (.iastore, 1) := by decide +kernel
theorem dX6_send_25 : decode cX6_send 25 = .ok (.aload_n 0, 1) := by decide +kernel
theorem dX6_send_26 : decode cX6_send 26 = .ok (.getfield 7, 3) := by decide +kernel
theorem dX6_send_29 : decode cX6_send 29 = .ok (.iload 6, 2) := by decide +kernel
theorem dX6_send_31 : decode cX6_send 31 = .ok (.iconst 1, 1) := by decide +kernel
theorem dX6_send_32 : decode cX6_send 32 = .ok (.iadd, 1) := by decide +kernel
theorem dX6_send_33 : decode cX6_send 33 = .ok (.iload_n 2, 1) := by decide +kernel
theorem dX6_send_34 : decode cX6_send 34 = .ok (.iastore, 1) := by decide +kernel
theorem dX6_send_35 : decode cX6_send 35 = .ok (.aload_n 0, 1) := by decide +kernel
theorem dX6_send_36 : decode cX6_send 36 = .ok (.getfield 7, 3) := by decide +kernel
theorem dX6_send_39 : decode cX6_send 39 = .ok (.iload 6, 2) := by decide +kernel
theorem dX6_send_41 : decode cX6_send 41 = .ok (.iconst 2, 1) := by decide +kernel
theorem dX6_send_42 : decode cX6_send 42 = .ok (.iadd, 1) := by decide +kernel
theorem dX6_send_43 : decode cX6_send 43 = .ok (.iload_n 3, 1) := by decide +kernel
theorem dX6_send_44 : decode cX6_send 44 = .ok (.iastore, 1) := by decide +kernel
theorem dX6_send_45 : decode cX6_send 45 = .ok (.aload_n 0, 1) := by decide +kernel
theorem dX6_send_46 : decode cX6_send 46 = .ok (.getfield 7, 3) := by decide +kernel
theorem dX6_send_49 : decode cX6_send 49 = .ok (.iload 6, 2) := by decide +kernel
theorem dX6_send_51 : decode cX6_send 51 = .ok (.iconst 3, 1) := by decide +kernel
theorem dX6_send_52 : decode cX6_send 52 = .ok (.iadd, 1) := by decide +kernel
theorem dX6_send_53 : decode cX6_send 53 = .ok (.iload 4, 2) := by decide +kernel
theorem dX6_send_55 : decode cX6_send 55 = .ok (.iastore, 1) := by decide +kernel
theorem dX6_send_56 : decode cX6_send 56 = .ok (.aload_n 0, 1) := by decide +kernel
theorem dX6_send_57 : decode cX6_send 57 = .ok (.getfield 7, 3) := by decide +kernel
theorem dX6_send_60 : decode cX6_send 60 = .ok (.iload 6, 2) := by decide +kernel
theorem dX6_send_62 : decode cX6_send 62 = .ok (.iconst 4, 1) := by decide +kernel
theorem dX6_send_63 : decode cX6_send 63 = .ok (.iadd, 1) := by decide +kernel
theorem dX6_send_64 : decode cX6_send 64 = .ok (.aload_n 0, 1) := by decide +kernel
theorem dX6_send_65 : decode cX6_send 65 = .ok (.getfield 7, 3) := by decide +kernel
theorem dX6_send_68 : decode cX6_send 68 = .ok (.iconst 0, 1) := by decide +kernel
theorem dX6_send_69 : decode cX6_send 69 = .ok (.iaload, 1) := by decide +kernel
theorem dX6_send_70 : decode cX6_send 70 = .ok (.aload_n 0, 1) := by decide +kernel
theorem dX6_send_71 : decode cX6_send 71 = .ok (.iload_n 2, 1) := by decide +kernel
theorem dX6_send_72 : decode cX6_send 72 = .ok (.iload_n 3, 1) := by decide +kernel
theorem dX6_send_73 : decode cX6_send 73 = .ok (.invokevirtual 57, 3) := by decide +kernel
theorem dX6_send_76 : decode cX6_send 76 = .ok (.iadd, 1) := by decide +kernel
theorem dX6_send_77 : decode cX6_send 77 = .ok (.iastore, 1) := by decide +kernel
theorem dX6_send_78 : decode cX6_send 78 = .ok (.aload_n 0, 1) := by decide +kernel
theorem dX6_send_79 : decode cX6_send 79 = .ok (.getfield 7, 3) := by decide +kernel
theorem dX6_send_82 : decode cX6_send 82 = .ok (.iload 6, 2) := by decide +kernel
theorem dX6_send_84 : decode cX6_send 84 = .ok (.iconst 5, 1) := by decide +kernel
theorem dX6_send_85 : decode cX6_send 85 = .ok (.iadd, 1) := by decide +kernel
theorem dX6_send_86 : decode cX6_send 86 = .ok (.iload 5, 2) := by decide +kernel
theorem dX6_send_88 : decode cX6_send 88 = .ok (.iastore, 1) := by decide +kernel
theorem dX6_send_89 : decode cX6_send 89 = .ok (.aload_n 0, 1) := by decide +kernel
theorem dX6_send_90 : decode cX6_send 90 = .ok (.getfield 7, 3) := by decide +kernel
theorem dX6_send_93 : decode cX6_send 93 = .ok (.iconst 4, 1) := by decide +kernel
theorem dX6_send_94 : decode cX6_send 94 = .ok (.dup2, 1) := by decide +kernel
theorem dX6_send_95 : decode cX6_send 95 = .ok (.iaload, 1) := by decide +kernel
theorem dX6_send_96 : decode cX6_send 96 = .ok (.iconst 1, 1) := by decide +kernel
theorem dX6_send_97 : decode cX6_send 97 = .ok (.iadd, 1) := by decide +kernel
theorem dX6_send_98 : decode cX6_send 98 = .ok (.iastore, 1) := by decide +kernel
theorem dX6_send_99 : decode cX6_send 99 = .ok (.return_, 1) := by decide +kernel
theorem dX6_takeAway_0 : decode cX6_takeAway 0 = .ok (.aload_n 0, 1) := by decide +kernel
theorem dX6_takeAway_1 : decode cX6_takeAway 1 = .ok (.getfield 7, 3) := by decide +kernel
theorem dX6_takeAway_4 : decode cX6_takeAway 4 = .ok (.iconst 4, 1) := by decide +kernel
theorem dX6_takeAway_5 : decode cX6_takeAway 5 = .ok (.dup2, 1) := by decide +kernel
theorem dX6_takeAway_6 : decode cX6_takeAway 6 = .ok (.iaload, 1) := by decide +kernel
theorem dX6_takeAway_7 : decode cX6_takeAway 7 = .ok (.iconst 1, 1) := by decide +kernel
theorem dX6_takeAway_8 : decode cX6_takeAway 8 = .ok (.isub, 1) := by decide +kernel
theorem dX6_takeAway_9 : decode cX6_takeAway 9 = .ok (.iastore, 1) := by decide +kernel
theorem dX6_takeAway_10 : decode cX6_takeAway 10 = .ok (.sipush 508, 3) := by decide +kernel
theorem dX6_takeAway_13 : decode cX6_takeAway 13 = .ok (.bipush 6, 2) := by decide +kernel
theorem dX6_takeAway_15 : decode cX6_takeAway 15 = .ok (.iload_n 1, 1) := by decide +kernel
theorem dX6_takeAway_16 : decode cX6_takeAway 16 = .ok (.imul, 1) := by decide +kernel
theorem dX6_takeAway_17 : decode cX6_takeAway 17 = .ok (.iadd, 1) := by decide +kernel
theorem dX6_takeAway_18 : decode cX6_takeAway 18 = .ok (.istore_n 2, 1) := by decide +kernel
theorem dX6_takeAway_19 : decode cX6_takeAway 19 = .ok (.iload_n 2, 1) := by decide +kernel
theorem dX6_takeAway_20 : decode cX6_takeAway 20 = .ok (.sipush 508, 3) := by decide +kernel
theorem dX6_takeAway_23 : decode cX6_takeAway 23 = .ok (.bipush 6, 2) := by decide +kernel
theorem dX6_takeAway_25 : decode cX6_takeAway 25 = .ok (.aload_n 0, 1) := by decide +kernel
theorem dX6_takeAway_26 : decode cX6_takeAway 26 = .ok (.getfield 7, 3) := by decide +kernel
theorem dX6_takeAway_29 : decode cX6_takeAway 29 = .ok (.iconst 4, 1) := by decide +kernel
theorem dX6_takeAway_30 : decode cX6_takeAway 30 = .ok (.iaload, 1) := by decide +kernel
theorem dX6_takeAway_31 : decode cX6_takeAway 31 = .ok (.imul, 1) := by decide +kernel
theorem dX6_takeAway_32 : decode cX6_takeAway 32 = .ok (.iadd, 1) := by decide +kernel
theorem dX6_takeAway_33 : decode cX6_takeAway 33 = .ok (.if_icmp .ge 24, 3) := by decide +kernel
theorem dX6_takeAway_36 : decode cX6_takeAway 36 = .ok (.aload_n 0, 1) := by decide +kernel
theorem dX6_takeAway_37 : decode cX6_takeAway 37 = .ok (.getfield 7, 3) := by decide +kernel
theorem dX6_takeAway_40 : decode cX6_takeAway 40 = .ok (.iload_n 2, 1) := by decide +kernel
theorem dX6_takeAway_41 : decode cX6_takeAway 41 = .ok (.aload_n 0, 1) := by decide +kernel
theorem dX6_takeAway_42 : decode cX6_takeAway 42 = .ok (.getfield 7, 3) := by decide +kernel
theorem dX6_takeAway_45 : decode cX6_takeAway 45 = .ok (.iload_n 2, 1) := by decide +kernel
theorem dX6_takeAway_46 : decode cX6_takeAway 46 = .ok (.bipush 6, 2) := by decide +kernel
theorem dX6_takeAway_48 : decode cX6_takeAway 48 = .ok (.iadd, 1) := by decide +kernel
theorem dX6_takeAway_49 : decode cX6_takeAway 49 = .ok (.iaload, 1) := by decide +kernel
theorem dX6_takeAway_50 : decode cX6_takeAway 50 = .ok (.iastore, 1) := by decide +kernel
theorem dX6_takeAway_51 : decode cX6_takeAway 51 = .ok (.iinc 2 1, 3) := by decide +kernel
theorem dX6_takeAway_54 : decode cX6_takeAway 54 = .ok (.goto (-35), 3) := by decide +kernel
theorem dX6_takeAway_57 : decode cX6_takeAway 57 = .ok (.return_, 1) := by decide +kernel
theorem dX6_ranked_0 : decode cX6_ranked 0 = .ok (.iconst 0, 1) := by decide +kernel
theorem dX6_ranked_1 : decode cX6_ranked 1 = .ok (.istore_n 2, 1) := by decide +kernel
theorem dX6_ranked_2 : decode cX6_ranked 2 = .ok (.iload_n 2, 1) := by decide +kernel
theorem dX6_ranked_3 : decode cX6_ranked 3 = .ok (.aload_n 0, 1) := by decide +kernel
theorem dX6_ranked_4 : decode cX6_ranked 4 = .ok (.getfield 7, 3) := by decide +kernel
theorem dX6_ranked_7 : decode cX6_ranked 7 = .ok (.iconst 4, 1) := by decide +kernel
theorem dX6_ranked_8 : decode cX6_ranked 8 = .ok (.iaload, 1) := by decide +kernel
theorem dX6_ranked_9 : decode cX6_ranked 9 = .ok (.if_icmp .ge 78, 3) := by decide +kernel
theorem dX6_ranked_12 : decode cX6_ranked 12 = .ok (.iconst 0, 1) := by decide +kernel
theorem dX6_ranked_13 : decode cX6_ranked 13 = .ok (.istore_n 3, 1) := by decide +kernel
theorem dX6_ranked_14 : decode cX6_ranked 14 = .ok (.iconst 0, 1) := by decide +kernel
theorem dX6_ranked_15 : decode cX6_ranked 15 = .ok (.istore 4, 2) := by decide +kernel
theorem dX6_ranked_17 : decode cX6_ranked 17 = .ok (.iload 4, 2) := by decide +kernel
theorem dX6_ranked_19 : decode cX6_ranked 19 = .ok (.aload_n 0, 1) := by decide +kernel
theorem dX6_ranked_20 : decode cX6_ranked 20 = .ok (.getfield 7, 3) := by decide +kernel
theorem dX6_ranked_23 : decode cX6_ranked 23 = .ok (.iconst 4, 1) := by decide +kernel
theorem dX6_ranked_24 : decode cX6_ranked 24 = .ok (.iaload, 1) := by decide +kernel
theorem dX6_ranked_25 : decode cX6_ranked 25 = .ok (.if_icmp .ge 49, 3) := by decide +kernel
theorem dX6_ranked_28 : decode cX6_ranked 28 = .ok (.aload_n 0, 1) := by decide +kernel
theorem dX6_ranked_29 : decode cX6_ranked 29 = .ok (.iload 4, 2) := by decide +kernel
theorem dX6_ranked_31 : decode cX6_ranked 31 = .ok (.iconst 4, 1) := by decide +kernel
theorem dX6_ranked_32 : decode cX6_ranked 32 = .ok (.invokevirtual 60, 3) := by decide +kernel
theorem dX6_ranked_35 : decode cX6_ranked 35 = .ok (.aload_n 0, 1) := by decide +kernel
theorem dX6_ranked_36 : decode cX6_ranked 36 = .ok (.iload_n 2, 1) := by decide +kernel
theorem dX6_ranked_37 : decode cX6_ranked 37 = .ok (.iconst 4, 1) := by decide +kernel
theorem dX6_ranked_38 : decode cX6_ranked 38 = .ok (.invokevirtual 60, 3) := by decide +kernel
theorem dX6_ranked_41 : decode cX6_ranked 41 = .ok (.isub, 1) := by decide +kernel
theorem dX6_ranked_42 : decode cX6_ranked 42 = .ok (.istore 5, 2) := by decide +kernel
theorem dX6_ranked_44 : decode cX6_ranked 44 = .ok (.iload_n 3, 1) := by decide +kernel
theorem dX6_ranked_45 : decode cX6_ranked 45 = .ok (.iload 5, 2) := by decide +kernel
theorem dX6_ranked_47 : decode cX6_ranked 47 = .ok (.ifCond .lt 14, 3) := by decide +kernel
theorem dX6_ranked_50 : decode cX6_ranked 50 = .ok (.iload 5, 2) := by decide +kernel
theorem dX6_ranked_52 : decode cX6_ranked 52 = .ok (.ifCond .ne 13, 3) := by decide +kernel
theorem dX6_ranked_55 : decode cX6_ranked 55 = .ok (.iload 4, 2) := by decide +kernel
theorem dX6_ranked_57 : decode cX6_ranked 57 = .ok (.iload_n 2, 1) := by decide +kernel
theorem dX6_ranked_58 : decode cX6_ranked 58 = .ok (.if_icmp .ge 7, 3) := by decide +kernel
theorem dX6_ranked_61 : decode cX6_ranked 61 = .ok (.iconst 1, 1) := by decide +kernel
theorem dX6_ranked_62 : decode cX6_ranked 62 = .ok (.goto 4, 3) := by decide +kernel
theorem dX6_ranked_65 : decode cX6_ranked 65 = .ok (.iconst 0, 1) := by decide +kernel
theorem dX6_ranked_66 : decode cX6_ranked 66 = .ok (.iadd, 1) := by decide +kernel
theorem dX6_ranked_67 : decode cX6_ranked 67 = .ok (.istore_n 3, 1) := by decide +kernel
theorem dX6_ranked_68 : decode cX6_ranked 68 = .ok (.iinc 4 1, 3) := by decide +kernel
theorem dX6_ranked_71 : decode cX6_ranked 71 = .ok (.goto (-54), 3) := by decide +kernel
theorem dX6_ranked_74 : decode cX6_ranked 74 = .ok (.iload_n 3, 1) := by decide +kernel
theorem dX6_ranked_75 : decode cX6_ranked 75 = .ok (.iload_n 1, 1) := by decide +kernel
theorem dX6_ranked_76 : decode cX6_ranked 76 = .ok (.if_icmp .ne 5, 3) := by decide +kernel
theorem dX6_ranked_79 : decode cX6_ranked 79 = .ok (.iload_n 2, 1) := by decide +kernel
theorem dX6_ranked_80 : decode cX6_ranked 80 = .ok (.ireturn, 1) := by decide +kernel
theorem dX6_ranked_81 : decode cX6_ranked 81 = .ok (.iinc 2 1, 3) := by decide +kernel
theorem dX6_ranked_84 : decode cX6_ranked 84 = .ok (.goto (-82), 3) := by decide +kernel
theorem dX6_ranked_87 : decode cX6_ranked 87 = .ok (.bipush (-5), 2) := by decide +kernel
theorem dX6_ranked_89 : decode cX6_ranked 89 = .ok (.ireturn, 1) := by decide +kernel
theorem dX6_mint_0 : decode cX6_mint 0 = .ok (.iconst 1, 1) := by decide +kernel
theorem dX6_mint_1 : decode cX6_mint 1 = .ok (.aload_n 0, 1) := by decide +kernel
theorem dX6_mint_2 : decode cX6_mint 2 = .ok (.getfield 7, 3) := by decide +kernel
theorem dX6_mint_5 : decode cX6_mint 5 = .ok (.bipush 8, 2) := by decide +kernel
theorem dX6_mint_7 : decode cX6_mint 7 = .ok (.iaload, 1) := by decide +kernel
theorem dX6_mint_8 : decode cX6_mint 8 = .ok (.ishl, 1) := by decide +kernel
theorem dX6_mint_9 : decode cX6_mint 9 = .ok (.istore_n 1, 1) := by decide +kernel
theorem dX6_mint_10 : decode cX6_mint 10 = .ok (.aload_n 0, 1) := by decide +kernel
theorem dX6_mint_11 : decode cX6_mint 11 = .ok (.getfield 7, 3) := by decide +kernel
theorem dX6_mint_14 : decode cX6_mint 14 = .ok (.iconst 1, 1) := by decide +kernel
theorem dX6_mint_15 : decode cX6_mint 15 = .ok (.dup2, 1) := by decide +kernel
theorem dX6_mint_16 : decode cX6_mint 16 = .ok (.iaload, 1) := by decide +kernel
theorem dX6_mint_17 : decode cX6_mint 17 = .ok (.iload_n 1, 1) := by decide +kernel
theorem dX6_mint_18 : decode cX6_mint 18 = .ok (.iadd, 1) := by decide +kernel
theorem dX6_mint_19 : decode cX6_mint 19 = .ok (.iastore, 1) := by decide +kernel
theorem dX6_mint_20 : decode cX6_mint 20 = .ok (.aload_n 0, 1) := by decide +kernel
theorem dX6_mint_21 : decode cX6_mint 21 = .ok (.getfield 7, 3) := by decide +kernel
theorem dX6_mint_24 : decode cX6_mint 24 = .ok (.bipush 6, 2) := by decide +kernel
theorem dX6_mint_26 : decode cX6_mint 26 = .ok (.dup2, 1) := by decide +kernel
theorem dX6_mint_27 : decode cX6_mint 27 = .ok (.iaload, 1) := by decide +kernel
theorem dX6_mint_28 : decode cX6_mint 28 = .ok (.iconst 1, 1) := by decide +kernel
theorem dX6_mint_29 : decode cX6_mint 29 = .ok (.iadd, 1) := by decide +kernel
theorem dX6_mint_30 : decode cX6_mint 30 = .ok (.iastore, 1) := by decide +kernel
theorem dX6_mint_31 : decode cX6_mint 31 = .ok (.iload_n 1, 1) := by decide +kernel
theorem dX6_mint_32 : decode cX6_mint 32 = .ok (.ireturn, 1) := by decide +kernel
theorem dX6_sendWhatItCan_0 : decode cX6_sendWhatItCan 0 = .ok (.aload_n 0, 1) := by decide +kernel
theorem dX6_sendWhatItCan_1 : decode cX6_sendWhatItCan 1 = .ok (.iload_n 1, 1) := by decide +kernel
theorem dX6_sendWhatItCan_2 : decode cX6_sendWhatItCan 2 = .ok (.invokevirtual 63, 3) := by decide +kernel
theorem dX6_sendWhatItCan_5 : decode cX6_sendWhatItCan 5 = .ok (.istore_n 2, 1) := by decide +kernel
theorem dX6_sendWhatItCan_6 : decode cX6_sendWhatItCan 6 = .ok (.iload_n 2, 1) := by decide +kernel
theorem dX6_sendWhatItCan_7 : decode cX6_sendWhatItCan 7 = .ok (.bipush (-5), 2) := by decide +kernel
theorem dX6_sendWhatItCan_9 : decode cX6_sendWhatItCan 9 = .ok (.if_icmp .eq 78, 3) := by decide +kernel
theorem dX6_sendWhatItCan_12 : decode cX6_sendWhatItCan 12 = .ok (.aload_n 0, 1) := by decide +kernel
theorem dX6_sendWhatItCan_13 : decode cX6_sendWhatItCan 13 = .ok (.iload_n 1, 1) := by decide +kernel
theorem dX6_sendWhatItCan_14 : decode cX6_sendWhatItCan 14 = .ok (.iconst 1, 1) := by decide +kernel
theorem dX6_sendWhatItCan_15 : decode cX6_sendWhatItCan 15 = .ok (.invokevirtual 67, 3) := by decide +kernel
theorem dX6_sendWhatItCan_18 : decode cX6_sendWhatItCan 18 = .ok (.iconst 2, 1) := by decide +kernel
theorem dX6_sendWhatItCan_19 : decode cX6_sendWhatItCan 19 = .ok (.aload_n 0, 1) := by decide +kernel
theorem dX6_sendWhatItCan_20 : decode cX6_sendWhatItCan 20 = .ok (.getfield 7, 3) := by decide +kernel
theorem dX6_sendWhatItCan_23 : decode cX6_sendWhatItCan 23 = .ok (.bipush 9, 2) := by decide +kernel
theorem dX6_sendWhatItCan_25 : decode cX6_sendWhatItCan 25 = .ok (.iaload, 1) := by decide +kernel
theorem dX6_sendWhatItCan_26 : decode cX6_sendWhatItCan 26 = .ok (.imul, 1) := by decide +kernel
theorem dX6_sendWhatItCan_27 : decode cX6_sendWhatItCan 27 = .ok (.if_icmp .lt 60, 3) := by decide +kernel
theorem dX6_sendWhatItCan_30 : decode cX6_sendWhatItCan 30 = .ok (.aload_n 0, 1) := by decide +kernel
theorem dX6_sendWhatItCan_31 : decode cX6_sendWhatItCan 31 = .ok (.iload_n 1, 1) := by decide +kernel
theorem dX6_sendWhatItCan_32 : decode cX6_sendWhatItCan 32 = .ok (.iconst 1, 1) := by decide +kernel
theorem dX6_sendWhatItCan_33 : decode cX6_sendWhatItCan 33 = .ok (.invokevirtual 67, 3) := by decide +kernel
theorem dX6_sendWhatItCan_36 : decode cX6_sendWhatItCan 36 = .ok (.iconst 2, 1) := by decide +kernel
theorem dX6_sendWhatItCan_37 : decode cX6_sendWhatItCan 37 = .ok (.idiv, 1) := by decide +kernel
theorem dX6_sendWhatItCan_38 : decode cX6_sendWhatItCan 38 = .ok (.istore_n 3, 1) := by decide +kernel
theorem dX6_sendWhatItCan_39 : decode cX6_sendWhatItCan 39 = .ok (.aload_n 0, 1) := by decide +kernel
theorem dX6_sendWhatItCan_40 : decode cX6_sendWhatItCan 40 = .ok (.iload_n 1, 1) := by decide +kernel
theorem dX6_sendWhatItCan_41 : decode cX6_sendWhatItCan 41 = .ok (.iconst 1, 1) := by decide +kernel
theorem dX6_sendWhatItCan_42 : decode cX6_sendWhatItCan 42 = .ok (.iload_n 3, 1) := by decide +kernel
theorem dX6_sendWhatItCan_43 : decode cX6_sendWhatItCan 43 = .ok (.ineg, 1) := by decide +kernel
theorem dX6_sendWhatItCan_44 : decode cX6_sendWhatItCan 44 = .ok (.invokevirtual 70, 3) := by decide +kernel
theorem dX6_sendWhatItCan_47 : decode cX6_sendWhatItCan 47 = .ok (.aload_n 0, 1) := by decide +kernel
theorem dX6_sendWhatItCan_48 : decode cX6_sendWhatItCan 48 = .ok (.iload_n 1, 1) := by decide +kernel
theorem dX6_sendWhatItCan_49 : decode cX6_sendWhatItCan 49 = .ok (.iconst 5, 1) := by decide +kernel
theorem dX6_sendWhatItCan_50 : decode cX6_sendWhatItCan 50 = .ok (.iconst 1, 1) := by decide +kernel
theorem dX6_sendWhatItCan_51 : decode cX6_sendWhatItCan 51 = .ok (.invokevirtual 70, 3) := by decide +kernel
theorem dX6_sendWhatItCan_54 : decode cX6_sendWhatItCan 54 = .ok (.aload_n 0, 1) := by decide +kernel
theorem dX6_sendWhatItCan_55 : decode cX6_sendWhatItCan 55 = .ok (.iload_n 2, 1) := by decide +kernel
theorem dX6_sendWhatItCan_56 : decode cX6_sendWhatItCan 56 = .ok (.iconst 4, 1) := by decide +kernel
theorem dX6_sendWhatItCan_57 : decode cX6_sendWhatItCan 57 = .ok (.bipush 7, 2) := by decide +kernel
theorem dX6_sendWhatItCan_59 : decode cX6_sendWhatItCan 59 = .ok (.invokevirtual 53, 3) := by decide +kernel
theorem dX6_sendWhatItCan_62 : decode cX6_sendWhatItCan 62 = .ok (.aload_n 0, 1) := by decide +kernel
theorem dX6_sendWhatItCan_63 : decode cX6_sendWhatItCan 63 = .ok (.iconst 0, 1) := by decide +kernel
theorem dX6_sendWhatItCan_64 : decode cX6_sendWhatItCan 64 = .ok (.iload_n 1, 1) := by decide +kernel
theorem dX6_sendWhatItCan_65 : decode cX6_sendWhatItCan 65 = .ok (.aload_n 0, 1) := by decide +kernel
theorem dX6_sendWhatItCan_66 : decode cX6_sendWhatItCan 66 = .ok (.iload_n 2, 1) := by decide +kernel
theorem dX6_sendWhatItCan_67 : decode cX6_sendWhatItCan 67 = .ok (.iconst 0, 1) := by decide +kernel
theorem dX6_sendWhatItCan_68 : decode cX6_sendWhatItCan 68 = .ok (.invokevirtual 39, 3) := by decide +kernel
theorem dX6_sendWhatItCan_71 : decode cX6_sendWhatItCan 71 = .ok (.iload_n 3, 1) := by decide +kernel
theorem dX6_sendWhatItCan_72 : decode cX6_sendWhatItCan 72 = .ok (.iload_n 2, 1) := by decide +kernel
theorem dX6_sendWhatItCan_73 : decode cX6_sendWhatItCan 73 = .ok (.iconst 1, 1) := by decide +kernel
theorem dX6_sendWhatItCan_74 : decode cX6_sendWhatItCan 74 = .ok (.iadd, 1) := by decide +kernel
theorem dX6_sendWhatItCan_75 : decode cX6_sendWhatItCan 75 = .ok (.invokevirtual 73, 3) := by decide +kernel
theorem dX6_sendWhatItCan_78 : decode cX6_sendWhatItCan 78 = .ok (.aload_n 0, 1) := by decide +kernel
theorem dX6_sendWhatItCan_79 : decode cX6_sendWhatItCan 79 = .ok (.iload_n 1, 1) := by decide +kernel
theorem dX6_sendWhatItCan_80 : decode cX6_sendWhatItCan 80 = .ok (.invokevirtual 63, 3) := by decide +kernel
theorem dX6_sendWhatItCan_83 : decode cX6_sendWhatItCan 83 = .ok (.istore_n 2, 1) := by decide +kernel
theorem dX6_sendWhatItCan_84 : decode cX6_sendWhatItCan 84 = .ok (.goto (-78), 3) := by decide +kernel
theorem dX6_sendWhatItCan_87 : decode cX6_sendWhatItCan 87 = .ok (.iload_n 2, 1) := by decide +kernel
theorem dX6_sendWhatItCan_88 : decode cX6_sendWhatItCan 88 = .ok (.bipush (-5), 2) := by decide +kernel
theorem dX6_sendWhatItCan_90 : decode cX6_sendWhatItCan 90 = .ok (.if_icmp .eq 37, 3) := by decide +kernel
theorem dX6_sendWhatItCan_93 : decode cX6_sendWhatItCan 93 = .ok (.aload_n 0, 1) := by decide +kernel
theorem dX6_sendWhatItCan_94 : decode cX6_sendWhatItCan 94 = .ok (.iload_n 1, 1) := by decide +kernel
theorem dX6_sendWhatItCan_95 : decode cX6_sendWhatItCan 95 = .ok (.iconst 3, 1) := by decide +kernel
theorem dX6_sendWhatItCan_96 : decode cX6_sendWhatItCan 96 = .ok (.invokevirtual 67, 3) := by decide +kernel
theorem dX6_sendWhatItCan_99 : decode cX6_sendWhatItCan 99 = .ok (.ifCond .ne 28, 3) := by decide +kernel
theorem dX6_sendWhatItCan_102 : decode cX6_sendWhatItCan 102 = .ok (.aload_n 0, 1) := by decide +kernel
theorem dX6_sendWhatItCan_103 : decode cX6_sendWhatItCan 103 = .ok (.iload_n 1, 1) := by decide +kernel
theorem dX6_sendWhatItCan_104 : decode cX6_sendWhatItCan 104 = .ok (.iconst 3, 1) := by decide +kernel
theorem dX6_sendWhatItCan_105 : decode cX6_sendWhatItCan 105 = .ok (.iconst 1, 1) := by decide +kernel
theorem dX6_sendWhatItCan_106 : decode cX6_sendWhatItCan 106 = .ok (.invokevirtual 77, 3) := by decide +kernel
theorem dX6_sendWhatItCan_109 : decode cX6_sendWhatItCan 109 = .ok (.aload_n 0, 1) := by decide +kernel
theorem dX6_sendWhatItCan_110 : decode cX6_sendWhatItCan 110 = .ok (.iload_n 1, 1) := by decide +kernel
theorem dX6_sendWhatItCan_111 : decode cX6_sendWhatItCan 111 = .ok (.bipush 6, 2) := by decide +kernel
theorem dX6_sendWhatItCan_113 : decode cX6_sendWhatItCan 113 = .ok (.iconst 1, 1) := by decide +kernel
theorem dX6_sendWhatItCan_114 : decode cX6_sendWhatItCan 114 = .ok (.invokevirtual 70, 3) := by decide +kernel
theorem dX6_sendWhatItCan_117 : decode cX6_sendWhatItCan 117 = .ok (.aload_n 0, 1) := by decide +kernel
theorem dX6_sendWhatItCan_118 : decode cX6_sendWhatItCan 118 = .ok (.iconst 1, 1) := by decide +kernel
theorem dX6_sendWhatItCan_119 : decode cX6_sendWhatItCan 119 = .ok (.iload_n 1, 1) := by decide +kernel
theorem dX6_sendWhatItCan_120 : decode cX6_sendWhatItCan 120 = .ok (.bipush 6, 2) := by decide +kernel
theorem dX6_sendWhatItCan_122 : decode cX6_sendWhatItCan 122 = .ok (.iconst 0, 1) := by decide +kernel
theorem dX6_sendWhatItCan_123 : decode cX6_sendWhatItCan 123 = .ok (.iconst 0, 1) := by decide +kernel
theorem dX6_sendWhatItCan_124 : decode cX6_sendWhatItCan 124 = .ok (.invokevirtual 73, 3) := by decide +kernel
theorem dX6_sendWhatItCan_127 : decode cX6_sendWhatItCan 127 = .ok (.return_, 1) := by decide +kernel
theorem dX6_errandArrives_0 : decode cX6_errandArrives 0 = .ok (.aload_n 0, 1) := by decide +kernel
theorem dX6_errandArrives_1 : decode cX6_errandArrives 1 = .ok (.iload_n 1, 1) := by decide +kernel
theorem dX6_errandArrives_2 : decode cX6_errandArrives 2 = .ok (.iconst 0, 1) := by decide +kernel
theorem dX6_errandArrives_3 : decode cX6_errandArrives 3 = .ok (.iconst 1, 1) := by decide +kernel
theorem dX6_errandArrives_4 : decode cX6_errandArrives 4 = .ok (.invokevirtual 77, 3) := by decide +kernel
theorem dX6_errandArrives_7 : decode cX6_errandArrives 7 = .ok (.aload_n 0, 1) := by decide +kernel
theorem dX6_errandArrives_8 : decode cX6_errandArrives 8 = .ok (.iload_n 1, 1) := by decide +kernel
theorem dX6_errandArrives_9 : decode cX6_errandArrives 9 = .ok (.iconst 1, 1) := by decide +kernel
theorem dX6_errandArrives_10 : decode cX6_errandArrives 10 = .ok (.iload_n 2, 1) := by decide +kernel
theorem dX6_errandArrives_11 : decode cX6_errandArrives 11 = .ok (.invokevirtual 70, 3) := by decide +kernel
theorem dX6_errandArrives_14 : decode cX6_errandArrives 14 = .ok (.aload_n 0, 1) := by decide +kernel
theorem dX6_errandArrives_15 : decode cX6_errandArrives 15 = .ok (.iload_n 1, 1) := by decide +kernel
theorem dX6_errandArrives_16 : decode cX6_errandArrives 16 = .ok (.iconst 2, 1) := by decide +kernel
theorem dX6_errandArrives_17 : decode cX6_errandArrives 17 = .ok (.aload_n 0, 1) := by decide +kernel
theorem dX6_errandArrives_18 : decode cX6_errandArrives 18 = .ok (.iload_n 3, 1) := by decide +kernel
theorem dX6_errandArrives_19 : decode cX6_errandArrives 19 = .ok (.iconst 1, 1) := by decide +kernel
theorem dX6_errandArrives_20 : decode cX6_errandArrives 20 = .ok (.invokevirtual 39, 3) := by decide +kernel
theorem dX6_errandArrives_23 : decode cX6_errandArrives 23 = .ok (.invokevirtual 70, 3) := by decide +kernel
theorem dX6_errandArrives_26 : decode cX6_errandArrives 26 = .ok (.aload_n 0, 1) := by decide +kernel
theorem dX6_errandArrives_27 : decode cX6_errandArrives 27 = .ok (.iload_n 1, 1) := by decide +kernel
theorem dX6_errandArrives_28 : decode cX6_errandArrives 28 = .ok (.iconst 4, 1) := by decide +kernel
theorem dX6_errandArrives_29 : decode cX6_errandArrives 29 = .ok (.iconst 1, 1) := by decide +kernel
theorem dX6_errandArrives_30 : decode cX6_errandArrives 30 = .ok (.invokevirtual 70, 3) := by decide +kernel
theorem dX6_errandArrives_33 : decode cX6_errandArrives 33 = .ok (.aload_n 0, 1) := by decide +kernel
theorem dX6_errandArrives_34 : decode cX6_errandArrives 34 = .ok (.bipush 8, 2) := by decide +kernel
theorem dX6_errandArrives_36 : decode cX6_errandArrives 36 = .ok (.iload_n 3, 1) := by decide +kernel
theorem dX6_errandArrives_37 : decode cX6_errandArrives 37 = .ok (.iconst 1, 1) := by decide +kernel
theorem dX6_errandArrives_38 : decode cX6_errandArrives 38 = .ok (.iadd, 1) := by decide +kernel
theorem dX6_errandArrives_39 : decode cX6_errandArrives 39 = .ok (.invokevirtual 43, 3) := by decide +kernel
theorem dX6_errandArrives_42 : decode cX6_errandArrives 42 = .ok (.istore 4, 2) := by decide +kernel
theorem dX6_errandArrives_44 : decode cX6_errandArrives 44 = .ok (.iload 4, 2) := by decide +kernel
theorem dX6_errandArrives_46 : decode cX6_errandArrives 46 = .ok (.bipush (-5), 2) := by decide +kernel
theorem dX6_errandArrives_48 : decode cX6_errandArrives 48 = .ok (.if_icmp .eq 60, 3) := by decide +kernel
theorem dX6_errandArrives_51 : decode cX6_errandArrives 51 = .ok (.aload_n 0, 1) := by decide +kernel
theorem dX6_errandArrives_52 : decode cX6_errandArrives 52 = .ok (.getfield 7, 3) := by decide +kernel
theorem dX6_errandArrives_55 : decode cX6_errandArrives 55 = .ok (.bipush 10, 2) := by decide +kernel
theorem dX6_errandArrives_57 : decode cX6_errandArrives 57 = .ok (.dup2, 1) := by decide +kernel
theorem dX6_errandArrives_58 : decode cX6_errandArrives 58 = .ok (.iaload, 1) := by decide +kernel
theorem dX6_errandArrives_59 : decode cX6_errandArrives 59 = .ok (.iconst 1, 1) := by decide +kernel
theorem dX6_errandArrives_60 : decode cX6_errandArrives 60 = .ok (.iadd, 1) := by decide +kernel
theorem dX6_errandArrives_61 : decode cX6_errandArrives 61 = .ok (.iastore, 1) := by decide +kernel
theorem dX6_errandArrives_62 : decode cX6_errandArrives 62 = .ok (.aload_n 0, 1) := by decide +kernel
theorem dX6_errandArrives_63 : decode cX6_errandArrives 63 = .ok (.iload 4, 2) := by decide +kernel
theorem dX6_errandArrives_65 : decode cX6_errandArrives 65 = .ok (.iconst 3, 1) := by decide +kernel
theorem dX6_errandArrives_66 : decode cX6_errandArrives 66 = .ok (.aload_n 0, 1) := by decide +kernel
theorem dX6_errandArrives_67 : decode cX6_errandArrives 67 = .ok (.getfield 7, 3) := by decide +kernel
theorem dX6_errandArrives_70 : decode cX6_errandArrives 70 = .ok (.bipush 10, 2) := by decide +kernel
theorem dX6_errandArrives_72 : decode cX6_errandArrives 72 = .ok (.iaload, 1) := by decide +kernel
theorem dX6_errandArrives_73 : decode cX6_errandArrives 73 = .ok (.invokevirtual 53, 3) := by decide +kernel
theorem dX6_errandArrives_76 : decode cX6_errandArrives 76 = .ok (.aload_n 0, 1) := by decide +kernel
theorem dX6_errandArrives_77 : decode cX6_errandArrives 77 = .ok (.iload 4, 2) := by decide +kernel
theorem dX6_errandArrives_79 : decode cX6_errandArrives 79 = .ok (.iconst 2, 1) := by decide +kernel
theorem dX6_errandArrives_80 : decode cX6_errandArrives 80 = .ok (.iconst 0, 1) := by decide +kernel
theorem dX6_errandArrives_81 : decode cX6_errandArrives 81 = .ok (.invokevirtual 53, 3) := by decide +kernel
theorem dX6_errandArrives_84 : decode cX6_errandArrives 84 = .ok (.aload_n 0, 1) := by decide +kernel
theorem dX6_errandArrives_85 : decode cX6_errandArrives 85 = .ok (.iload 4, 2) := by decide +kernel
theorem dX6_errandArrives_87 : decode cX6_errandArrives 87 = .ok (.iconst 4, 1) := by decide +kernel
theorem dX6_errandArrives_88 : decode cX6_errandArrives 88 = .ok (.iload_n 1, 1) := by decide +kernel
theorem dX6_errandArrives_89 : decode cX6_errandArrives 89 = .ok (.iconst 1, 1) := by decide +kernel
theorem dX6_errandArrives_90 : decode cX6_errandArrives 90 = .ok (.iadd, 1) := by decide +kernel
theorem dX6_errandArrives_91 : decode cX6_errandArrives 91 = .ok (.invokevirtual 53, 3) := by decide +kernel
theorem dX6_errandArrives_94 : decode cX6_errandArrives 94 = .ok (.aload_n 0, 1) := by decide +kernel
theorem dX6_errandArrives_95 : decode cX6_errandArrives 95 = .ok (.bipush 8, 2) := by decide +kernel
theorem dX6_errandArrives_97 : decode cX6_errandArrives 97 = .ok (.iload_n 3, 1) := by decide +kernel
theorem dX6_errandArrives_98 : decode cX6_errandArrives 98 = .ok (.iconst 1, 1) := by decide +kernel
theorem dX6_errandArrives_99 : decode cX6_errandArrives 99 = .ok (.iadd, 1) := by decide +kernel
theorem dX6_errandArrives_100 : decode cX6_errandArrives 100 = .ok (.invokevirtual 43, 3) := by decide +kernel
theorem dX6_errandArrives_103 : decode cX6_errandArrives 103 = .ok (.istore 4, 2) := by decide +kernel
theorem dX6_errandArrives_105 : decode cX6_errandArrives 105 = .ok (.goto (-61), 3) := by decide +kernel
theorem dX6_errandArrives_108 : decode cX6_errandArrives 108 = .ok (.aload_n 0, 1) := by decide +kernel
theorem dX6_errandArrives_109 : decode cX6_errandArrives 109 = .ok (.iload_n 3, 1) := by decide +kernel
theorem dX6_errandArrives_110 : decode cX6_errandArrives 110 = .ok (.iconst 4, 1) := by decide +kernel
theorem dX6_errandArrives_111 : decode cX6_errandArrives 111 = .ok (.iconst 0, 1) := by decide +kernel
theorem dX6_errandArrives_112 : decode cX6_errandArrives 112 = .ok (.invokevirtual 53, 3) := by decide +kernel
theorem dX6_errandArrives_115 : decode cX6_errandArrives 115 = .ok (.aload_n 0, 1) := by decide +kernel
theorem dX6_errandArrives_116 : decode cX6_errandArrives 116 = .ok (.iload_n 1, 1) := by decide +kernel
theorem dX6_errandArrives_117 : decode cX6_errandArrives 117 = .ok (.invokevirtual 80, 3) := by decide +kernel
theorem dX6_errandArrives_120 : decode cX6_errandArrives 120 = .ok (.return_, 1) := by decide +kernel
theorem dX6_arrive_0 : decode cX6_arrive 0 = .ok (.aload_n 0, 1) := by decide +kernel
theorem dX6_arrive_1 : decode cX6_arrive 1 = .ok (.iload_n 1, 1) := by decide +kernel
theorem dX6_arrive_2 : decode cX6_arrive 2 = .ok (.iconst 0, 1) := by decide +kernel
theorem dX6_arrive_3 : decode cX6_arrive 3 = .ok (.invokevirtual 60, 3) := by decide +kernel
theorem dX6_arrive_6 : decode cX6_arrive 6 = .ok (.istore_n 2, 1) := by decide +kernel
theorem dX6_arrive_7 : decode cX6_arrive 7 = .ok (.aload_n 0, 1) := by decide +kernel
theorem dX6_arrive_8 : decode cX6_arrive 8 = .ok (.iload_n 1, 1) := by decide +kernel
theorem dX6_arrive_9 : decode cX6_arrive 9 = .ok (.iconst 1, 1) := by decide +kernel
theorem dX6_arrive_10 : decode cX6_arrive 10 = .ok (.invokevirtual 60, 3) := by decide +kernel
theorem dX6_arrive_13 : decode cX6_arrive 13 = .ok (.istore_n 3, 1) := by decide +kernel
theorem dX6_arrive_14 : decode cX6_arrive 14 = .ok (.aload_n 0, 1) := by decide +kernel
theorem dX6_arrive_15 : decode cX6_arrive 15 = .ok (.iload_n 1, 1) := by decide +kernel
theorem dX6_arrive_16 : decode cX6_arrive 16 = .ok (.iconst 2, 1) := by decide +kernel
theorem dX6_arrive_17 : decode cX6_arrive 17 = .ok (.invokevirtual 60, 3) := by decide +kernel
theorem dX6_arrive_20 : decode cX6_arrive 20 = .ok (.istore 4, 2) := by decide +kernel
theorem dX6_arrive_22 : decode cX6_arrive 22 = .ok (.aload_n 0, 1) := by decide +kernel
theorem dX6_arrive_23 : decode cX6_arrive 23 = .ok (.iload_n 1, 1) := by decide +kernel
theorem dX6_arrive_24 : decode cX6_arrive 24 = .ok (.iconst 3, 1) := by decide +kernel
theorem dX6_arrive_25 : decode cX6_arrive 25 = .ok (.invokevirtual 60, 3) := by decide +kernel
theorem dX6_arrive_28 : decode cX6_arrive 28 = .ok (.istore 5, 2) := by decide +kernel
theorem dX6_arrive_30 : decode cX6_arrive 30 = .ok (.aload_n 0, 1) := by decide +kernel
theorem dX6_arrive_31 : decode cX6_arrive 31 = .ok (.iload_n 1, 1) := by decide +kernel
theorem dX6_arrive_32 : decode cX6_arrive 32 = .ok (.iconst 5, 1) := by decide +kernel
theorem dX6_arrive_33 : decode cX6_arrive 33 = .ok (.invokevirtual 60, 3) := by decide +kernel
theorem dX6_arrive_36 : decode cX6_arrive 36 = .ok (.iconst 1, 1) := by decide +kernel
theorem dX6_arrive_37 : decode cX6_arrive 37 = .ok (.isub, 1) := by decide +kernel
theorem dX6_arrive_38 : decode cX6_arrive 38 = .ok (.istore 6, 2) := by decide +kernel
theorem dX6_arrive_40 : decode cX6_arrive 40 = .ok (.aload_n 0, 1) := by decide +kernel
theorem dX6_arrive_41 : decode cX6_arrive 41 = .ok (.iload_n 1, 1) := by decide +kernel
theorem dX6_arrive_42 : decode cX6_arrive 42 = .ok (.invokevirtual 84, 3) := by decide +kernel
theorem dX6_arrive_45 : decode cX6_arrive 45 = .ok (.iload_n 2, 1) := by decide +kernel
theorem dX6_arrive_46 : decode cX6_arrive 46 = .ok (.tableswitch 81 0 2 #[26, 39, 55], 26) := by decide +kernel
theorem dX6_arrive_72 : decode cX6_arrive 72 = .ok (.aload_n 0, 1) := by decide +kernel
theorem dX6_arrive_73 : decode cX6_arrive 73 = .ok (.iload 4, 2) := by decide +kernel
theorem dX6_arrive_75 : decode cX6_arrive 75 = .ok (.iload 5, 2) := by decide +kernel
theorem dX6_arrive_77 : decode cX6_arrive 77 = .ok (.iload 6, 2) := by decide +kernel
theorem dX6_arrive_79 : decode cX6_arrive 79 = .ok (.invokevirtual 87, 3) := by decide +kernel
theorem dX6_arrive_82 : decode cX6_arrive 82 = .ok (.goto 56, 3) := by decide +kernel
theorem dX6_arrive_85 : decode cX6_arrive 85 = .ok (.aload_n 0, 1) := by decide +kernel
theorem dX6_arrive_86 : decode cX6_arrive 86 = .ok (.iconst 2, 1) := by decide +kernel
theorem dX6_arrive_87 : decode cX6_arrive 87 = .ok (.bipush 6, 2) := by decide +kernel
theorem dX6_arrive_89 : decode cX6_arrive 89 = .ok (.iload_n 3, 1) := by decide +kernel
theorem dX6_arrive_90 : decode cX6_arrive 90 = .ok (.aload_n 0, 1) := by decide +kernel
theorem dX6_arrive_91 : decode cX6_arrive 91 = .ok (.invokevirtual 90, 3) := by decide +kernel
theorem dX6_arrive_94 : decode cX6_arrive 94 = .ok (.iconst 0, 1) := by decide +kernel
theorem dX6_arrive_95 : decode cX6_arrive 95 = .ok (.invokevirtual 73, 3) := by decide +kernel
theorem dX6_arrive_98 : decode cX6_arrive 98 = .ok (.goto 40, 3) := by decide +kernel
theorem dX6_arrive_101 : decode cX6_arrive 101 = .ok (.aload_n 0, 1) := by decide +kernel
theorem dX6_arrive_102 : decode cX6_arrive 102 = .ok (.iload 4, 2) := by decide +kernel
theorem dX6_arrive_104 : decode cX6_arrive 104 = .ok (.iconst 1, 1) := by decide +kernel
theorem dX6_arrive_105 : decode cX6_arrive 105 = .ok (.iload 5, 2) := by decide +kernel
theorem dX6_arrive_107 : decode cX6_arrive 107 = .ok (.invokevirtual 70, 3) := by decide +kernel
theorem dX6_arrive_110 : decode cX6_arrive 110 = .ok (.aload_n 0, 1) := by decide +kernel
theorem dX6_arrive_111 : decode cX6_arrive 111 = .ok (.iload 4, 2) := by decide +kernel
theorem dX6_arrive_113 : decode cX6_arrive 113 = .ok (.iconst 3, 1) := by decide +kernel
theorem dX6_arrive_114 : decode cX6_arrive 114 = .ok (.iconst 0, 1) := by decide +kernel
theorem dX6_arrive_115 : decode cX6_arrive 115 = .ok (.invokevirtual 77, 3) := by decide +kernel
theorem dX6_arrive_118 : decode cX6_arrive 118 = .ok (.aload_n 0, 1) := by decide +kernel
theorem dX6_arrive_119 : decode cX6_arrive 119 = .ok (.iload 4, 2) := by decide +kernel
theorem dX6_arrive_121 : decode cX6_arrive 121 = .ok (.invokevirtual 80, 3) := by decide +kernel
theorem dX6_arrive_124 : decode cX6_arrive 124 = .ok (.goto 14, 3) := by decide +kernel
theorem dX6_arrive_127 : decode cX6_arrive 127 = .ok (.aload_n 0, 1) := by decide +kernel
theorem dX6_arrive_128 : decode cX6_arrive 128 = .ok (.getfield 7, 3) := by decide +kernel
theorem dX6_arrive_131 : decode cX6_arrive 131 = .ok (.iconst 2, 1) := by decide +kernel
theorem dX6_arrive_132 : decode cX6_arrive 132 = .ok (.dup2, 1) := by decide +kernel
theorem dX6_arrive_133 : decode cX6_arrive 133 = .ok (.iaload, 1) := by decide +kernel
theorem dX6_arrive_134 : decode cX6_arrive 134 = .ok (.iload 5, 2) := by decide +kernel
theorem dX6_arrive_136 : decode cX6_arrive 136 = .ok (.iadd, 1) := by decide +kernel
theorem dX6_arrive_137 : decode cX6_arrive 137 = .ok (.iastore, 1) := by decide +kernel
theorem dX6_arrive_138 : decode cX6_arrive 138 = .ok (.return_, 1) := by decide +kernel
theorem dX6_work_0 : decode cX6_work 0 = .ok (.aload_n 0, 1) := by decide +kernel
theorem dX6_work_1 : decode cX6_work 1 = .ok (.iload_n 1, 1) := by decide +kernel
theorem dX6_work_2 : decode cX6_work 2 = .ok (.iconst 2, 1) := by decide +kernel
theorem dX6_work_3 : decode cX6_work 3 = .ok (.invokevirtual 67, 3) := by decide +kernel
theorem dX6_work_6 : decode cX6_work 6 = .ok (.ifCond .le 10, 3) := by decide +kernel
theorem dX6_work_9 : decode cX6_work 9 = .ok (.aload_n 0, 1) := by decide +kernel
theorem dX6_work_10 : decode cX6_work 10 = .ok (.iload_n 1, 1) := by decide +kernel
theorem dX6_work_11 : decode cX6_work 11 = .ok (.iconst 2, 1) := by decide +kernel
theorem dX6_work_12 : decode cX6_work 12 = .ok (.iconst (-1), 1) := by decide +kernel
theorem dX6_work_13 : decode cX6_work 13 = .ok (.invokevirtual 70, 3) := by decide +kernel
theorem dX6_work_16 : decode cX6_work 16 = .ok (.aload_n 0, 1) := by decide +kernel
theorem dX6_work_17 : decode cX6_work 17 = .ok (.iload_n 1, 1) := by decide +kernel
theorem dX6_work_18 : decode cX6_work 18 = .ok (.iconst 2, 1) := by decide +kernel
theorem dX6_work_19 : decode cX6_work 19 = .ok (.invokevirtual 67, 3) := by decide +kernel
theorem dX6_work_22 : decode cX6_work 22 = .ok (.ifCond .ne 65, 3) := by decide +kernel
theorem dX6_work_25 : decode cX6_work 25 = .ok (.aload_n 0, 1) := by decide +kernel
theorem dX6_work_26 : decode cX6_work 26 = .ok (.iload_n 1, 1) := by decide +kernel
theorem dX6_work_27 : decode cX6_work 27 = .ok (.invokevirtual 63, 3) := by decide +kernel
theorem dX6_work_30 : decode cX6_work 30 = .ok (.bipush (-5), 2) := by decide +kernel
theorem dX6_work_32 : decode cX6_work 32 = .ok (.if_icmp .ne 55, 3) := by decide +kernel
theorem dX6_work_35 : decode cX6_work 35 = .ok (.aload_n 0, 1) := by decide +kernel
theorem dX6_work_36 : decode cX6_work 36 = .ok (.iload_n 1, 1) := by decide +kernel
theorem dX6_work_37 : decode cX6_work 37 = .ok (.iconst 3, 1) := by decide +kernel
theorem dX6_work_38 : decode cX6_work 38 = .ok (.invokevirtual 67, 3) := by decide +kernel
theorem dX6_work_41 : decode cX6_work 41 = .ok (.ifCond .ne 46, 3) := by decide +kernel
theorem dX6_work_44 : decode cX6_work 44 = .ok (.aload_n 0, 1) := by decide +kernel
theorem dX6_work_45 : decode cX6_work 45 = .ok (.iload_n 1, 1) := by decide +kernel
theorem dX6_work_46 : decode cX6_work 46 = .ok (.iconst 1, 1) := by decide +kernel
theorem dX6_work_47 : decode cX6_work 47 = .ok (.invokevirtual 67, 3) := by decide +kernel
theorem dX6_work_50 : decode cX6_work 50 = .ok (.istore_n 2, 1) := by decide +kernel
theorem dX6_work_51 : decode cX6_work 51 = .ok (.aload_n 0, 1) := by decide +kernel
theorem dX6_work_52 : decode cX6_work 52 = .ok (.iload_n 1, 1) := by decide +kernel
theorem dX6_work_53 : decode cX6_work 53 = .ok (.iconst 0, 1) := by decide +kernel
theorem dX6_work_54 : decode cX6_work 54 = .ok (.iconst 0, 1) := by decide +kernel
theorem dX6_work_55 : decode cX6_work 55 = .ok (.invokevirtual 77, 3) := by decide +kernel
theorem dX6_work_58 : decode cX6_work 58 = .ok (.aload_n 0, 1) := by decide +kernel
theorem dX6_work_59 : decode cX6_work 59 = .ok (.iload_n 1, 1) := by decide +kernel
theorem dX6_work_60 : decode cX6_work 60 = .ok (.iconst 1, 1) := by decide +kernel
theorem dX6_work_61 : decode cX6_work 61 = .ok (.iconst 0, 1) := by decide +kernel
theorem dX6_work_62 : decode cX6_work 62 = .ok (.invokevirtual 77, 3) := by decide +kernel
theorem dX6_work_65 : decode cX6_work 65 = .ok (.aload_n 0, 1) := by decide +kernel
theorem dX6_work_66 : decode cX6_work 66 = .ok (.iload_n 1, 1) := by decide +kernel
theorem dX6_work_67 : decode cX6_work 67 = .ok (.bipush 7, 2) := by decide +kernel
theorem dX6_work_69 : decode cX6_work 69 = .ok (.iconst 1, 1) := by decide +kernel
theorem dX6_work_70 : decode cX6_work 70 = .ok (.invokevirtual 70, 3) := by decide +kernel
theorem dX6_work_73 : decode cX6_work 73 = .ok (.iload_n 2, 1) := by decide +kernel
theorem dX6_work_74 : decode cX6_work 74 = .ok (.ifCond .le 13, 3) := by decide +kernel
theorem dX6_work_77 : decode cX6_work 77 = .ok (.aload_n 0, 1) := by decide +kernel
theorem dX6_work_78 : decode cX6_work 78 = .ok (.iconst 3, 1) := by decide +kernel
theorem dX6_work_79 : decode cX6_work 79 = .ok (.iload_n 1, 1) := by decide +kernel
theorem dX6_work_80 : decode cX6_work 80 = .ok (.bipush 6, 2) := by decide +kernel
theorem dX6_work_82 : decode cX6_work 82 = .ok (.iload_n 2, 1) := by decide +kernel
theorem dX6_work_83 : decode cX6_work 83 = .ok (.iconst 0, 1) := by decide +kernel
theorem dX6_work_84 : decode cX6_work 84 = .ok (.invokevirtual 73, 3) := by decide +kernel
theorem dX6_work_87 : decode cX6_work 87 = .ok (.return_, 1) := by decide +kernel
theorem dX6_tick_0 : decode cX6_tick 0 = .ok (.aload_n 0, 1) := by decide +kernel
theorem dX6_tick_1 : decode cX6_tick 1 = .ok (.getfield 7, 3) := by decide +kernel
theorem dX6_tick_4 : decode cX6_tick 4 = .ok (.iconst 0, 1) := by decide +kernel
theorem dX6_tick_5 : decode cX6_tick 5 = .ok (.dup2, 1) := by decide +kernel
theorem dX6_tick_6 : decode cX6_tick 6 = .ok (.iaload, 1) := by decide +kernel
theorem dX6_tick_7 : decode cX6_tick 7 = .ok (.iconst 1, 1) := by decide +kernel
theorem dX6_tick_8 : decode cX6_tick 8 = .ok (.iadd, 1) := by decide +kernel
theorem dX6_tick_9 : decode cX6_tick 9 = .ok (.iastore, 1) := by decide +kernel
theorem dX6_tick_10 : decode cX6_tick 10 = .ok (.iconst 0, 1) := by decide +kernel
theorem dX6_tick_11 : decode cX6_tick 11 = .ok (.istore_n 1, 1) := by decide +kernel
theorem dX6_tick_12 : decode cX6_tick 12 = .ok (.iload_n 1, 1) := by decide +kernel
theorem dX6_tick_13 : decode cX6_tick 13 = .ok (.aload_n 0, 1) := by decide +kernel
theorem dX6_tick_14 : decode cX6_tick 14 = .ok (.getfield 7, 3) := by decide +kernel
theorem dX6_tick_17 : decode cX6_tick 17 = .ok (.iconst 4, 1) := by decide +kernel
theorem dX6_tick_18 : decode cX6_tick 18 = .ok (.iaload, 1) := by decide +kernel
theorem dX6_tick_19 : decode cX6_tick 19 = .ok (.if_icmp .ge 32, 3) := by decide +kernel
theorem dX6_tick_22 : decode cX6_tick 22 = .ok (.aload_n 0, 1) := by decide +kernel
theorem dX6_tick_23 : decode cX6_tick 23 = .ok (.iload_n 1, 1) := by decide +kernel
theorem dX6_tick_24 : decode cX6_tick 24 = .ok (.iconst 4, 1) := by decide +kernel
theorem dX6_tick_25 : decode cX6_tick 25 = .ok (.invokevirtual 60, 3) := by decide +kernel
theorem dX6_tick_28 : decode cX6_tick 28 = .ok (.aload_n 0, 1) := by decide +kernel
theorem dX6_tick_29 : decode cX6_tick 29 = .ok (.getfield 7, 3) := by decide +kernel
theorem dX6_tick_32 : decode cX6_tick 32 = .ok (.iconst 0, 1) := by decide +kernel
theorem dX6_tick_33 : decode cX6_tick 33 = .ok (.iaload, 1) := by decide +kernel
theorem dX6_tick_34 : decode cX6_tick 34 = .ok (.if_icmp .ne 11, 3) := by decide +kernel
theorem dX6_tick_37 : decode cX6_tick 37 = .ok (.aload_n 0, 1) := by decide +kernel
theorem dX6_tick_38 : decode cX6_tick 38 = .ok (.iload_n 1, 1) := by decide +kernel
theorem dX6_tick_39 : decode cX6_tick 39 = .ok (.invokevirtual 94, 3) := by decide +kernel
theorem dX6_tick_42 : decode cX6_tick 42 = .ok (.goto (-30), 3) := by decide +kernel
theorem dX6_tick_45 : decode cX6_tick 45 = .ok (.iinc 1 1, 3) := by decide +kernel
theorem dX6_tick_48 : decode cX6_tick 48 = .ok (.goto (-36), 3) := by decide +kernel
theorem dX6_tick_51 : decode cX6_tick 51 = .ok (.iconst 0, 1) := by decide +kernel
theorem dX6_tick_52 : decode cX6_tick 52 = .ok (.istore_n 2, 1) := by decide +kernel
theorem dX6_tick_53 : decode cX6_tick 53 = .ok (.iload_n 2, 1) := by decide +kernel
theorem dX6_tick_54 : decode cX6_tick 54 = .ok (.bipush 6, 2) := by decide +kernel
theorem dX6_tick_56 : decode cX6_tick 56 = .ok (.if_icmp .ge 24, 3) := by decide +kernel
theorem dX6_tick_59 : decode cX6_tick 59 = .ok (.aload_n 0, 1) := by decide +kernel
theorem dX6_tick_60 : decode cX6_tick 60 = .ok (.iload_n 2, 1) := by decide +kernel
theorem dX6_tick_61 : decode cX6_tick 61 = .ok (.iconst 0, 1) := by decide +kernel
theorem dX6_tick_62 : decode cX6_tick 62 = .ok (.invokevirtual 67, 3) := by decide +kernel
theorem dX6_tick_65 : decode cX6_tick 65 = .ok (.iconst 1, 1) := by decide +kernel
theorem dX6_tick_66 : decode cX6_tick 66 = .ok (.if_icmp .ne 8, 3) := by decide +kernel
theorem dX6_tick_69 : decode cX6_tick 69 = .ok (.aload_n 0, 1) := by decide +kernel
theorem dX6_tick_70 : decode cX6_tick 70 = .ok (.iload_n 2, 1) := by decide +kernel
theorem dX6_tick_71 : decode cX6_tick 71 = .ok (.invokevirtual 97, 3) := by decide +kernel
theorem dX6_tick_74 : decode cX6_tick 74 = .ok (.iinc 2 1, 3) := by decide +kernel
theorem dX6_tick_77 : decode cX6_tick 77 = .ok (.goto (-24), 3) := by decide +kernel
theorem dX6_tick_80 : decode cX6_tick 80 = .ok (.return_, 1) := by decide +kernel
theorem dX6_sumOfHouses_0 : decode cX6_sumOfHouses 0 = .ok (.iconst 0, 1) := by decide +kernel
theorem dX6_sumOfHouses_1 : decode cX6_sumOfHouses 1 = .ok (.istore_n 2, 1) := by decide +kernel
theorem dX6_sumOfHouses_2 : decode cX6_sumOfHouses 2 = .ok (.iconst 0, 1) := by decide +kernel
theorem dX6_sumOfHouses_3 : decode cX6_sumOfHouses 3 = .ok (.istore_n 3, 1) := by decide +kernel
theorem dX6_sumOfHouses_4 : decode cX6_sumOfHouses 4 = .ok (.iload_n 3, 1) := by decide +kernel
theorem dX6_sumOfHouses_5 : decode cX6_sumOfHouses 5 = .ok (.bipush 6, 2) := by decide +kernel
theorem dX6_sumOfHouses_7 : decode cX6_sumOfHouses 7 = .ok (.if_icmp .ge 18, 3) := by decide +kernel
theorem dX6_sumOfHouses_10 : decode cX6_sumOfHouses 10 = .ok (.iload_n 2, 1) := by decide +kernel
theorem dX6_sumOfHouses_11 : decode cX6_sumOfHouses 11 = .ok (.aload_n 0, 1) := by decide +kernel
theorem dX6_sumOfHouses_12 : decode cX6_sumOfHouses 12 = .ok (.iload_n 3, 1) := by decide +kernel
theorem dX6_sumOfHouses_13 : decode cX6_sumOfHouses 13 = .ok (.iload_n 1, 1) := by decide +kernel
theorem dX6_sumOfHouses_14 : decode cX6_sumOfHouses 14 = .ok (.invokevirtual 67, 3) := by decide +kernel
theorem dX6_sumOfHouses_17 : decode cX6_sumOfHouses 17 = .ok (.iadd, 1) := by decide +kernel
theorem dX6_sumOfHouses_18 : decode cX6_sumOfHouses 18 = .ok (.istore_n 2, 1) := by decide +kernel
theorem dX6_sumOfHouses_19 : decode cX6_sumOfHouses 19 = .ok (.iinc 3 1, 3) := by decide +kernel
theorem dX6_sumOfHouses_22 : decode cX6_sumOfHouses 22 = .ok (.goto (-18), 3) := by decide +kernel
theorem dX6_sumOfHouses_25 : decode cX6_sumOfHouses 25 = .ok (.iload_n 2, 1) := by decide +kernel
theorem dX6_sumOfHouses_26 : decode cX6_sumOfHouses 26 = .ok (.ireturn, 1) := by decide +kernel
theorem dX6_grainsOnWay_0 : decode cX6_grainsOnWay 0 = .ok (.iconst 0, 1) := by decide +kernel
theorem dX6_grainsOnWay_1 : decode cX6_grainsOnWay 1 = .ok (.istore_n 1, 1) := by decide +kernel
theorem dX6_grainsOnWay_2 : decode cX6_grainsOnWay 2 = .ok (.iconst 0, 1) := by decide +kernel
theorem dX6_grainsOnWay_3 : decode cX6_grainsOnWay 3 = .ok (.istore_n 2, 1) := by decide +kernel
theorem dX6_grainsOnWay_4 : decode cX6_grainsOnWay 4 = .ok (.iload_n 2, 1) := by decide +kernel
theorem dX6_grainsOnWay_5 : decode cX6_grainsOnWay 5 = .ok (.aload_n 0, 1) := by decide +kernel
theorem dX6_grainsOnWay_6 : decode cX6_grainsOnWay 6 = .ok (.getfield 7, 3) := by decide +kernel
theorem dX6_grainsOnWay_9 : decode cX6_grainsOnWay 9 = .ok (.iconst 4, 1) := by decide +kernel
theorem dX6_grainsOnWay_10 : decode cX6_grainsOnWay 10 = .ok (.iaload, 1) := by decide +kernel
theorem dX6_grainsOnWay_11 : decode cX6_grainsOnWay 11 = .ok (.if_icmp .ge 18, 3) := by decide +kernel
theorem dX6_grainsOnWay_14 : decode cX6_grainsOnWay 14 = .ok (.iload_n 1, 1) := by decide +kernel
theorem dX6_grainsOnWay_15 : decode cX6_grainsOnWay 15 = .ok (.aload_n 0, 1) := by decide +kernel
theorem dX6_grainsOnWay_16 : decode cX6_grainsOnWay 16 = .ok (.iload_n 2, 1) := by decide +kernel
theorem dX6_grainsOnWay_17 : decode cX6_grainsOnWay 17 = .ok (.iconst 3, 1) := by decide +kernel
theorem dX6_grainsOnWay_18 : decode cX6_grainsOnWay 18 = .ok (.invokevirtual 60, 3) := by decide +kernel
theorem dX6_grainsOnWay_21 : decode cX6_grainsOnWay 21 = .ok (.iadd, 1) := by decide +kernel
theorem dX6_grainsOnWay_22 : decode cX6_grainsOnWay 22 = .ok (.istore_n 1, 1) := by decide +kernel
theorem dX6_grainsOnWay_23 : decode cX6_grainsOnWay 23 = .ok (.iinc 2 1, 3) := by decide +kernel
theorem dX6_grainsOnWay_26 : decode cX6_grainsOnWay 26 = .ok (.goto (-22), 3) := by decide +kernel
theorem dX6_grainsOnWay_29 : decode cX6_grainsOnWay 29 = .ok (.iload_n 1, 1) := by decide +kernel
theorem dX6_grainsOnWay_30 : decode cX6_grainsOnWay 30 = .ok (.ireturn, 1) := by decide +kernel
theorem dX6_isQuiet_0 : decode cX6_isQuiet 0 = .ok (.aload_n 0, 1) := by decide +kernel
theorem dX6_isQuiet_1 : decode cX6_isQuiet 1 = .ok (.getfield 7, 3) := by decide +kernel
theorem dX6_isQuiet_4 : decode cX6_isQuiet 4 = .ok (.iconst 1, 1) := by decide +kernel
theorem dX6_isQuiet_5 : decode cX6_isQuiet 5 = .ok (.iaload, 1) := by decide +kernel
theorem dX6_isQuiet_6 : decode cX6_isQuiet 6 = .ok (.aload_n 0, 1) := by decide +kernel
theorem dX6_isQuiet_7 : decode cX6_isQuiet 7 = .ok (.getfield 7, 3) := by decide +kernel
theorem dX6_isQuiet_10 : decode cX6_isQuiet 10 = .ok (.iconst 2, 1) := by decide +kernel
theorem dX6_isQuiet_11 : decode cX6_isQuiet 11 = .ok (.iaload, 1) := by decide +kernel
theorem dX6_isQuiet_12 : decode cX6_isQuiet 12 = .ok (.if_icmp .ne 7, 3) := by decide +kernel
theorem dX6_isQuiet_15 : decode cX6_isQuiet 15 = .ok (.iconst 1, 1) := by decide +kernel
theorem dX6_isQuiet_16 : decode cX6_isQuiet 16 = .ok (.goto 4, 3) := by decide +kernel
theorem dX6_isQuiet_19 : decode cX6_isQuiet 19 = .ok (.iconst 0, 1) := by decide +kernel
theorem dX6_isQuiet_20 : decode cX6_isQuiet 20 = .ok (.ireturn, 1) := by decide +kernel
theorem dX6_isIdle_0 : decode cX6_isIdle 0 = .ok (.aload_n 0, 1) := by decide +kernel
theorem dX6_isIdle_1 : decode cX6_isIdle 1 = .ok (.iconst 0, 1) := by decide +kernel
theorem dX6_isIdle_2 : decode cX6_isIdle 2 = .ok (.invokevirtual 100, 3) := by decide +kernel
theorem dX6_isIdle_5 : decode cX6_isIdle 5 = .ok (.ifCond .ne 7, 3) := by decide +kernel
theorem dX6_isIdle_8 : decode cX6_isIdle 8 = .ok (.iconst 1, 1) := by decide +kernel
theorem dX6_isIdle_9 : decode cX6_isIdle 9 = .ok (.goto 4, 3) := by decide +kernel
theorem dX6_isIdle_12 : decode cX6_isIdle 12 = .ok (.iconst 0, 1) := by decide +kernel
theorem dX6_isIdle_13 : decode cX6_isIdle 13 = .ok (.istore_n 1, 1) := by decide +kernel
theorem dX6_isIdle_14 : decode cX6_isIdle 14 = .ok (.iconst 0, 1) := by decide +kernel
theorem dX6_isIdle_15 : decode cX6_isIdle 15 = .ok (.istore_n 2, 1) := by decide +kernel
theorem dX6_isIdle_16 : decode cX6_isIdle 16 = .ok (.iload_n 2, 1) := by decide +kernel
theorem dX6_isIdle_17 : decode cX6_isIdle 17 = .ok (.aload_n 0, 1) := by decide +kernel
theorem dX6_isIdle_18 : decode cX6_isIdle 18 = .ok (.getfield 7, 3) := by decide +kernel
theorem dX6_isIdle_21 : decode cX6_isIdle 21 = .ok (.iconst 4, 1) := by decide +kernel
theorem dX6_isIdle_22 : decode cX6_isIdle 22 = .ok (.iaload, 1) := by decide +kernel
theorem dX6_isIdle_23 : decode cX6_isIdle 23 = .ok (.if_icmp .ge 29, 3) := by decide +kernel
theorem dX6_isIdle_26 : decode cX6_isIdle 26 = .ok (.iload_n 1, 1) := by decide +kernel
theorem dX6_isIdle_27 : decode cX6_isIdle 27 = .ok (.ifCond .eq 17, 3) := by decide +kernel
theorem dX6_isIdle_30 : decode cX6_isIdle 30 = .ok (.aload_n 0, 1) := by decide +kernel
theorem dX6_isIdle_31 : decode cX6_isIdle 31 = .ok (.iload_n 2, 1) := by decide +kernel
theorem dX6_isIdle_32 : decode cX6_isIdle 32 = .ok (.iconst 0, 1) := by decide +kernel
theorem dX6_isIdle_33 : decode cX6_isIdle 33 = .ok (.invokevirtual 60, 3) := by decide +kernel
theorem dX6_isIdle_36 : decode cX6_isIdle 36 = .ok (.iconst 3, 1) := by decide +kernel
theorem dX6_isIdle_37 : decode cX6_isIdle 37 = .ok (.if_icmp .ne 7, 3) := by decide +kernel
theorem dX6_isIdle_40 : decode cX6_isIdle 40 = .ok (.iconst 1, 1) := by decide +kernel
theorem dX6_isIdle_41 : decode cX6_isIdle 41 = .ok (.goto 4, 3) := by decide +kernel
theorem dX6_isIdle_44 : decode cX6_isIdle 44 = .ok (.iconst 0, 1) := by decide +kernel
theorem dX6_isIdle_45 : decode cX6_isIdle 45 = .ok (.istore_n 1, 1) := by decide +kernel
theorem dX6_isIdle_46 : decode cX6_isIdle 46 = .ok (.iinc 2 1, 3) := by decide +kernel
theorem dX6_isIdle_49 : decode cX6_isIdle 49 = .ok (.goto (-33), 3) := by decide +kernel
theorem dX6_isIdle_52 : decode cX6_isIdle 52 = .ok (.iload_n 1, 1) := by decide +kernel
theorem dX6_isIdle_53 : decode cX6_isIdle 53 = .ok (.ireturn, 1) := by decide +kernel
theorem dX6_setTime_0 : decode cX6_setTime 0 = .ok (.iload_n 1, 1) := by decide +kernel
theorem dX6_setTime_1 : decode cX6_setTime 1 = .ok (.invokestatic 103, 3) := by decide +kernel
theorem dX6_setTime_4 : decode cX6_setTime 4 = .ok (.ifCond .eq 10, 3) := by decide +kernel
theorem dX6_setTime_7 : decode cX6_setTime 7 = .ok (.iload_n 2, 1) := by decide +kernel
theorem dX6_setTime_8 : decode cX6_setTime 8 = .ok (.invokestatic 103, 3) := by decide +kernel
theorem dX6_setTime_11 : decode cX6_setTime 11 = .ok (.ifCond .ne 5, 3) := by decide +kernel
theorem dX6_setTime_14 : decode cX6_setTime 14 = .ok (.iconst (-1), 1) := by decide +kernel
theorem dX6_setTime_15 : decode cX6_setTime 15 = .ok (.ireturn, 1) := by decide +kernel
theorem dX6_setTime_16 : decode cX6_setTime 16 = .ok (.iload_n 3, 1) := by decide +kernel
theorem dX6_setTime_17 : decode cX6_setTime 17 = .ok (.iconst 1, 1) := by decide +kernel
theorem dX6_setTime_18 : decode cX6_setTime 18 = .ok (.bipush 9, 2) := by decide +kernel
theorem dX6_setTime_20 : decode cX6_setTime 20 = .ok (.invokestatic 31, 3) := by decide +kernel
theorem dX6_setTime_23 : decode cX6_setTime 23 = .ok (.ifCond .eq 8, 3) := by decide +kernel
theorem dX6_setTime_26 : decode cX6_setTime 26 = .ok (.iload_n 1, 1) := by decide +kernel
theorem dX6_setTime_27 : decode cX6_setTime 27 = .ok (.iload_n 2, 1) := by decide +kernel
theorem dX6_setTime_28 : decode cX6_setTime 28 = .ok (.if_icmp .ne 6, 3) := by decide +kernel
theorem dX6_setTime_31 : decode cX6_setTime 31 = .ok (.bipush (-2), 2) := by decide +kernel
theorem dX6_setTime_33 : decode cX6_setTime 33 = .ok (.ireturn, 1) := by decide +kernel
theorem dX6_setTime_34 : decode cX6_setTime 34 = .ok (.aload_n 0, 1) := by decide +kernel
theorem dX6_setTime_35 : decode cX6_setTime 35 = .ok (.getfield 7, 3) := by decide +kernel
theorem dX6_setTime_38 : decode cX6_setTime 38 = .ok (.bipush 12, 2) := by decide +kernel
theorem dX6_setTime_40 : decode cX6_setTime 40 = .ok (.bipush 6, 2) := by decide +kernel
theorem dX6_setTime_42 : decode cX6_setTime 42 = .ok (.iload_n 1, 1) := by decide +kernel
theorem dX6_setTime_43 : decode cX6_setTime 43 = .ok (.imul, 1) := by decide +kernel
theorem dX6_setTime_44 : decode cX6_setTime 44 = .ok (.iadd, 1) := by decide +kernel
theorem dX6_setTime_45 : decode cX6_setTime 45 = .ok (.iload_n 2, 1) := by decide +kernel
theorem dX6_setTime_46 : decode cX6_setTime 46 = .ok (.iadd, 1) := by decide +kernel
theorem dX6_setTime_47 : decode cX6_setTime 47 = .ok (.iaload, 1) := by decide +kernel
theorem dX6_setTime_48 : decode cX6_setTime 48 = .ok (.istore 4, 2) := by decide +kernel
theorem dX6_setTime_50 : decode cX6_setTime 50 = .ok (.iload 4, 2) := by decide +kernel
theorem dX6_setTime_52 : decode cX6_setTime 52 = .ok (.iload_n 3, 1) := by decide +kernel
theorem dX6_setTime_53 : decode cX6_setTime 53 = .ok (.if_icmp .ne 6, 3) := by decide +kernel
theorem dX6_setTime_56 : decode cX6_setTime 56 = .ok (.bipush (-5), 2) := by decide +kernel
theorem dX6_setTime_58 : decode cX6_setTime 58 = .ok (.ireturn, 1) := by decide +kernel
theorem dX6_setTime_59 : decode cX6_setTime 59 = .ok (.aload_n 0, 1) := by decide +kernel
theorem dX6_setTime_60 : decode cX6_setTime 60 = .ok (.invokevirtual 107, 3) := by decide +kernel
theorem dX6_setTime_63 : decode cX6_setTime 63 = .ok (.aload_n 0, 1) := by decide +kernel
theorem dX6_setTime_64 : decode cX6_setTime 64 = .ok (.getfield 7, 3) := by decide +kernel
theorem dX6_setTime_67 : decode cX6_setTime 67 = .ok (.bipush 12, 2) := by decide +kernel
theorem dX6_setTime_69 : decode cX6_setTime 69 = .ok (.bipush 6, 2) := by decide +kernel
theorem dX6_setTime_71 : decode cX6_setTime 71 = .ok (.iload_n 1, 1) := by decide +kernel
theorem dX6_setTime_72 : decode cX6_setTime 72 = .ok (.imul, 1) := by decide +kernel
theorem dX6_setTime_73 : decode cX6_setTime 73 = .ok (.iadd, 1) := by decide +kernel
theorem dX6_setTime_74 : decode cX6_setTime 74 = .ok (.iload_n 2, 1) := by decide +kernel
theorem dX6_setTime_75 : decode cX6_setTime 75 = .ok (.iadd, 1) := by decide +kernel
theorem dX6_setTime_76 : decode cX6_setTime 76 = .ok (.iload_n 3, 1) := by decide +kernel
theorem dX6_setTime_77 : decode cX6_setTime 77 = .ok (.iastore, 1) := by decide +kernel
theorem dX6_setTime_78 : decode cX6_setTime 78 = .ok (.aload_n 0, 1) := by decide +kernel
theorem dX6_setTime_79 : decode cX6_setTime 79 = .ok (.getfield 7, 3) := by decide +kernel
theorem dX6_setTime_82 : decode cX6_setTime 82 = .ok (.bipush 12, 2) := by decide +kernel
theorem dX6_setTime_84 : decode cX6_setTime 84 = .ok (.bipush 6, 2) := by decide +kernel
end
section
theorem dX6_setTime_86 : decode cX6_setTime 86 = .ok (.iload_n 2, 1) := by decide +kernel
theorem dX6_setTime_87 : decode cX6_setTime 87 = .ok (.imul, 1) := by decide +kernel
theorem dX6_setTime_88 : decode cX6_setTime 88 = .ok (.iadd, 1) := by decide +kernel
theorem dX6_setTime_89 : decode cX6_setTime 89 = .ok (.iload_n 1, 1) := by decide +kernel
theorem dX6_setTime_90 : decode cX6_setTime 90 = .ok (.iadd, 1) := by decide +kernel
theorem dX6_setTime_91 : decode cX6_setTime 91 = .ok (.iload_n 3, 1) := by decide +kernel
theorem dX6_setTime_92 : decode cX6_setTime 92 = .ok (.iastore, 1) := by decide +kernel
theorem dX6_setTime_93 : decode cX6_setTime 93 = .ok (.iload 4, 2) := by decide +kernel
theorem dX6_setTime_95 : decode cX6_setTime 95 = .ok (.ireturn, 1) := by decide +kernel
theorem dX6_setBankTime_0 : decode cX6_setBankTime 0 = .ok (.iload_n 1, 1) := by decide +kernel
theorem dX6_setBankTime_1 : decode cX6_setBankTime 1 = .ok (.invokestatic 103, 3) := by decide +kernel
theorem dX6_setBankTime_4 : decode cX6_setBankTime 4 = .ok (.ifCond .ne 5, 3) := by decide +kernel
theorem dX6_setBankTime_7 : decode cX6_setBankTime 7 = .ok (.iconst (-1), 1) := by decide +kernel
theorem dX6_setBankTime_8 : decode cX6_setBankTime 8 = .ok (.ireturn, 1) := by decide +kernel
theorem dX6_setBankTime_9 : decode cX6_setBankTime 9 = .ok (.iload_n 2, 1) := by decide +kernel
theorem dX6_setBankTime_10 : decode cX6_setBankTime 10 = .ok (.iconst 1, 1) := by decide +kernel
theorem dX6_setBankTime_11 : decode cX6_setBankTime 11 = .ok (.bipush 9, 2) := by decide +kernel
theorem dX6_setBankTime_13 : decode cX6_setBankTime 13 = .ok (.invokestatic 31, 3) := by decide +kernel
theorem dX6_setBankTime_16 : decode cX6_setBankTime 16 = .ok (.ifCond .ne 6, 3) := by decide +kernel
theorem dX6_setBankTime_19 : decode cX6_setBankTime 19 = .ok (.bipush (-2), 2) := by decide +kernel
theorem dX6_setBankTime_21 : decode cX6_setBankTime 21 = .ok (.ireturn, 1) := by decide +kernel
theorem dX6_setBankTime_22 : decode cX6_setBankTime 22 = .ok (.aload_n 0, 1) := by decide +kernel
theorem dX6_setBankTime_23 : decode cX6_setBankTime 23 = .ok (.getfield 7, 3) := by decide +kernel
theorem dX6_setBankTime_26 : decode cX6_setBankTime 26 = .ok (.bipush 48, 2) := by decide +kernel
theorem dX6_setBankTime_28 : decode cX6_setBankTime 28 = .ok (.iload_n 1, 1) := by decide +kernel
theorem dX6_setBankTime_29 : decode cX6_setBankTime 29 = .ok (.iadd, 1) := by decide +kernel
theorem dX6_setBankTime_30 : decode cX6_setBankTime 30 = .ok (.iaload, 1) := by decide +kernel
theorem dX6_setBankTime_31 : decode cX6_setBankTime 31 = .ok (.istore_n 3, 1) := by decide +kernel
theorem dX6_setBankTime_32 : decode cX6_setBankTime 32 = .ok (.iload_n 3, 1) := by decide +kernel
theorem dX6_setBankTime_33 : decode cX6_setBankTime 33 = .ok (.iload_n 2, 1) := by decide +kernel
theorem dX6_setBankTime_34 : decode cX6_setBankTime 34 = .ok (.if_icmp .ne 6, 3) := by decide +kernel
theorem dX6_setBankTime_37 : decode cX6_setBankTime 37 = .ok (.bipush (-5), 2) := by decide +kernel
theorem dX6_setBankTime_39 : decode cX6_setBankTime 39 = .ok (.ireturn, 1) := by decide +kernel
theorem dX6_setBankTime_40 : decode cX6_setBankTime 40 = .ok (.aload_n 0, 1) := by decide +kernel
theorem dX6_setBankTime_41 : decode cX6_setBankTime 41 = .ok (.invokevirtual 107, 3) := by decide +kernel
theorem dX6_setBankTime_44 : decode cX6_setBankTime 44 = .ok (.aload_n 0, 1) := by decide +kernel
theorem dX6_setBankTime_45 : decode cX6_setBankTime 45 = .ok (.getfield 7, 3) := by decide +kernel
theorem dX6_setBankTime_48 : decode cX6_setBankTime 48 = .ok (.bipush 48, 2) := by decide +kernel
theorem dX6_setBankTime_50 : decode cX6_setBankTime 50 = .ok (.iload_n 1, 1) := by decide +kernel
theorem dX6_setBankTime_51 : decode cX6_setBankTime 51 = .ok (.iadd, 1) := by decide +kernel
theorem dX6_setBankTime_52 : decode cX6_setBankTime 52 = .ok (.iload_n 2, 1) := by decide +kernel
theorem dX6_setBankTime_53 : decode cX6_setBankTime 53 = .ok (.iastore, 1) := by decide +kernel
theorem dX6_setBankTime_54 : decode cX6_setBankTime 54 = .ok (.iload_n 3, 1) := by decide +kernel
theorem dX6_setBankTime_55 : decode cX6_setBankTime 55 = .ok (.ireturn, 1) := by decide +kernel
theorem dX6_set_0 : decode cX6_set 0 = .ok (.iload_n 1, 1) := by decide +kernel
theorem dX6_set_1 : decode cX6_set 1 = .ok (.iconst 0, 1) := by decide +kernel
theorem dX6_set_2 : decode cX6_set 2 = .ok (.iconst 1, 1) := by decide +kernel
theorem dX6_set_3 : decode cX6_set 3 = .ok (.invokestatic 31, 3) := by decide +kernel
theorem dX6_set_6 : decode cX6_set 6 = .ok (.ifCond .ne 5, 3) := by decide +kernel
theorem dX6_set_9 : decode cX6_set 9 = .ok (.iconst (-1), 1) := by decide +kernel
theorem dX6_set_10 : decode cX6_set 10 = .ok (.ireturn, 1) := by decide +kernel
theorem dX6_set_11 : decode cX6_set 11 = .ok (.iload_n 1, 1) := by decide +kernel
theorem dX6_set_12 : decode cX6_set 12 = .ok (.ifCond .ne 16, 3) := by decide +kernel
theorem dX6_set_15 : decode cX6_set 15 = .ok (.iload_n 2, 1) := by decide +kernel
theorem dX6_set_16 : decode cX6_set 16 = .ok (.iconst 2, 1) := by decide +kernel
theorem dX6_set_17 : decode cX6_set 17 = .ok (.bipush 16, 2) := by decide +kernel
theorem dX6_set_19 : decode cX6_set 19 = .ok (.invokestatic 31, 3) := by decide +kernel
theorem dX6_set_22 : decode cX6_set 22 = .ok (.ifCond .ne 19, 3) := by decide +kernel
theorem dX6_set_25 : decode cX6_set 25 = .ok (.goto 13, 3) := by decide +kernel
theorem dX6_set_28 : decode cX6_set 28 = .ok (.iload_n 2, 1) := by decide +kernel
theorem dX6_set_29 : decode cX6_set 29 = .ok (.iconst 1, 1) := by decide +kernel
theorem dX6_set_30 : decode cX6_set 30 = .ok (.bipush 99, 2) := by decide +kernel
theorem dX6_set_32 : decode cX6_set 32 = .ok (.invokestatic 31, 3) := by decide +kernel
theorem dX6_set_35 : decode cX6_set 35 = .ok (.ifCond .ne 6, 3) := by decide +kernel
theorem dX6_set_38 : decode cX6_set 38 = .ok (.bipush (-2), 2) := by decide +kernel
theorem dX6_set_40 : decode cX6_set 40 = .ok (.ireturn, 1) := by decide +kernel
theorem dX6_set_41 : decode cX6_set 41 = .ok (.aload_n 0, 1) := by decide +kernel
theorem dX6_set_42 : decode cX6_set 42 = .ok (.getfield 7, 3) := by decide +kernel
theorem dX6_set_45 : decode cX6_set 45 = .ok (.bipush 8, 2) := by decide +kernel
theorem dX6_set_47 : decode cX6_set 47 = .ok (.iload_n 1, 1) := by decide +kernel
theorem dX6_set_48 : decode cX6_set 48 = .ok (.iadd, 1) := by decide +kernel
theorem dX6_set_49 : decode cX6_set 49 = .ok (.iaload, 1) := by decide +kernel
theorem dX6_set_50 : decode cX6_set 50 = .ok (.istore_n 3, 1) := by decide +kernel
theorem dX6_set_51 : decode cX6_set 51 = .ok (.iload_n 3, 1) := by decide +kernel
theorem dX6_set_52 : decode cX6_set 52 = .ok (.iload_n 2, 1) := by decide +kernel
theorem dX6_set_53 : decode cX6_set 53 = .ok (.if_icmp .ne 6, 3) := by decide +kernel
theorem dX6_set_56 : decode cX6_set 56 = .ok (.bipush (-5), 2) := by decide +kernel
theorem dX6_set_58 : decode cX6_set 58 = .ok (.ireturn, 1) := by decide +kernel
theorem dX6_set_59 : decode cX6_set 59 = .ok (.aload_n 0, 1) := by decide +kernel
theorem dX6_set_60 : decode cX6_set 60 = .ok (.invokevirtual 107, 3) := by decide +kernel
theorem dX6_set_63 : decode cX6_set 63 = .ok (.aload_n 0, 1) := by decide +kernel
theorem dX6_set_64 : decode cX6_set 64 = .ok (.getfield 7, 3) := by decide +kernel
theorem dX6_set_67 : decode cX6_set 67 = .ok (.bipush 8, 2) := by decide +kernel
theorem dX6_set_69 : decode cX6_set 69 = .ok (.iload_n 1, 1) := by decide +kernel
theorem dX6_set_70 : decode cX6_set 70 = .ok (.iadd, 1) := by decide +kernel
theorem dX6_set_71 : decode cX6_set 71 = .ok (.iload_n 2, 1) := by decide +kernel
theorem dX6_set_72 : decode cX6_set 72 = .ok (.iastore, 1) := by decide +kernel
theorem dX6_set_73 : decode cX6_set 73 = .ok (.iload_n 3, 1) := by decide +kernel
theorem dX6_set_74 : decode cX6_set 74 = .ok (.ireturn, 1) := by decide +kernel
theorem dX6_type_0 : decode cX6_type 0 = .ok (.aload_n 0, 1) := by decide +kernel
theorem dX6_type_1 : decode cX6_type 1 = .ok (.getfield 110, 3) := by decide +kernel
theorem dX6_type_4 : decode cX6_type 4 = .ok (.bipush 60, 2) := by decide +kernel
theorem dX6_type_6 : decode cX6_type 6 = .ok (.if_icmp .ne 6, 3) := by decide +kernel
theorem dX6_type_9 : decode cX6_type 9 = .ok (.bipush (-3), 2) := by decide +kernel
theorem dX6_type_11 : decode cX6_type 11 = .ok (.ireturn, 1) := by decide +kernel
theorem dX6_type_12 : decode cX6_type 12 = .ok (.aload_n 0, 1) := by decide +kernel
theorem dX6_type_13 : decode cX6_type 13 = .ok (.getfield 22, 3) := by decide +kernel
theorem dX6_type_16 : decode cX6_type 16 = .ok (.aload_n 0, 1) := by decide +kernel
theorem dX6_type_17 : decode cX6_type 17 = .ok (.getfield 110, 3) := by decide +kernel
theorem dX6_type_20 : decode cX6_type 20 = .ok (.iload_n 1, 1) := by decide +kernel
theorem dX6_type_21 : decode cX6_type 21 = .ok (.iastore, 1) := by decide +kernel
theorem dX6_type_22 : decode cX6_type 22 = .ok (.aload_n 0, 1) := by decide +kernel
theorem dX6_type_23 : decode cX6_type 23 = .ok (.dup, 1) := by decide +kernel
theorem dX6_type_24 : decode cX6_type 24 = .ok (.getfield 110, 3) := by decide +kernel
theorem dX6_type_27 : decode cX6_type 27 = .ok (.iconst 1, 1) := by decide +kernel
theorem dX6_type_28 : decode cX6_type 28 = .ok (.iadd, 1) := by decide +kernel
theorem dX6_type_29 : decode cX6_type 29 = .ok (.putfield 110, 3) := by decide +kernel
theorem dX6_type_32 : decode cX6_type 32 = .ok (.aload_n 0, 1) := by decide +kernel
theorem dX6_type_33 : decode cX6_type 33 = .ok (.getfield 110, 3) := by decide +kernel
theorem dX6_type_36 : decode cX6_type 36 = .ok (.ireturn, 1) := by decide +kernel
theorem dX6_clearText_0 : decode cX6_clearText 0 = .ok (.aload_n 0, 1) := by decide +kernel
theorem dX6_clearText_1 : decode cX6_clearText 1 = .ok (.getfield 110, 3) := by decide +kernel
theorem dX6_clearText_4 : decode cX6_clearText 4 = .ok (.istore_n 1, 1) := by decide +kernel
theorem dX6_clearText_5 : decode cX6_clearText 5 = .ok (.aload_n 0, 1) := by decide +kernel
theorem dX6_clearText_6 : decode cX6_clearText 6 = .ok (.iconst 0, 1) := by decide +kernel
theorem dX6_clearText_7 : decode cX6_clearText 7 = .ok (.putfield 110, 3) := by decide +kernel
theorem dX6_clearText_10 : decode cX6_clearText 10 = .ok (.iload_n 1, 1) := by decide +kernel
theorem dX6_clearText_11 : decode cX6_clearText 11 = .ok (.ireturn, 1) := by decide +kernel
theorem dX6_isNext_0 : decode cX6_isNext 0 = .ok (.aload_n 0, 1) := by decide +kernel
theorem dX6_isNext_1 : decode cX6_isNext 1 = .ok (.getfield 113, 3) := by decide +kernel
theorem dX6_isNext_4 : decode cX6_isNext 4 = .ok (.aload_n 0, 1) := by decide +kernel
theorem dX6_isNext_5 : decode cX6_isNext 5 = .ok (.getfield 110, 3) := by decide +kernel
theorem dX6_isNext_8 : decode cX6_isNext 8 = .ok (.if_icmp .ge 24, 3) := by decide +kernel
theorem dX6_isNext_11 : decode cX6_isNext 11 = .ok (.aload_n 0, 1) := by decide +kernel
theorem dX6_isNext_12 : decode cX6_isNext 12 = .ok (.getfield 22, 3) := by decide +kernel
theorem dX6_isNext_15 : decode cX6_isNext 15 = .ok (.aload_n 0, 1) := by decide +kernel
theorem dX6_isNext_16 : decode cX6_isNext 16 = .ok (.getfield 113, 3) := by decide +kernel
theorem dX6_isNext_19 : decode cX6_isNext 19 = .ok (.iaload, 1) := by decide +kernel
theorem dX6_isNext_20 : decode cX6_isNext 20 = .ok (.iload_n 1, 1) := by decide +kernel
theorem dX6_isNext_21 : decode cX6_isNext 21 = .ok (.iload_n 2, 1) := by decide +kernel
theorem dX6_isNext_22 : decode cX6_isNext 22 = .ok (.invokestatic 31, 3) := by decide +kernel
theorem dX6_isNext_25 : decode cX6_isNext 25 = .ok (.ifCond .eq 7, 3) := by decide +kernel
theorem dX6_isNext_28 : decode cX6_isNext 28 = .ok (.iconst 1, 1) := by decide +kernel
theorem dX6_isNext_29 : decode cX6_isNext 29 = .ok (.goto 4, 3) := by decide +kernel
theorem dX6_isNext_32 : decode cX6_isNext 32 = .ok (.iconst 0, 1) := by decide +kernel
theorem dX6_isNext_33 : decode cX6_isNext 33 = .ok (.ireturn, 1) := by decide +kernel
theorem dX6_takes_0 : decode cX6_takes 0 = .ok (.aload_n 0, 1) := by decide +kernel
theorem dX6_takes_1 : decode cX6_takes 1 = .ok (.iload_n 1, 1) := by decide +kernel
theorem dX6_takes_2 : decode cX6_takes 2 = .ok (.iload_n 1, 1) := by decide +kernel
theorem dX6_takes_3 : decode cX6_takes 3 = .ok (.invokevirtual 116, 3) := by decide +kernel
theorem dX6_takes_6 : decode cX6_takes 6 = .ok (.istore_n 2, 1) := by decide +kernel
theorem dX6_takes_7 : decode cX6_takes 7 = .ok (.aload_n 0, 1) := by decide +kernel
theorem dX6_takes_8 : decode cX6_takes 8 = .ok (.dup, 1) := by decide +kernel
theorem dX6_takes_9 : decode cX6_takes 9 = .ok (.getfield 113, 3) := by decide +kernel
theorem dX6_takes_12 : decode cX6_takes 12 = .ok (.iload_n 2, 1) := by decide +kernel
theorem dX6_takes_13 : decode cX6_takes 13 = .ok (.ifCond .eq 7, 3) := by decide +kernel
theorem dX6_takes_16 : decode cX6_takes 16 = .ok (.iconst 1, 1) := by decide +kernel
theorem dX6_takes_17 : decode cX6_takes 17 = .ok (.goto 4, 3) := by decide +kernel
theorem dX6_takes_20 : decode cX6_takes 20 = .ok (.iconst 0, 1) := by decide +kernel
theorem dX6_takes_21 : decode cX6_takes 21 = .ok (.iadd, 1) := by decide +kernel
theorem dX6_takes_22 : decode cX6_takes 22 = .ok (.putfield 113, 3) := by decide +kernel
theorem dX6_takes_25 : decode cX6_takes 25 = .ok (.iload_n 2, 1) := by decide +kernel
theorem dX6_takes_26 : decode cX6_takes 26 = .ok (.ireturn, 1) := by decide +kernel
theorem dX6_readHead_0 : decode cX6_readHead 0 = .ok (.aload_n 0, 1) := by decide +kernel
theorem dX6_readHead_1 : decode cX6_readHead 1 = .ok (.bipush 48, 2) := by decide +kernel
theorem dX6_readHead_3 : decode cX6_readHead 3 = .ok (.bipush 53, 2) := by decide +kernel
theorem dX6_readHead_5 : decode cX6_readHead 5 = .ok (.invokevirtual 116, 3) := by decide +kernel
theorem dX6_readHead_8 : decode cX6_readHead 8 = .ok (.ifCond .ne 5, 3) := by decide +kernel
theorem dX6_readHead_11 : decode cX6_readHead 11 = .ok (.iconst 0, 1) := by decide +kernel
theorem dX6_readHead_12 : decode cX6_readHead 12 = .ok (.ireturn, 1) := by decide +kernel
theorem dX6_readHead_13 : decode cX6_readHead 13 = .ok (.aload_n 0, 1) := by decide +kernel
theorem dX6_readHead_14 : decode cX6_readHead 14 = .ok (.getfield 22, 3) := by decide +kernel
theorem dX6_readHead_17 : decode cX6_readHead 17 = .ok (.aload_n 0, 1) := by decide +kernel
theorem dX6_readHead_18 : decode cX6_readHead 18 = .ok (.getfield 113, 3) := by decide +kernel
theorem dX6_readHead_21 : decode cX6_readHead 21 = .ok (.iaload, 1) := by decide +kernel
theorem dX6_readHead_22 : decode cX6_readHead 22 = .ok (.bipush 48, 2) := by decide +kernel
theorem dX6_readHead_24 : decode cX6_readHead 24 = .ok (.isub, 1) := by decide +kernel
theorem dX6_readHead_25 : decode cX6_readHead 25 = .ok (.istore_n 1, 1) := by decide +kernel
theorem dX6_readHead_26 : decode cX6_readHead 26 = .ok (.aload_n 0, 1) := by decide +kernel
theorem dX6_readHead_27 : decode cX6_readHead 27 = .ok (.dup, 1) := by decide +kernel
theorem dX6_readHead_28 : decode cX6_readHead 28 = .ok (.getfield 113, 3) := by decide +kernel
theorem dX6_readHead_31 : decode cX6_readHead 31 = .ok (.iconst 1, 1) := by decide +kernel
theorem dX6_readHead_32 : decode cX6_readHead 32 = .ok (.iadd, 1) := by decide +kernel
theorem dX6_readHead_33 : decode cX6_readHead 33 = .ok (.putfield 113, 3) := by decide +kernel
theorem dX6_readHead_36 : decode cX6_readHead 36 = .ok (.aload_n 0, 1) := by decide +kernel
theorem dX6_readHead_37 : decode cX6_readHead 37 = .ok (.bipush 58, 2) := by decide +kernel
theorem dX6_readHead_39 : decode cX6_readHead 39 = .ok (.invokevirtual 119, 3) := by decide +kernel
theorem dX6_readHead_42 : decode cX6_readHead 42 = .ok (.ifCond .eq 14, 3) := by decide +kernel
theorem dX6_readHead_45 : decode cX6_readHead 45 = .ok (.aload_n 0, 1) := by decide +kernel
theorem dX6_readHead_46 : decode cX6_readHead 46 = .ok (.bipush 48, 2) := by decide +kernel
theorem dX6_readHead_48 : decode cX6_readHead 48 = .ok (.bipush 57, 2) := by decide +kernel
theorem dX6_readHead_50 : decode cX6_readHead 50 = .ok (.invokevirtual 116, 3) := by decide +kernel
theorem dX6_readHead_53 : decode cX6_readHead 53 = .ok (.ifCond .ne 5, 3) := by decide +kernel
theorem dX6_readHead_56 : decode cX6_readHead 56 = .ok (.iconst 0, 1) := by decide +kernel
theorem dX6_readHead_57 : decode cX6_readHead 57 = .ok (.ireturn, 1) := by decide +kernel
theorem dX6_readHead_58 : decode cX6_readHead 58 = .ok (.aload_n 0, 1) := by decide +kernel
theorem dX6_readHead_59 : decode cX6_readHead 59 = .ok (.getfield 22, 3) := by decide +kernel
theorem dX6_readHead_62 : decode cX6_readHead 62 = .ok (.aload_n 0, 1) := by decide +kernel
theorem dX6_readHead_63 : decode cX6_readHead 63 = .ok (.getfield 113, 3) := by decide +kernel
theorem dX6_readHead_66 : decode cX6_readHead 66 = .ok (.iaload, 1) := by decide +kernel
theorem dX6_readHead_67 : decode cX6_readHead 67 = .ok (.bipush 48, 2) := by decide +kernel
theorem dX6_readHead_69 : decode cX6_readHead 69 = .ok (.isub, 1) := by decide +kernel
theorem dX6_readHead_70 : decode cX6_readHead 70 = .ok (.istore_n 2, 1) := by decide +kernel
theorem dX6_readHead_71 : decode cX6_readHead 71 = .ok (.aload_n 0, 1) := by decide +kernel
theorem dX6_readHead_72 : decode cX6_readHead 72 = .ok (.dup, 1) := by decide +kernel
theorem dX6_readHead_73 : decode cX6_readHead 73 = .ok (.getfield 113, 3) := by decide +kernel
theorem dX6_readHead_76 : decode cX6_readHead 76 = .ok (.iconst 1, 1) := by decide +kernel
theorem dX6_readHead_77 : decode cX6_readHead 77 = .ok (.iadd, 1) := by decide +kernel
theorem dX6_readHead_78 : decode cX6_readHead 78 = .ok (.putfield 113, 3) := by decide +kernel
theorem dX6_readHead_81 : decode cX6_readHead 81 = .ok (.iload_n 2, 1) := by decide +kernel
theorem dX6_readHead_82 : decode cX6_readHead 82 = .ok (.ifCond .le 64, 3) := by decide +kernel
theorem dX6_readHead_85 : decode cX6_readHead 85 = .ok (.aload_n 0, 1) := by decide +kernel
theorem dX6_readHead_86 : decode cX6_readHead 86 = .ok (.bipush 48, 2) := by decide +kernel
theorem dX6_readHead_88 : decode cX6_readHead 88 = .ok (.bipush 57, 2) := by decide +kernel
theorem dX6_readHead_90 : decode cX6_readHead 90 = .ok (.invokevirtual 116, 3) := by decide +kernel
theorem dX6_readHead_93 : decode cX6_readHead 93 = .ok (.ifCond .eq 53, 3) := by decide +kernel
theorem dX6_readHead_96 : decode cX6_readHead 96 = .ok (.bipush 10, 2) := by decide +kernel
theorem dX6_readHead_98 : decode cX6_readHead 98 = .ok (.iload_n 2, 1) := by decide +kernel
theorem dX6_readHead_99 : decode cX6_readHead 99 = .ok (.imul, 1) := by decide +kernel
theorem dX6_readHead_100 : decode cX6_readHead 100 = .ok (.aload_n 0, 1) := by decide +kernel
theorem dX6_readHead_101 : decode cX6_readHead 101 = .ok (.getfield 22, 3) := by decide +kernel
theorem dX6_readHead_104 : decode cX6_readHead 104 = .ok (.aload_n 0, 1) := by decide +kernel
theorem dX6_readHead_105 : decode cX6_readHead 105 = .ok (.getfield 113, 3) := by decide +kernel
theorem dX6_readHead_108 : decode cX6_readHead 108 = .ok (.iaload, 1) := by decide +kernel
theorem dX6_readHead_109 : decode cX6_readHead 109 = .ok (.iadd, 1) := by decide +kernel
theorem dX6_readHead_110 : decode cX6_readHead 110 = .ok (.bipush 48, 2) := by decide +kernel
theorem dX6_readHead_112 : decode cX6_readHead 112 = .ok (.isub, 1) := by decide +kernel
theorem dX6_readHead_113 : decode cX6_readHead 113 = .ok (.bipush 20, 2) := by decide +kernel
theorem dX6_readHead_115 : decode cX6_readHead 115 = .ok (.if_icmp .gt 31, 3) := by decide +kernel
theorem dX6_readHead_118 : decode cX6_readHead 118 = .ok (.bipush 10, 2) := by decide +kernel
theorem dX6_readHead_120 : decode cX6_readHead 120 = .ok (.iload_n 2, 1) := by decide +kernel
theorem dX6_readHead_121 : decode cX6_readHead 121 = .ok (.imul, 1) := by decide +kernel
theorem dX6_readHead_122 : decode cX6_readHead 122 = .ok (.aload_n 0, 1) := by decide +kernel
theorem dX6_readHead_123 : decode cX6_readHead 123 = .ok (.getfield 22, 3) := by decide +kernel
theorem dX6_readHead_126 : decode cX6_readHead 126 = .ok (.aload_n 0, 1) := by decide +kernel
theorem dX6_readHead_127 : decode cX6_readHead 127 = .ok (.getfield 113, 3) := by decide +kernel
theorem dX6_readHead_130 : decode cX6_readHead 130 = .ok (.iaload, 1) := by decide +kernel
theorem dX6_readHead_131 : decode cX6_readHead 131 = .ok (.iadd, 1) := by decide +kernel
theorem dX6_readHead_132 : decode cX6_readHead 132 = .ok (.bipush 48, 2) := by decide +kernel
theorem dX6_readHead_134 : decode cX6_readHead 134 = .ok (.isub, 1) := by decide +kernel
theorem dX6_readHead_135 : decode cX6_readHead 135 = .ok (.istore_n 2, 1) := by decide +kernel
theorem dX6_readHead_136 : decode cX6_readHead 136 = .ok (.aload_n 0, 1) := by decide +kernel
theorem dX6_readHead_137 : decode cX6_readHead 137 = .ok (.dup, 1) := by decide +kernel
theorem dX6_readHead_138 : decode cX6_readHead 138 = .ok (.getfield 113, 3) := by decide +kernel
theorem dX6_readHead_141 : decode cX6_readHead 141 = .ok (.iconst 1, 1) := by decide +kernel
theorem dX6_readHead_142 : decode cX6_readHead 142 = .ok (.iadd, 1) := by decide +kernel
theorem dX6_readHead_143 : decode cX6_readHead 143 = .ok (.putfield 113, 3) := by decide +kernel
theorem dX6_readHead_146 : decode cX6_readHead 146 = .ok (.aload_n 0, 1) := by decide +kernel
theorem dX6_readHead_147 : decode cX6_readHead 147 = .ok (.getfield 25, 3) := by decide +kernel
theorem dX6_readHead_150 : decode cX6_readHead 150 = .ok (.iconst 3, 1) := by decide +kernel
theorem dX6_readHead_151 : decode cX6_readHead 151 = .ok (.aload_n 0, 1) := by decide +kernel
theorem dX6_readHead_152 : decode cX6_readHead 152 = .ok (.getfield 122, 3) := by decide +kernel
theorem dX6_readHead_155 : decode cX6_readHead 155 = .ok (.imul, 1) := by decide +kernel
theorem dX6_readHead_156 : decode cX6_readHead 156 = .ok (.iload_n 1, 1) := by decide +kernel
theorem dX6_readHead_157 : decode cX6_readHead 157 = .ok (.iastore, 1) := by decide +kernel
theorem dX6_readHead_158 : decode cX6_readHead 158 = .ok (.aload_n 0, 1) := by decide +kernel
theorem dX6_readHead_159 : decode cX6_readHead 159 = .ok (.getfield 25, 3) := by decide +kernel
theorem dX6_readHead_162 : decode cX6_readHead 162 = .ok (.iconst 3, 1) := by decide +kernel
theorem dX6_readHead_163 : decode cX6_readHead 163 = .ok (.aload_n 0, 1) := by decide +kernel
theorem dX6_readHead_164 : decode cX6_readHead 164 = .ok (.getfield 122, 3) := by decide +kernel
theorem dX6_readHead_167 : decode cX6_readHead 167 = .ok (.imul, 1) := by decide +kernel
theorem dX6_readHead_168 : decode cX6_readHead 168 = .ok (.iconst 1, 1) := by decide +kernel
theorem dX6_readHead_169 : decode cX6_readHead 169 = .ok (.iadd, 1) := by decide +kernel
theorem dX6_readHead_170 : decode cX6_readHead 170 = .ok (.iload_n 2, 1) := by decide +kernel
theorem dX6_readHead_171 : decode cX6_readHead 171 = .ok (.iastore, 1) := by decide +kernel
theorem dX6_readHead_172 : decode cX6_readHead 172 = .ok (.aload_n 0, 1) := by decide +kernel
theorem dX6_readHead_173 : decode cX6_readHead 173 = .ok (.getfield 25, 3) := by decide +kernel
theorem dX6_readHead_176 : decode cX6_readHead 176 = .ok (.iconst 3, 1) := by decide +kernel
theorem dX6_readHead_177 : decode cX6_readHead 177 = .ok (.aload_n 0, 1) := by decide +kernel
theorem dX6_readHead_178 : decode cX6_readHead 178 = .ok (.getfield 122, 3) := by decide +kernel
theorem dX6_readHead_181 : decode cX6_readHead 181 = .ok (.imul, 1) := by decide +kernel
theorem dX6_readHead_182 : decode cX6_readHead 182 = .ok (.iconst 2, 1) := by decide +kernel
theorem dX6_readHead_183 : decode cX6_readHead 183 = .ok (.iadd, 1) := by decide +kernel
theorem dX6_readHead_184 : decode cX6_readHead 184 = .ok (.aload_n 0, 1) := by decide +kernel
theorem dX6_readHead_185 : decode cX6_readHead 185 = .ok (.getfield 125, 3) := by decide +kernel
theorem dX6_readHead_188 : decode cX6_readHead 188 = .ok (.iastore, 1) := by decide +kernel
theorem dX6_readHead_189 : decode cX6_readHead 189 = .ok (.aload_n 0, 1) := by decide +kernel
theorem dX6_readHead_190 : decode cX6_readHead 190 = .ok (.dup, 1) := by decide +kernel
theorem dX6_readHead_191 : decode cX6_readHead 191 = .ok (.getfield 122, 3) := by decide +kernel
theorem dX6_readHead_194 : decode cX6_readHead 194 = .ok (.iconst 1, 1) := by decide +kernel
theorem dX6_readHead_195 : decode cX6_readHead 195 = .ok (.iadd, 1) := by decide +kernel
theorem dX6_readHead_196 : decode cX6_readHead 196 = .ok (.putfield 122, 3) := by decide +kernel
theorem dX6_readHead_199 : decode cX6_readHead 199 = .ok (.iconst 1, 1) := by decide +kernel
theorem dX6_readHead_200 : decode cX6_readHead 200 = .ok (.ireturn, 1) := by decide +kernel
theorem dX6_readText_0 : decode cX6_readText 0 = .ok (.aload_n 0, 1) := by decide +kernel
theorem dX6_readText_1 : decode cX6_readText 1 = .ok (.iconst 0, 1) := by decide +kernel
theorem dX6_readText_2 : decode cX6_readText 2 = .ok (.putfield 113, 3) := by decide +kernel
theorem dX6_readText_5 : decode cX6_readText 5 = .ok (.aload_n 0, 1) := by decide +kernel
theorem dX6_readText_6 : decode cX6_readText 6 = .ok (.iconst 0, 1) := by decide +kernel
theorem dX6_readText_7 : decode cX6_readText 7 = .ok (.putfield 122, 3) := by decide +kernel
theorem dX6_readText_10 : decode cX6_readText 10 = .ok (.aload_n 0, 1) := by decide +kernel
theorem dX6_readText_11 : decode cX6_readText 11 = .ok (.iconst 0, 1) := by decide +kernel
theorem dX6_readText_12 : decode cX6_readText 12 = .ok (.putfield 125, 3) := by decide +kernel
theorem dX6_readText_15 : decode cX6_readText 15 = .ok (.iconst 1, 1) := by decide +kernel
theorem dX6_readText_16 : decode cX6_readText 16 = .ok (.istore_n 1, 1) := by decide +kernel
theorem dX6_readText_17 : decode cX6_readText 17 = .ok (.aload_n 0, 1) := by decide +kernel
theorem dX6_readText_18 : decode cX6_readText 18 = .ok (.invokevirtual 128, 3) := by decide +kernel
theorem dX6_readText_21 : decode cX6_readText 21 = .ok (.ifCond .ne 8, 3) := by decide +kernel
theorem dX6_readText_24 : decode cX6_readText 24 = .ok (.aload_n 0, 1) := by decide +kernel
theorem dX6_readText_25 : decode cX6_readText 25 = .ok (.getfield 113, 3) := by decide +kernel
theorem dX6_readText_28 : decode cX6_readText 28 = .ok (.ireturn, 1) := by decide +kernel
theorem dX6_readText_29 : decode cX6_readText 29 = .ok (.aload_n 0, 1) := by decide +kernel
theorem dX6_readText_30 : decode cX6_readText 30 = .ok (.getfield 113, 3) := by decide +kernel
theorem dX6_readText_33 : decode cX6_readText 33 = .ok (.aload_n 0, 1) := by decide +kernel
theorem dX6_readText_34 : decode cX6_readText 34 = .ok (.getfield 110, 3) := by decide +kernel
theorem dX6_readText_37 : decode cX6_readText 37 = .ok (.if_icmp .ge 109, 3) := by decide +kernel
theorem dX6_readText_40 : decode cX6_readText 40 = .ok (.iconst 0, 1) := by decide +kernel
theorem dX6_readText_41 : decode cX6_readText 41 = .ok (.istore_n 2, 1) := by decide +kernel
theorem dX6_readText_42 : decode cX6_readText 42 = .ok (.iload_n 1, 1) := by decide +kernel
theorem dX6_readText_43 : decode cX6_readText 43 = .ok (.ifCond .eq 30, 3) := by decide +kernel
theorem dX6_readText_46 : decode cX6_readText 46 = .ok (.aload_n 0, 1) := by decide +kernel
theorem dX6_readText_47 : decode cX6_readText 47 = .ok (.bipush 40, 2) := by decide +kernel
theorem dX6_readText_49 : decode cX6_readText 49 = .ok (.invokevirtual 119, 3) := by decide +kernel
theorem dX6_readText_52 : decode cX6_readText 52 = .ok (.ifCond .eq 21, 3) := by decide +kernel
theorem dX6_readText_55 : decode cX6_readText 55 = .ok (.aload_n 0, 1) := by decide +kernel
theorem dX6_readText_56 : decode cX6_readText 56 = .ok (.dup, 1) := by decide +kernel
theorem dX6_readText_57 : decode cX6_readText 57 = .ok (.getfield 125, 3) := by decide +kernel
theorem dX6_readText_60 : decode cX6_readText 60 = .ok (.iconst 1, 1) := by decide +kernel
theorem dX6_readText_61 : decode cX6_readText 61 = .ok (.iadd, 1) := by decide +kernel
theorem dX6_readText_62 : decode cX6_readText 62 = .ok (.putfield 125, 3) := by decide +kernel
theorem dX6_readText_65 : decode cX6_readText 65 = .ok (.aload_n 0, 1) := by decide +kernel
theorem dX6_readText_66 : decode cX6_readText 66 = .ok (.invokevirtual 128, 3) := by decide +kernel
theorem dX6_readText_69 : decode cX6_readText 69 = .ok (.istore_n 2, 1) := by decide +kernel
theorem dX6_readText_70 : decode cX6_readText 70 = .ok (.goto 64, 3) := by decide +kernel
theorem dX6_readText_73 : decode cX6_readText 73 = .ok (.aload_n 0, 1) := by decide +kernel
theorem dX6_readText_74 : decode cX6_readText 74 = .ok (.aload_n 0, 1) := by decide +kernel
theorem dX6_readText_75 : decode cX6_readText 75 = .ok (.getfield 125, 3) := by decide +kernel
theorem dX6_readText_78 : decode cX6_readText 78 = .ok (.ifCond .ne 8, 3) := by decide +kernel
theorem dX6_readText_81 : decode cX6_readText 81 = .ok (.bipush 59, 2) := by decide +kernel
theorem dX6_readText_83 : decode cX6_readText 83 = .ok (.goto 5, 3) := by decide +kernel
theorem dX6_readText_86 : decode cX6_readText 86 = .ok (.bipush 44, 2) := by decide +kernel
theorem dX6_readText_88 : decode cX6_readText 88 = .ok (.invokevirtual 119, 3) := by decide +kernel
theorem dX6_readText_91 : decode cX6_readText 91 = .ok (.ifCond .eq 13, 3) := by decide +kernel
theorem dX6_readText_94 : decode cX6_readText 94 = .ok (.iconst 1, 1) := by decide +kernel
theorem dX6_readText_95 : decode cX6_readText 95 = .ok (.istore_n 1, 1) := by decide +kernel
theorem dX6_readText_96 : decode cX6_readText 96 = .ok (.aload_n 0, 1) := by decide +kernel
theorem dX6_readText_97 : decode cX6_readText 97 = .ok (.invokevirtual 128, 3) := by decide +kernel
theorem dX6_readText_100 : decode cX6_readText 100 = .ok (.istore_n 2, 1) := by decide +kernel
theorem dX6_readText_101 : decode cX6_readText 101 = .ok (.goto 33, 3) := by decide +kernel
theorem dX6_readText_104 : decode cX6_readText 104 = .ok (.aload_n 0, 1) := by decide +kernel
theorem dX6_readText_105 : decode cX6_readText 105 = .ok (.getfield 125, 3) := by decide +kernel
theorem dX6_readText_108 : decode cX6_readText 108 = .ok (.ifCond .le 26, 3) := by decide +kernel
theorem dX6_readText_111 : decode cX6_readText 111 = .ok (.aload_n 0, 1) := by decide +kernel
theorem dX6_readText_112 : decode cX6_readText 112 = .ok (.bipush 41, 2) := by decide +kernel
theorem dX6_readText_114 : decode cX6_readText 114 = .ok (.invokevirtual 119, 3) := by decide +kernel
theorem dX6_readText_117 : decode cX6_readText 117 = .ok (.ifCond .eq 17, 3) := by decide +kernel
theorem dX6_readText_120 : decode cX6_readText 120 = .ok (.aload_n 0, 1) := by decide +kernel
theorem dX6_readText_121 : decode cX6_readText 121 = .ok (.dup, 1) := by decide +kernel
theorem dX6_readText_122 : decode cX6_readText 122 = .ok (.getfield 125, 3) := by decide +kernel
theorem dX6_readText_125 : decode cX6_readText 125 = .ok (.iconst 1, 1) := by decide +kernel
theorem dX6_readText_126 : decode cX6_readText 126 = .ok (.isub, 1) := by decide +kernel
theorem dX6_readText_127 : decode cX6_readText 127 = .ok (.putfield 125, 3) := by decide +kernel
theorem dX6_readText_130 : decode cX6_readText 130 = .ok (.iconst 0, 1) := by decide +kernel
theorem dX6_readText_131 : decode cX6_readText 131 = .ok (.istore_n 1, 1) := by decide +kernel
theorem dX6_readText_132 : decode cX6_readText 132 = .ok (.iconst 1, 1) := by decide +kernel
theorem dX6_readText_133 : decode cX6_readText 133 = .ok (.istore_n 2, 1) := by decide +kernel
theorem dX6_readText_134 : decode cX6_readText 134 = .ok (.iload_n 2, 1) := by decide +kernel
theorem dX6_readText_135 : decode cX6_readText 135 = .ok (.ifCond .ne 8, 3) := by decide +kernel
theorem dX6_readText_138 : decode cX6_readText 138 = .ok (.aload_n 0, 1) := by decide +kernel
theorem dX6_readText_139 : decode cX6_readText 139 = .ok (.getfield 113, 3) := by decide +kernel
theorem dX6_readText_142 : decode cX6_readText 142 = .ok (.ireturn, 1) := by decide +kernel
theorem dX6_readText_143 : decode cX6_readText 143 = .ok (.goto (-114), 3) := by decide +kernel
theorem dX6_readText_146 : decode cX6_readText 146 = .ok (.aload_n 0, 1) := by decide +kernel
theorem dX6_readText_147 : decode cX6_readText 147 = .ok (.getfield 125, 3) := by decide +kernel
theorem dX6_readText_150 : decode cX6_readText 150 = .ok (.ifCond .ne 8, 3) := by decide +kernel
theorem dX6_readText_153 : decode cX6_readText 153 = .ok (.bipush (-5), 2) := by decide +kernel
theorem dX6_readText_155 : decode cX6_readText 155 = .ok (.goto 7, 3) := by decide +kernel
theorem dX6_readText_158 : decode cX6_readText 158 = .ok (.aload_n 0, 1) := by decide +kernel
theorem dX6_readText_159 : decode cX6_readText 159 = .ok (.getfield 113, 3) := by decide +kernel
theorem dX6_readText_162 : decode cX6_readText 162 = .ok (.ireturn, 1) := by decide +kernel
theorem dX6_launchAll_0 : decode cX6_launchAll 0 = .ok (.iconst 0, 1) := by decide +kernel
theorem dX6_launchAll_1 : decode cX6_launchAll 1 = .ok (.istore_n 1, 1) := by decide +kernel
theorem dX6_launchAll_2 : decode cX6_launchAll 2 = .ok (.iconst 0, 1) := by decide +kernel
theorem dX6_launchAll_3 : decode cX6_launchAll 3 = .ok (.istore_n 2, 1) := by decide +kernel
theorem dX6_launchAll_4 : decode cX6_launchAll 4 = .ok (.iload_n 2, 1) := by decide +kernel
theorem dX6_launchAll_5 : decode cX6_launchAll 5 = .ok (.aload_n 0, 1) := by decide +kernel
theorem dX6_launchAll_6 : decode cX6_launchAll 6 = .ok (.getfield 122, 3) := by decide +kernel
theorem dX6_launchAll_9 : decode cX6_launchAll 9 = .ok (.if_icmp .ge 100, 3) := by decide +kernel
theorem dX6_launchAll_12 : decode cX6_launchAll 12 = .ok (.aload_n 0, 1) := by decide +kernel
theorem dX6_launchAll_13 : decode cX6_launchAll 13 = .ok (.getfield 25, 3) := by decide +kernel
theorem dX6_launchAll_16 : decode cX6_launchAll 16 = .ok (.iconst 3, 1) := by decide +kernel
theorem dX6_launchAll_17 : decode cX6_launchAll 17 = .ok (.iload_n 2, 1) := by decide +kernel
theorem dX6_launchAll_18 : decode cX6_launchAll 18 = .ok (.imul, 1) := by decide +kernel
theorem dX6_launchAll_19 : decode cX6_launchAll 19 = .ok (.iconst 2, 1) := by decide +kernel
theorem dX6_launchAll_20 : decode cX6_launchAll 20 = .ok (.iadd, 1) := by decide +kernel
theorem dX6_launchAll_21 : decode cX6_launchAll 21 = .ok (.iaload, 1) := by decide +kernel
theorem dX6_launchAll_22 : decode cX6_launchAll 22 = .ok (.istore_n 3, 1) := by decide +kernel
theorem dX6_launchAll_23 : decode cX6_launchAll 23 = .ok (.aload_n 0, 1) := by decide +kernel
theorem dX6_launchAll_24 : decode cX6_launchAll 24 = .ok (.aload_n 0, 1) := by decide +kernel
theorem dX6_launchAll_25 : decode cX6_launchAll 25 = .ok (.getfield 25, 3) := by decide +kernel
theorem dX6_launchAll_28 : decode cX6_launchAll 28 = .ok (.iconst 3, 1) := by decide +kernel
theorem dX6_launchAll_29 : decode cX6_launchAll 29 = .ok (.iload_n 2, 1) := by decide +kernel
theorem dX6_launchAll_30 : decode cX6_launchAll 30 = .ok (.imul, 1) := by decide +kernel
theorem dX6_launchAll_31 : decode cX6_launchAll 31 = .ok (.iaload, 1) := by decide +kernel
theorem dX6_launchAll_32 : decode cX6_launchAll 32 = .ok (.aload_n 0, 1) := by decide +kernel
theorem dX6_launchAll_33 : decode cX6_launchAll 33 = .ok (.getfield 25, 3) := by decide +kernel
theorem dX6_launchAll_36 : decode cX6_launchAll 36 = .ok (.iconst 3, 1) := by decide +kernel
theorem dX6_launchAll_37 : decode cX6_launchAll 37 = .ok (.iload_n 2, 1) := by decide +kernel
theorem dX6_launchAll_38 : decode cX6_launchAll 38 = .ok (.imul, 1) := by decide +kernel
theorem dX6_launchAll_39 : decode cX6_launchAll 39 = .ok (.iconst 1, 1) := by decide +kernel
theorem dX6_launchAll_40 : decode cX6_launchAll 40 = .ok (.iadd, 1) := by decide +kernel
theorem dX6_launchAll_41 : decode cX6_launchAll 41 = .ok (.iaload, 1) := by decide +kernel
theorem dX6_launchAll_42 : decode cX6_launchAll 42 = .ok (.iload_n 3, 1) := by decide +kernel
theorem dX6_launchAll_43 : decode cX6_launchAll 43 = .ok (.ifCond .ne 7, 3) := by decide +kernel
theorem dX6_launchAll_46 : decode cX6_launchAll 46 = .ok (.iconst 0, 1) := by decide +kernel
theorem dX6_launchAll_47 : decode cX6_launchAll 47 = .ok (.goto 13, 3) := by decide +kernel
theorem dX6_launchAll_50 : decode cX6_launchAll 50 = .ok (.aload_n 0, 1) := by decide +kernel
theorem dX6_launchAll_51 : decode cX6_launchAll 51 = .ok (.getfield 28, 3) := by decide +kernel
theorem dX6_launchAll_54 : decode cX6_launchAll 54 = .ok (.iload_n 3, 1) := by decide +kernel
theorem dX6_launchAll_55 : decode cX6_launchAll 55 = .ok (.iconst 1, 1) := by decide +kernel
theorem dX6_launchAll_56 : decode cX6_launchAll 56 = .ok (.isub, 1) := by decide +kernel
theorem dX6_launchAll_57 : decode cX6_launchAll 57 = .ok (.iaload, 1) := by decide +kernel
theorem dX6_launchAll_58 : decode cX6_launchAll 58 = .ok (.iconst 1, 1) := by decide +kernel
theorem dX6_launchAll_59 : decode cX6_launchAll 59 = .ok (.iadd, 1) := by decide +kernel
theorem dX6_launchAll_60 : decode cX6_launchAll 60 = .ok (.invokevirtual 132, 3) := by decide +kernel
theorem dX6_launchAll_63 : decode cX6_launchAll 63 = .ok (.istore 4, 2) := by decide +kernel
theorem dX6_launchAll_65 : decode cX6_launchAll 65 = .ok (.aload_n 0, 1) := by decide +kernel
theorem dX6_launchAll_66 : decode cX6_launchAll 66 = .ok (.getfield 28, 3) := by decide +kernel
theorem dX6_launchAll_69 : decode cX6_launchAll 69 = .ok (.iload_n 3, 1) := by decide +kernel
theorem dX6_launchAll_70 : decode cX6_launchAll 70 = .ok (.iload 4, 2) := by decide +kernel
theorem dX6_launchAll_72 : decode cX6_launchAll 72 = .ok (.iastore, 1) := by decide +kernel
theorem dX6_launchAll_73 : decode cX6_launchAll 73 = .ok (.iload_n 3, 1) := by decide +kernel
theorem dX6_launchAll_74 : decode cX6_launchAll 74 = .ok (.ifCond .ne 29, 3) := by decide +kernel
theorem dX6_launchAll_77 : decode cX6_launchAll 77 = .ok (.iinc 1 1, 3) := by decide +kernel
theorem dX6_launchAll_80 : decode cX6_launchAll 80 = .ok (.aload_n 0, 1) := by decide +kernel
theorem dX6_launchAll_81 : decode cX6_launchAll 81 = .ok (.iconst 0, 1) := by decide +kernel
theorem dX6_launchAll_82 : decode cX6_launchAll 82 = .ok (.bipush 6, 2) := by decide +kernel
theorem dX6_launchAll_84 : decode cX6_launchAll 84 = .ok (.aload_n 0, 1) := by decide +kernel
theorem dX6_launchAll_85 : decode cX6_launchAll 85 = .ok (.getfield 25, 3) := by decide +kernel
theorem dX6_launchAll_88 : decode cX6_launchAll 88 = .ok (.iconst 3, 1) := by decide +kernel
theorem dX6_launchAll_89 : decode cX6_launchAll 89 = .ok (.iload_n 2, 1) := by decide +kernel
theorem dX6_launchAll_90 : decode cX6_launchAll 90 = .ok (.imul, 1) := by decide +kernel
theorem dX6_launchAll_91 : decode cX6_launchAll 91 = .ok (.iaload, 1) := by decide +kernel
theorem dX6_launchAll_92 : decode cX6_launchAll 92 = .ok (.aload_n 0, 1) := by decide +kernel
theorem dX6_launchAll_93 : decode cX6_launchAll 93 = .ok (.invokevirtual 90, 3) := by decide +kernel
theorem dX6_launchAll_96 : decode cX6_launchAll 96 = .ok (.iload 4, 2) := by decide +kernel
theorem dX6_launchAll_98 : decode cX6_launchAll 98 = .ok (.iconst 1, 1) := by decide +kernel
theorem dX6_launchAll_99 : decode cX6_launchAll 99 = .ok (.iadd, 1) := by decide +kernel
theorem dX6_launchAll_100 : decode cX6_launchAll 100 = .ok (.invokevirtual 73, 3) := by decide +kernel
theorem dX6_launchAll_103 : decode cX6_launchAll 103 = .ok (.iinc 2 1, 3) := by decide +kernel
theorem dX6_launchAll_106 : decode cX6_launchAll 106 = .ok (.goto (-102), 3) := by decide +kernel
theorem dX6_launchAll_109 : decode cX6_launchAll 109 = .ok (.aload_n 0, 1) := by decide +kernel
theorem dX6_launchAll_110 : decode cX6_launchAll 110 = .ok (.getfield 7, 3) := by decide +kernel
theorem dX6_launchAll_113 : decode cX6_launchAll 113 = .ok (.iconst 5, 1) := by decide +kernel
theorem dX6_launchAll_114 : decode cX6_launchAll 114 = .ok (.dup2, 1) := by decide +kernel
theorem dX6_launchAll_115 : decode cX6_launchAll 115 = .ok (.iaload, 1) := by decide +kernel
theorem dX6_launchAll_116 : decode cX6_launchAll 116 = .ok (.iload_n 1, 1) := by decide +kernel
theorem dX6_launchAll_117 : decode cX6_launchAll 117 = .ok (.iadd, 1) := by decide +kernel
theorem dX6_launchAll_118 : decode cX6_launchAll 118 = .ok (.iastore, 1) := by decide +kernel
theorem dX6_launchAll_119 : decode cX6_launchAll 119 = .ok (.iload_n 1, 1) := by decide +kernel
theorem dX6_launchAll_120 : decode cX6_launchAll 120 = .ok (.ireturn, 1) := by decide +kernel
theorem dX6_launch_0 : decode cX6_launch 0 = .ok (.aload_n 0, 1) := by decide +kernel
theorem dX6_launch_1 : decode cX6_launch 1 = .ok (.invokevirtual 136, 3) := by decide +kernel
theorem dX6_launch_4 : decode cX6_launch 4 = .ok (.istore_n 1, 1) := by decide +kernel
theorem dX6_launch_5 : decode cX6_launch 5 = .ok (.iload_n 1, 1) := by decide +kernel
theorem dX6_launch_6 : decode cX6_launch 6 = .ok (.bipush (-5), 2) := by decide +kernel
theorem dX6_launch_8 : decode cX6_launch 8 = .ok (.if_icmp .eq 8, 3) := by decide +kernel
theorem dX6_launch_11 : decode cX6_launch 11 = .ok (.bipush (-100), 2) := by decide +kernel
theorem dX6_launch_13 : decode cX6_launch 13 = .ok (.iload_n 1, 1) := by decide +kernel
theorem dX6_launch_14 : decode cX6_launch 14 = .ok (.isub, 1) := by decide +kernel
theorem dX6_launch_15 : decode cX6_launch 15 = .ok (.ireturn, 1) := by decide +kernel
theorem dX6_launch_16 : decode cX6_launch 16 = .ok (.aload_n 0, 1) := by decide +kernel
theorem dX6_launch_17 : decode cX6_launch 17 = .ok (.invokevirtual 139, 3) := by decide +kernel
theorem dX6_launch_20 : decode cX6_launch 20 = .ok (.aload_n 0, 1) := by decide +kernel
theorem dX6_launch_21 : decode cX6_launch 21 = .ok (.getfield 122, 3) := by decide +kernel
theorem dX6_launch_24 : decode cX6_launch 24 = .ok (.iadd, 1) := by decide +kernel
theorem dX6_launch_25 : decode cX6_launch 25 = .ok (.bipush 80, 2) := by decide +kernel
theorem dX6_launch_27 : decode cX6_launch 27 = .ok (.if_icmp .le 6, 3) := by decide +kernel
theorem dX6_launch_30 : decode cX6_launch 30 = .ok (.bipush (-3), 2) := by decide +kernel
theorem dX6_launch_32 : decode cX6_launch 32 = .ok (.ireturn, 1) := by decide +kernel
theorem dX6_launch_33 : decode cX6_launch 33 = .ok (.aload_n 0, 1) := by decide +kernel
theorem dX6_launch_34 : decode cX6_launch 34 = .ok (.invokevirtual 107, 3) := by decide +kernel
theorem dX6_launch_37 : decode cX6_launch 37 = .ok (.aload_n 0, 1) := by decide +kernel
theorem dX6_launch_38 : decode cX6_launch 38 = .ok (.invokevirtual 142, 3) := by decide +kernel
theorem dX6_launch_41 : decode cX6_launch 41 = .ok (.ireturn, 1) := by decide +kernel
theorem dX6_partsOfRead_0 : decode cX6_partsOfRead 0 = .ok (.iconst 0, 1) := by decide +kernel
theorem dX6_partsOfRead_1 : decode cX6_partsOfRead 1 = .ok (.istore_n 2, 1) := by decide +kernel
theorem dX6_partsOfRead_2 : decode cX6_partsOfRead 2 = .ok (.aload_n 0, 1) := by decide +kernel
theorem dX6_partsOfRead_3 : decode cX6_partsOfRead 3 = .ok (.getfield 25, 3) := by decide +kernel
theorem dX6_partsOfRead_6 : decode cX6_partsOfRead 6 = .ok (.iconst 3, 1) := by decide +kernel
theorem dX6_partsOfRead_7 : decode cX6_partsOfRead 7 = .ok (.iload_n 1, 1) := by decide +kernel
theorem dX6_partsOfRead_8 : decode cX6_partsOfRead 8 = .ok (.imul, 1) := by decide +kernel
theorem dX6_partsOfRead_9 : decode cX6_partsOfRead 9 = .ok (.iconst 2, 1) := by decide +kernel
theorem dX6_partsOfRead_10 : decode cX6_partsOfRead 10 = .ok (.iadd, 1) := by decide +kernel
theorem dX6_partsOfRead_11 : decode cX6_partsOfRead 11 = .ok (.iaload, 1) := by decide +kernel
theorem dX6_partsOfRead_12 : decode cX6_partsOfRead 12 = .ok (.istore_n 3, 1) := by decide +kernel
theorem dX6_partsOfRead_13 : decode cX6_partsOfRead 13 = .ok (.iload_n 1, 1) := by decide +kernel
theorem dX6_partsOfRead_14 : decode cX6_partsOfRead 14 = .ok (.iconst 1, 1) := by decide +kernel
theorem dX6_partsOfRead_15 : decode cX6_partsOfRead 15 = .ok (.iadd, 1) := by decide +kernel
theorem dX6_partsOfRead_16 : decode cX6_partsOfRead 16 = .ok (.istore 4, 2) := by decide +kernel
theorem dX6_partsOfRead_18 : decode cX6_partsOfRead 18 = .ok (.iload 4, 2) := by decide +kernel
theorem dX6_partsOfRead_20 : decode cX6_partsOfRead 20 = .ok (.aload_n 0, 1) := by decide +kernel
theorem dX6_partsOfRead_21 : decode cX6_partsOfRead 21 = .ok (.getfield 122, 3) := by decide +kernel
theorem dX6_partsOfRead_24 : decode cX6_partsOfRead 24 = .ok (.if_icmp .ge 49, 3) := by decide +kernel
theorem dX6_partsOfRead_27 : decode cX6_partsOfRead 27 = .ok (.aload_n 0, 1) := by decide +kernel
theorem dX6_partsOfRead_28 : decode cX6_partsOfRead 28 = .ok (.getfield 25, 3) := by decide +kernel
theorem dX6_partsOfRead_31 : decode cX6_partsOfRead 31 = .ok (.iconst 3, 1) := by decide +kernel
theorem dX6_partsOfRead_32 : decode cX6_partsOfRead 32 = .ok (.iload 4, 2) := by decide +kernel
theorem dX6_partsOfRead_34 : decode cX6_partsOfRead 34 = .ok (.imul, 1) := by decide +kernel
theorem dX6_partsOfRead_35 : decode cX6_partsOfRead 35 = .ok (.iconst 2, 1) := by decide +kernel
theorem dX6_partsOfRead_36 : decode cX6_partsOfRead 36 = .ok (.iadd, 1) := by decide +kernel
theorem dX6_partsOfRead_37 : decode cX6_partsOfRead 37 = .ok (.iaload, 1) := by decide +kernel
theorem dX6_partsOfRead_38 : decode cX6_partsOfRead 38 = .ok (.iload_n 3, 1) := by decide +kernel
theorem dX6_partsOfRead_39 : decode cX6_partsOfRead 39 = .ok (.if_icmp .le 34, 3) := by decide +kernel
theorem dX6_partsOfRead_42 : decode cX6_partsOfRead 42 = .ok (.iload_n 2, 1) := by decide +kernel
theorem dX6_partsOfRead_43 : decode cX6_partsOfRead 43 = .ok (.aload_n 0, 1) := by decide +kernel
theorem dX6_partsOfRead_44 : decode cX6_partsOfRead 44 = .ok (.getfield 25, 3) := by decide +kernel
theorem dX6_partsOfRead_47 : decode cX6_partsOfRead 47 = .ok (.iconst 3, 1) := by decide +kernel
theorem dX6_partsOfRead_48 : decode cX6_partsOfRead 48 = .ok (.iload 4, 2) := by decide +kernel
theorem dX6_partsOfRead_50 : decode cX6_partsOfRead 50 = .ok (.imul, 1) := by decide +kernel
theorem dX6_partsOfRead_51 : decode cX6_partsOfRead 51 = .ok (.iconst 2, 1) := by decide +kernel
theorem dX6_partsOfRead_52 : decode cX6_partsOfRead 52 = .ok (.iadd, 1) := by decide +kernel
theorem dX6_partsOfRead_53 : decode cX6_partsOfRead 53 = .ok (.iaload, 1) := by decide +kernel
theorem dX6_partsOfRead_54 : decode cX6_partsOfRead 54 = .ok (.iload_n 3, 1) := by decide +kernel
theorem dX6_partsOfRead_55 : decode cX6_partsOfRead 55 = .ok (.iconst 1, 1) := by decide +kernel
theorem dX6_partsOfRead_56 : decode cX6_partsOfRead 56 = .ok (.iadd, 1) := by decide +kernel
theorem dX6_partsOfRead_57 : decode cX6_partsOfRead 57 = .ok (.if_icmp .ne 7, 3) := by decide +kernel
theorem dX6_partsOfRead_60 : decode cX6_partsOfRead 60 = .ok (.iconst 1, 1) := by decide +kernel
theorem dX6_partsOfRead_61 : decode cX6_partsOfRead 61 = .ok (.goto 4, 3) := by decide +kernel
theorem dX6_partsOfRead_64 : decode cX6_partsOfRead 64 = .ok (.iconst 0, 1) := by decide +kernel
theorem dX6_partsOfRead_65 : decode cX6_partsOfRead 65 = .ok (.iadd, 1) := by decide +kernel
theorem dX6_partsOfRead_66 : decode cX6_partsOfRead 66 = .ok (.istore_n 2, 1) := by decide +kernel
theorem dX6_partsOfRead_67 : decode cX6_partsOfRead 67 = .ok (.iinc 4 1, 3) := by decide +kernel
theorem dX6_partsOfRead_70 : decode cX6_partsOfRead 70 = .ok (.goto (-52), 3) := by decide +kernel
theorem dX6_partsOfRead_73 : decode cX6_partsOfRead 73 = .ok (.iload_n 2, 1) := by decide +kernel
theorem dX6_partsOfRead_74 : decode cX6_partsOfRead 74 = .ok (.ireturn, 1) := by decide +kernel
theorem dX6_planned_0 : decode cX6_planned 0 = .ok (.iload_n 1, 1) := by decide +kernel
theorem dX6_planned_1 : decode cX6_planned 1 = .ok (.iconst 0, 1) := by decide +kernel
theorem dX6_planned_2 : decode cX6_planned 2 = .ok (.iconst 3, 1) := by decide +kernel
theorem dX6_planned_3 : decode cX6_planned 3 = .ok (.invokestatic 31, 3) := by decide +kernel
theorem dX6_planned_6 : decode cX6_planned 6 = .ok (.ifCond .ne 6, 3) := by decide +kernel
theorem dX6_planned_9 : decode cX6_planned 9 = .ok (.bipush (-2), 2) := by decide +kernel
theorem dX6_planned_11 : decode cX6_planned 11 = .ok (.ireturn, 1) := by decide +kernel
theorem dX6_planned_12 : decode cX6_planned 12 = .ok (.aload_n 0, 1) := by decide +kernel
theorem dX6_planned_13 : decode cX6_planned 13 = .ok (.invokevirtual 136, 3) := by decide +kernel
theorem dX6_planned_16 : decode cX6_planned 16 = .ok (.istore_n 2, 1) := by decide +kernel
theorem dX6_planned_17 : decode cX6_planned 17 = .ok (.iload_n 2, 1) := by decide +kernel
theorem dX6_planned_18 : decode cX6_planned 18 = .ok (.bipush (-5), 2) := by decide +kernel
theorem dX6_planned_20 : decode cX6_planned 20 = .ok (.if_icmp .eq 8, 3) := by decide +kernel
theorem dX6_planned_23 : decode cX6_planned 23 = .ok (.bipush (-100), 2) := by decide +kernel
theorem dX6_planned_25 : decode cX6_planned 25 = .ok (.iload_n 2, 1) := by decide +kernel
theorem dX6_planned_26 : decode cX6_planned 26 = .ok (.isub, 1) := by decide +kernel
theorem dX6_planned_27 : decode cX6_planned 27 = .ok (.ireturn, 1) := by decide +kernel
theorem dX6_planned_28 : decode cX6_planned 28 = .ok (.iconst 0, 1) := by decide +kernel
theorem dX6_planned_29 : decode cX6_planned 29 = .ok (.istore_n 3, 1) := by decide +kernel
theorem dX6_planned_30 : decode cX6_planned 30 = .ok (.iconst 0, 1) := by decide +kernel
theorem dX6_planned_31 : decode cX6_planned 31 = .ok (.istore 4, 2) := by decide +kernel
theorem dX6_planned_33 : decode cX6_planned 33 = .ok (.iconst 0, 1) := by decide +kernel
theorem dX6_planned_34 : decode cX6_planned 34 = .ok (.istore 5, 2) := by decide +kernel
theorem dX6_planned_36 : decode cX6_planned 36 = .ok (.iconst 0, 1) := by decide +kernel
theorem dX6_planned_37 : decode cX6_planned 37 = .ok (.istore 6, 2) := by decide +kernel
theorem dX6_planned_39 : decode cX6_planned 39 = .ok (.iload 6, 2) := by decide +kernel
theorem dX6_planned_41 : decode cX6_planned 41 = .ok (.aload_n 0, 1) := by decide +kernel
theorem dX6_planned_42 : decode cX6_planned 42 = .ok (.getfield 122, 3) := by decide +kernel
theorem dX6_planned_45 : decode cX6_planned 45 = .ok (.if_icmp .ge 85, 3) := by decide +kernel
theorem dX6_planned_48 : decode cX6_planned 48 = .ok (.iload_n 3, 1) := by decide +kernel
theorem dX6_planned_49 : decode cX6_planned 49 = .ok (.aload_n 0, 1) := by decide +kernel
theorem dX6_planned_50 : decode cX6_planned 50 = .ok (.getfield 25, 3) := by decide +kernel
theorem dX6_planned_53 : decode cX6_planned 53 = .ok (.iconst 3, 1) := by decide +kernel
theorem dX6_planned_54 : decode cX6_planned 54 = .ok (.iload 6, 2) := by decide +kernel
theorem dX6_planned_56 : decode cX6_planned 56 = .ok (.imul, 1) := by decide +kernel
theorem dX6_planned_57 : decode cX6_planned 57 = .ok (.iconst 1, 1) := by decide +kernel
theorem dX6_planned_58 : decode cX6_planned 58 = .ok (.iadd, 1) := by decide +kernel
theorem dX6_planned_59 : decode cX6_planned 59 = .ok (.iaload, 1) := by decide +kernel
theorem dX6_planned_60 : decode cX6_planned 60 = .ok (.iadd, 1) := by decide +kernel
theorem dX6_planned_61 : decode cX6_planned 61 = .ok (.istore_n 3, 1) := by decide +kernel
theorem dX6_planned_62 : decode cX6_planned 62 = .ok (.aload_n 0, 1) := by decide +kernel
theorem dX6_planned_63 : decode cX6_planned 63 = .ok (.getfield 25, 3) := by decide +kernel
theorem dX6_planned_66 : decode cX6_planned 66 = .ok (.iconst 3, 1) := by decide +kernel
theorem dX6_planned_67 : decode cX6_planned 67 = .ok (.iload 6, 2) := by decide +kernel
theorem dX6_planned_69 : decode cX6_planned 69 = .ok (.imul, 1) := by decide +kernel
theorem dX6_planned_70 : decode cX6_planned 70 = .ok (.iconst 2, 1) := by decide +kernel
theorem dX6_planned_71 : decode cX6_planned 71 = .ok (.iadd, 1) := by decide +kernel
theorem dX6_planned_72 : decode cX6_planned 72 = .ok (.iaload, 1) := by decide +kernel
theorem dX6_planned_73 : decode cX6_planned 73 = .ok (.iconst 1, 1) := by decide +kernel
theorem dX6_planned_74 : decode cX6_planned 74 = .ok (.iadd, 1) := by decide +kernel
theorem dX6_planned_75 : decode cX6_planned 75 = .ok (.iload 4, 2) := by decide +kernel
theorem dX6_planned_77 : decode cX6_planned 77 = .ok (.if_icmp .le 19, 3) := by decide +kernel
theorem dX6_planned_80 : decode cX6_planned 80 = .ok (.aload_n 0, 1) := by decide +kernel
theorem dX6_planned_81 : decode cX6_planned 81 = .ok (.getfield 25, 3) := by decide +kernel
theorem dX6_planned_84 : decode cX6_planned 84 = .ok (.iconst 3, 1) := by decide +kernel
theorem dX6_planned_85 : decode cX6_planned 85 = .ok (.iload 6, 2) := by decide +kernel
theorem dX6_planned_87 : decode cX6_planned 87 = .ok (.imul, 1) := by decide +kernel
theorem dX6_planned_88 : decode cX6_planned 88 = .ok (.iconst 2, 1) := by decide +kernel
theorem dX6_planned_89 : decode cX6_planned 89 = .ok (.iadd, 1) := by decide +kernel
theorem dX6_planned_90 : decode cX6_planned 90 = .ok (.iaload, 1) := by decide +kernel
theorem dX6_planned_91 : decode cX6_planned 91 = .ok (.iconst 1, 1) := by decide +kernel
theorem dX6_planned_92 : decode cX6_planned 92 = .ok (.iadd, 1) := by decide +kernel
theorem dX6_planned_93 : decode cX6_planned 93 = .ok (.goto 5, 3) := by decide +kernel
theorem dX6_planned_96 : decode cX6_planned 96 = .ok (.iload 4, 2) := by decide +kernel
theorem dX6_planned_98 : decode cX6_planned 98 = .ok (.istore 4, 2) := by decide +kernel
theorem dX6_planned_100 : decode cX6_planned 100 = .ok (.aload_n 0, 1) := by decide +kernel
theorem dX6_planned_101 : decode cX6_planned 101 = .ok (.iload 6, 2) := by decide +kernel
theorem dX6_planned_103 : decode cX6_planned 103 = .ok (.invokevirtual 145, 3) := by decide +kernel
theorem dX6_planned_106 : decode cX6_planned 106 = .ok (.iload 5, 2) := by decide +kernel
theorem dX6_planned_108 : decode cX6_planned 108 = .ok (.if_icmp .le 12, 3) := by decide +kernel
theorem dX6_planned_111 : decode cX6_planned 111 = .ok (.aload_n 0, 1) := by decide +kernel
theorem dX6_planned_112 : decode cX6_planned 112 = .ok (.iload 6, 2) := by decide +kernel
theorem dX6_planned_114 : decode cX6_planned 114 = .ok (.invokevirtual 145, 3) := by decide +kernel
theorem dX6_planned_117 : decode cX6_planned 117 = .ok (.goto 5, 3) := by decide +kernel
theorem dX6_planned_120 : decode cX6_planned 120 = .ok (.iload 5, 2) := by decide +kernel
theorem dX6_planned_122 : decode cX6_planned 122 = .ok (.istore 5, 2) := by decide +kernel
theorem dX6_planned_124 : decode cX6_planned 124 = .ok (.iinc 6 1, 3) := by decide +kernel
theorem dX6_planned_127 : decode cX6_planned 127 = .ok (.goto (-88), 3) := by decide +kernel
theorem dX6_planned_130 : decode cX6_planned 130 = .ok (.iload_n 1, 1) := by decide +kernel
theorem dX6_planned_131 : decode cX6_planned 131 = .ok (.ifCond .ne 10, 3) := by decide +kernel
theorem dX6_planned_134 : decode cX6_planned 134 = .ok (.aload_n 0, 1) := by decide +kernel
theorem dX6_planned_135 : decode cX6_planned 135 = .ok (.getfield 122, 3) := by decide +kernel
theorem dX6_planned_138 : decode cX6_planned 138 = .ok (.goto 24, 3) := by decide +kernel
theorem dX6_planned_141 : decode cX6_planned 141 = .ok (.iload_n 1, 1) := by decide +kernel
theorem dX6_planned_142 : decode cX6_planned 142 = .ok (.iconst 1, 1) := by decide +kernel
theorem dX6_planned_143 : decode cX6_planned 143 = .ok (.if_icmp .ne 7, 3) := by decide +kernel
theorem dX6_planned_146 : decode cX6_planned 146 = .ok (.iload_n 3, 1) := by decide +kernel
theorem dX6_planned_147 : decode cX6_planned 147 = .ok (.goto 15, 3) := by decide +kernel
theorem dX6_planned_150 : decode cX6_planned 150 = .ok (.iload_n 1, 1) := by decide +kernel
theorem dX6_planned_151 : decode cX6_planned 151 = .ok (.iconst 2, 1) := by decide +kernel
theorem dX6_planned_152 : decode cX6_planned 152 = .ok (.if_icmp .ne 8, 3) := by decide +kernel
theorem dX6_planned_155 : decode cX6_planned 155 = .ok (.iload 4, 2) := by decide +kernel
theorem dX6_planned_157 : decode cX6_planned 157 = .ok (.goto 5, 3) := by decide +kernel
theorem dX6_planned_160 : decode cX6_planned 160 = .ok (.iload 5, 2) := by decide +kernel
theorem dX6_planned_162 : decode cX6_planned 162 = .ok (.ireturn, 1) := by decide +kernel
theorem dX6_pass_0 : decode cX6_pass 0 = .ok (.iload_n 1, 1) := by decide +kernel
theorem dX6_pass_1 : decode cX6_pass 1 = .ok (.iconst 1, 1) := by decide +kernel
theorem dX6_pass_2 : decode cX6_pass 2 = .ok (.bipush 100, 2) := by decide +kernel
theorem dX6_pass_4 : decode cX6_pass 4 = .ok (.invokestatic 31, 3) := by decide +kernel
theorem dX6_pass_7 : decode cX6_pass 7 = .ok (.ifCond .ne 6, 3) := by decide +kernel
theorem dX6_pass_10 : decode cX6_pass 10 = .ok (.bipush (-2), 2) := by decide +kernel
theorem dX6_pass_12 : decode cX6_pass 12 = .ok (.ireturn, 1) := by decide +kernel
theorem dX6_pass_13 : decode cX6_pass 13 = .ok (.aload_n 0, 1) := by decide +kernel
theorem dX6_pass_14 : decode cX6_pass 14 = .ok (.getfield 7, 3) := by decide +kernel
theorem dX6_pass_17 : decode cX6_pass 17 = .ok (.iconst 0, 1) := by decide +kernel
theorem dX6_pass_18 : decode cX6_pass 18 = .ok (.iaload, 1) := by decide +kernel
theorem dX6_pass_19 : decode cX6_pass 19 = .ok (.iload_n 1, 1) := by decide +kernel
theorem dX6_pass_20 : decode cX6_pass 20 = .ok (.iadd, 1) := by decide +kernel
theorem dX6_pass_21 : decode cX6_pass 21 = .ok (.ldc 148, 2) := by decide +kernel
theorem dX6_pass_23 : decode cX6_pass 23 = .ok (.if_icmp .le 6, 3) := by decide +kernel
theorem dX6_pass_26 : decode cX6_pass 26 = .ok (.bipush (-3), 2) := by decide +kernel
theorem dX6_pass_28 : decode cX6_pass 28 = .ok (.ireturn, 1) := by decide +kernel
theorem dX6_pass_29 : decode cX6_pass 29 = .ok (.aload_n 0, 1) := by decide +kernel
theorem dX6_pass_30 : decode cX6_pass 30 = .ok (.invokevirtual 107, 3) := by decide +kernel
theorem dX6_pass_33 : decode cX6_pass 33 = .ok (.iconst 0, 1) := by decide +kernel
theorem dX6_pass_34 : decode cX6_pass 34 = .ok (.istore_n 2, 1) := by decide +kernel
theorem dX6_pass_35 : decode cX6_pass 35 = .ok (.iload_n 2, 1) := by decide +kernel
theorem dX6_pass_36 : decode cX6_pass 36 = .ok (.iload_n 1, 1) := by decide +kernel
theorem dX6_pass_37 : decode cX6_pass 37 = .ok (.if_icmp .ge 13, 3) := by decide +kernel
theorem dX6_pass_40 : decode cX6_pass 40 = .ok (.aload_n 0, 1) := by decide +kernel
theorem dX6_pass_41 : decode cX6_pass 41 = .ok (.invokevirtual 149, 3) := by decide +kernel
theorem dX6_pass_44 : decode cX6_pass 44 = .ok (.iinc 2 1, 3) := by decide +kernel
theorem dX6_pass_47 : decode cX6_pass 47 = .ok (.goto (-12), 3) := by decide +kernel
theorem dX6_pass_50 : decode cX6_pass 50 = .ok (.aload_n 0, 1) := by decide +kernel
theorem dX6_pass_51 : decode cX6_pass 51 = .ok (.getfield 7, 3) := by decide +kernel
theorem dX6_pass_54 : decode cX6_pass 54 = .ok (.iconst 0, 1) := by decide +kernel
theorem dX6_pass_55 : decode cX6_pass 55 = .ok (.iaload, 1) := by decide +kernel
theorem dX6_pass_56 : decode cX6_pass 56 = .ok (.ireturn, 1) := by decide +kernel
theorem dX6_lose_0 : decode cX6_lose 0 = .ok (.iload_n 1, 1) := by decide +kernel
theorem dX6_lose_1 : decode cX6_lose 1 = .ok (.ifCond .ge 6, 3) := by decide +kernel
theorem dX6_lose_4 : decode cX6_lose 4 = .ok (.bipush (-2), 2) := by decide +kernel
theorem dX6_lose_6 : decode cX6_lose 6 = .ok (.ireturn, 1) := by decide +kernel
theorem dX6_lose_7 : decode cX6_lose 7 = .ok (.aload_n 0, 1) := by decide +kernel
theorem dX6_lose_8 : decode cX6_lose 8 = .ok (.iload_n 1, 1) := by decide +kernel
theorem dX6_lose_9 : decode cX6_lose 9 = .ok (.invokevirtual 152, 3) := by decide +kernel
theorem dX6_lose_12 : decode cX6_lose 12 = .ok (.istore_n 2, 1) := by decide +kernel
theorem dX6_lose_13 : decode cX6_lose 13 = .ok (.iload_n 2, 1) := by decide +kernel
theorem dX6_lose_14 : decode cX6_lose 14 = .ok (.bipush (-5), 2) := by decide +kernel
theorem dX6_lose_16 : decode cX6_lose 16 = .ok (.if_icmp .ne 5, 3) := by decide +kernel
theorem dX6_lose_19 : decode cX6_lose 19 = .ok (.iconst (-1), 1) := by decide +kernel
theorem dX6_lose_20 : decode cX6_lose 20 = .ok (.ireturn, 1) := by decide +kernel
theorem dX6_lose_21 : decode cX6_lose 21 = .ok (.aload_n 0, 1) := by decide +kernel
theorem dX6_lose_22 : decode cX6_lose 22 = .ok (.invokevirtual 107, 3) := by decide +kernel
theorem dX6_lose_25 : decode cX6_lose 25 = .ok (.aload_n 0, 1) := by decide +kernel
theorem dX6_lose_26 : decode cX6_lose 26 = .ok (.iload_n 2, 1) := by decide +kernel
theorem dX6_lose_27 : decode cX6_lose 27 = .ok (.iconst 0, 1) := by decide +kernel
theorem dX6_lose_28 : decode cX6_lose 28 = .ok (.invokevirtual 60, 3) := by decide +kernel
theorem dX6_lose_31 : decode cX6_lose 31 = .ok (.istore_n 3, 1) := by decide +kernel
theorem dX6_lose_32 : decode cX6_lose 32 = .ok (.aload_n 0, 1) := by decide +kernel
theorem dX6_lose_33 : decode cX6_lose 33 = .ok (.iload_n 2, 1) := by decide +kernel
theorem dX6_lose_34 : decode cX6_lose 34 = .ok (.iconst 3, 1) := by decide +kernel
theorem dX6_lose_35 : decode cX6_lose 35 = .ok (.invokevirtual 60, 3) := by decide +kernel
theorem dX6_lose_38 : decode cX6_lose 38 = .ok (.istore 4, 2) := by decide +kernel
theorem dX6_lose_40 : decode cX6_lose 40 = .ok (.aload_n 0, 1) := by decide +kernel
theorem dX6_lose_41 : decode cX6_lose 41 = .ok (.iload_n 2, 1) := by decide +kernel
theorem dX6_lose_42 : decode cX6_lose 42 = .ok (.iconst 5, 1) := by decide +kernel
theorem dX6_lose_43 : decode cX6_lose 43 = .ok (.invokevirtual 60, 3) := by decide +kernel
theorem dX6_lose_46 : decode cX6_lose 46 = .ok (.iconst 1, 1) := by decide +kernel
theorem dX6_lose_47 : decode cX6_lose 47 = .ok (.isub, 1) := by decide +kernel
theorem dX6_lose_48 : decode cX6_lose 48 = .ok (.istore 5, 2) := by decide +kernel
theorem dX6_lose_50 : decode cX6_lose 50 = .ok (.iload_n 3, 1) := by decide +kernel
theorem dX6_lose_51 : decode cX6_lose 51 = .ok (.ifCond .ne 9, 3) := by decide +kernel
theorem dX6_lose_54 : decode cX6_lose 54 = .ok (.aload_n 0, 1) := by decide +kernel
theorem dX6_lose_55 : decode cX6_lose 55 = .ok (.iload 5, 2) := by decide +kernel
theorem dX6_lose_57 : decode cX6_lose 57 = .ok (.invokevirtual 155, 3) := by decide +kernel
theorem dX6_lose_60 : decode cX6_lose 60 = .ok (.iload_n 3, 1) := by decide +kernel
theorem dX6_lose_61 : decode cX6_lose 61 = .ok (.iconst 1, 1) := by decide +kernel
theorem dX6_lose_62 : decode cX6_lose 62 = .ok (.if_icmp .eq 8, 3) := by decide +kernel
theorem dX6_lose_65 : decode cX6_lose 65 = .ok (.iload_n 3, 1) := by decide +kernel
theorem dX6_lose_66 : decode cX6_lose 66 = .ok (.iconst 2, 1) := by decide +kernel
theorem dX6_lose_67 : decode cX6_lose 67 = .ok (.if_icmp .ne 25, 3) := by decide +kernel
theorem dX6_lose_70 : decode cX6_lose 70 = .ok (.aload_n 0, 1) := by decide +kernel
theorem dX6_lose_71 : decode cX6_lose 71 = .ok (.aload_n 0, 1) := by decide +kernel
theorem dX6_lose_72 : decode cX6_lose 72 = .ok (.iload_n 2, 1) := by decide +kernel
theorem dX6_lose_73 : decode cX6_lose 73 = .ok (.iload_n 3, 1) := by decide +kernel
theorem dX6_lose_74 : decode cX6_lose 74 = .ok (.iconst 1, 1) := by decide +kernel
theorem dX6_lose_75 : decode cX6_lose 75 = .ok (.if_icmp .ne 7, 3) := by decide +kernel
theorem dX6_lose_78 : decode cX6_lose 78 = .ok (.iconst 1, 1) := by decide +kernel
theorem dX6_lose_79 : decode cX6_lose 79 = .ok (.goto 4, 3) := by decide +kernel
theorem dX6_lose_82 : decode cX6_lose 82 = .ok (.iconst 2, 1) := by decide +kernel
theorem dX6_lose_83 : decode cX6_lose 83 = .ok (.invokevirtual 60, 3) := by decide +kernel
theorem dX6_lose_86 : decode cX6_lose 86 = .ok (.bipush 8, 2) := by decide +kernel
theorem dX6_lose_88 : decode cX6_lose 88 = .ok (.iconst 1, 1) := by decide +kernel
theorem dX6_lose_89 : decode cX6_lose 89 = .ok (.invokevirtual 77, 3) := by decide +kernel
theorem dX6_lose_92 : decode cX6_lose 92 = .ok (.aload_n 0, 1) := by decide +kernel
theorem dX6_lose_93 : decode cX6_lose 93 = .ok (.iload_n 2, 1) := by decide +kernel
theorem dX6_lose_94 : decode cX6_lose 94 = .ok (.invokevirtual 84, 3) := by decide +kernel
theorem dX6_lose_97 : decode cX6_lose 97 = .ok (.aload_n 0, 1) := by decide +kernel
theorem dX6_lose_98 : decode cX6_lose 98 = .ok (.getfield 7, 3) := by decide +kernel
theorem dX6_lose_101 : decode cX6_lose 101 = .ok (.iconst 3, 1) := by decide +kernel
theorem dX6_lose_102 : decode cX6_lose 102 = .ok (.dup2, 1) := by decide +kernel
theorem dX6_lose_103 : decode cX6_lose 103 = .ok (.iaload, 1) := by decide +kernel
theorem dX6_lose_104 : decode cX6_lose 104 = .ok (.iload 4, 2) := by decide +kernel
theorem dX6_lose_106 : decode cX6_lose 106 = .ok (.iadd, 1) := by decide +kernel
theorem dX6_lose_107 : decode cX6_lose 107 = .ok (.iastore, 1) := by decide +kernel
theorem dX6_lose_108 : decode cX6_lose 108 = .ok (.aload_n 0, 1) := by decide +kernel
theorem dX6_lose_109 : decode cX6_lose 109 = .ok (.getfield 7, 3) := by decide +kernel
theorem dX6_lose_112 : decode cX6_lose 112 = .ok (.bipush 7, 2) := by decide +kernel
theorem dX6_lose_114 : decode cX6_lose 114 = .ok (.dup2, 1) := by decide +kernel
theorem dX6_lose_115 : decode cX6_lose 115 = .ok (.iaload, 1) := by decide +kernel
theorem dX6_lose_116 : decode cX6_lose 116 = .ok (.iconst 1, 1) := by decide +kernel
theorem dX6_lose_117 : decode cX6_lose 117 = .ok (.iadd, 1) := by decide +kernel
theorem dX6_lose_118 : decode cX6_lose 118 = .ok (.iastore, 1) := by decide +kernel
theorem dX6_lose_119 : decode cX6_lose 119 = .ok (.aload_n 0, 1) := by decide +kernel
theorem dX6_lose_120 : decode cX6_lose 120 = .ok (.getfield 7, 3) := by decide +kernel
theorem dX6_lose_123 : decode cX6_lose 123 = .ok (.bipush 11, 2) := by decide +kernel
theorem dX6_lose_125 : decode cX6_lose 125 = .ok (.iconst 1, 1) := by decide +kernel
theorem dX6_lose_126 : decode cX6_lose 126 = .ok (.iastore, 1) := by decide +kernel
theorem dX6_lose_127 : decode cX6_lose 127 = .ok (.iload 4, 2) := by decide +kernel
theorem dX6_lose_129 : decode cX6_lose 129 = .ok (.ireturn, 1) := by decide +kernel
theorem dX6_makeGood_0 : decode cX6_makeGood 0 = .ok (.aload_n 0, 1) := by decide +kernel
theorem dX6_makeGood_1 : decode cX6_makeGood 1 = .ok (.getfield 7, 3) := by decide +kernel
theorem dX6_makeGood_4 : decode cX6_makeGood 4 = .ok (.bipush 11, 2) := by decide +kernel
theorem dX6_makeGood_6 : decode cX6_makeGood 6 = .ok (.iaload, 1) := by decide +kernel
theorem dX6_makeGood_7 : decode cX6_makeGood 7 = .ok (.ifCond .ne 6, 3) := by decide +kernel
theorem dX6_makeGood_10 : decode cX6_makeGood 10 = .ok (.bipush (-5), 2) := by decide +kernel
theorem dX6_makeGood_12 : decode cX6_makeGood 12 = .ok (.ireturn, 1) := by decide +kernel
theorem dX6_makeGood_13 : decode cX6_makeGood 13 = .ok (.aload_n 0, 1) := by decide +kernel
theorem dX6_makeGood_14 : decode cX6_makeGood 14 = .ok (.invokevirtual 107, 3) := by decide +kernel
theorem dX6_makeGood_17 : decode cX6_makeGood 17 = .ok (.aload_n 0, 1) := by decide +kernel
theorem dX6_makeGood_18 : decode cX6_makeGood 18 = .ok (.getfield 7, 3) := by decide +kernel
theorem dX6_makeGood_21 : decode cX6_makeGood 21 = .ok (.iconst 3, 1) := by decide +kernel
theorem dX6_makeGood_22 : decode cX6_makeGood 22 = .ok (.iaload, 1) := by decide +kernel
theorem dX6_makeGood_23 : decode cX6_makeGood 23 = .ok (.istore_n 1, 1) := by decide +kernel
theorem dX6_makeGood_24 : decode cX6_makeGood 24 = .ok (.aload_n 0, 1) := by decide +kernel
theorem dX6_makeGood_25 : decode cX6_makeGood 25 = .ok (.getfield 7, 3) := by decide +kernel
theorem dX6_makeGood_28 : decode cX6_makeGood 28 = .ok (.iconst 2, 1) := by decide +kernel
theorem dX6_makeGood_29 : decode cX6_makeGood 29 = .ok (.dup2, 1) := by decide +kernel
theorem dX6_makeGood_30 : decode cX6_makeGood 30 = .ok (.iaload, 1) := by decide +kernel
theorem dX6_makeGood_31 : decode cX6_makeGood 31 = .ok (.iload_n 1, 1) := by decide +kernel
theorem dX6_makeGood_32 : decode cX6_makeGood 32 = .ok (.iadd, 1) := by decide +kernel
theorem dX6_makeGood_33 : decode cX6_makeGood 33 = .ok (.iastore, 1) := by decide +kernel
theorem dX6_makeGood_34 : decode cX6_makeGood 34 = .ok (.aload_n 0, 1) := by decide +kernel
theorem dX6_makeGood_35 : decode cX6_makeGood 35 = .ok (.getfield 7, 3) := by decide +kernel
theorem dX6_makeGood_38 : decode cX6_makeGood 38 = .ok (.iconst 3, 1) := by decide +kernel
theorem dX6_makeGood_39 : decode cX6_makeGood 39 = .ok (.iconst 0, 1) := by decide +kernel
theorem dX6_makeGood_40 : decode cX6_makeGood 40 = .ok (.iastore, 1) := by decide +kernel
theorem dX6_makeGood_41 : decode cX6_makeGood 41 = .ok (.aload_n 0, 1) := by decide +kernel
theorem dX6_makeGood_42 : decode cX6_makeGood 42 = .ok (.getfield 7, 3) := by decide +kernel
theorem dX6_makeGood_45 : decode cX6_makeGood 45 = .ok (.bipush 11, 2) := by decide +kernel
theorem dX6_makeGood_47 : decode cX6_makeGood 47 = .ok (.iconst 0, 1) := by decide +kernel
theorem dX6_makeGood_48 : decode cX6_makeGood 48 = .ok (.iastore, 1) := by decide +kernel
theorem dX6_makeGood_49 : decode cX6_makeGood 49 = .ok (.iconst 0, 1) := by decide +kernel
theorem dX6_makeGood_50 : decode cX6_makeGood 50 = .ok (.istore_n 2, 1) := by decide +kernel
theorem dX6_makeGood_51 : decode cX6_makeGood 51 = .ok (.iload_n 2, 1) := by decide +kernel
theorem dX6_makeGood_52 : decode cX6_makeGood 52 = .ok (.bipush 6, 2) := by decide +kernel
theorem dX6_makeGood_54 : decode cX6_makeGood 54 = .ok (.if_icmp .ge 40, 3) := by decide +kernel
theorem dX6_makeGood_57 : decode cX6_makeGood 57 = .ok (.aload_n 0, 1) := by decide +kernel
theorem dX6_makeGood_58 : decode cX6_makeGood 58 = .ok (.iload_n 2, 1) := by decide +kernel
theorem dX6_makeGood_59 : decode cX6_makeGood 59 = .ok (.bipush 8, 2) := by decide +kernel
theorem dX6_makeGood_61 : decode cX6_makeGood 61 = .ok (.invokevirtual 67, 3) := by decide +kernel
theorem dX6_makeGood_64 : decode cX6_makeGood 64 = .ok (.iconst 1, 1) := by decide +kernel
theorem dX6_makeGood_65 : decode cX6_makeGood 65 = .ok (.if_icmp .ne 23, 3) := by decide +kernel
theorem dX6_makeGood_68 : decode cX6_makeGood 68 = .ok (.aload_n 0, 1) := by decide +kernel
theorem dX6_makeGood_69 : decode cX6_makeGood 69 = .ok (.iload_n 2, 1) := by decide +kernel
theorem dX6_makeGood_70 : decode cX6_makeGood 70 = .ok (.bipush 8, 2) := by decide +kernel
theorem dX6_makeGood_72 : decode cX6_makeGood 72 = .ok (.iconst 0, 1) := by decide +kernel
theorem dX6_makeGood_73 : decode cX6_makeGood 73 = .ok (.invokevirtual 77, 3) := by decide +kernel
theorem dX6_makeGood_76 : decode cX6_makeGood 76 = .ok (.aload_n 0, 1) := by decide +kernel
theorem dX6_makeGood_77 : decode cX6_makeGood 77 = .ok (.iload_n 2, 1) := by decide +kernel
theorem dX6_makeGood_78 : decode cX6_makeGood 78 = .ok (.iconst 3, 1) := by decide +kernel
theorem dX6_makeGood_79 : decode cX6_makeGood 79 = .ok (.iconst 0, 1) := by decide +kernel
theorem dX6_makeGood_80 : decode cX6_makeGood 80 = .ok (.invokevirtual 77, 3) := by decide +kernel
theorem dX6_makeGood_83 : decode cX6_makeGood 83 = .ok (.aload_n 0, 1) := by decide +kernel
theorem dX6_makeGood_84 : decode cX6_makeGood 84 = .ok (.iload_n 2, 1) := by decide +kernel
theorem dX6_makeGood_85 : decode cX6_makeGood 85 = .ok (.invokevirtual 80, 3) := by decide +kernel
theorem dX6_makeGood_88 : decode cX6_makeGood 88 = .ok (.iinc 2 1, 3) := by decide +kernel
theorem dX6_makeGood_91 : decode cX6_makeGood 91 = .ok (.goto (-40), 3) := by decide +kernel
theorem dX6_makeGood_94 : decode cX6_makeGood 94 = .ok (.iload_n 1, 1) := by decide +kernel
theorem dX6_makeGood_95 : decode cX6_makeGood 95 = .ok (.ireturn, 1) := by decide +kernel
theorem dX6_undo_0 : decode cX6_undo 0 = .ok (.aload_n 0, 1) := by decide +kernel
theorem dX6_undo_1 : decode cX6_undo 1 = .ok (.getfield 35, 3) := by decide +kernel
theorem dX6_undo_4 : decode cX6_undo 4 = .ok (.ifCond .ne 6, 3) := by decide +kernel
theorem dX6_undo_7 : decode cX6_undo 7 = .ok (.bipush (-5), 2) := by decide +kernel
theorem dX6_undo_9 : decode cX6_undo 9 = .ok (.ireturn, 1) := by decide +kernel
theorem dX6_undo_10 : decode cX6_undo 10 = .ok (.aload_n 0, 1) := by decide +kernel
theorem dX6_undo_11 : decode cX6_undo 11 = .ok (.dup, 1) := by decide +kernel
theorem dX6_undo_12 : decode cX6_undo 12 = .ok (.getfield 35, 3) := by decide +kernel
theorem dX6_undo_15 : decode cX6_undo 15 = .ok (.iconst 1, 1) := by decide +kernel
theorem dX6_undo_16 : decode cX6_undo 16 = .ok (.isub, 1) := by decide +kernel
theorem dX6_undo_17 : decode cX6_undo 17 = .ok (.putfield 35, 3) := by decide +kernel
theorem dX6_undo_20 : decode cX6_undo 20 = .ok (.iconst 0, 1) := by decide +kernel
theorem dX6_undo_21 : decode cX6_undo 21 = .ok (.istore_n 1, 1) := by decide +kernel
theorem dX6_undo_22 : decode cX6_undo 22 = .ok (.iload_n 1, 1) := by decide +kernel
theorem dX6_undo_23 : decode cX6_undo 23 = .ok (.sipush 1372, 3) := by decide +kernel
theorem dX6_undo_26 : decode cX6_undo 26 = .ok (.if_icmp .ge 30, 3) := by decide +kernel
theorem dX6_undo_29 : decode cX6_undo 29 = .ok (.aload_n 0, 1) := by decide +kernel
theorem dX6_undo_30 : decode cX6_undo 30 = .ok (.getfield 7, 3) := by decide +kernel
theorem dX6_undo_33 : decode cX6_undo 33 = .ok (.iload_n 1, 1) := by decide +kernel
theorem dX6_undo_34 : decode cX6_undo 34 = .ok (.aload_n 0, 1) := by decide +kernel
theorem dX6_undo_35 : decode cX6_undo 35 = .ok (.getfield 13, 3) := by decide +kernel
theorem dX6_undo_38 : decode cX6_undo 38 = .ok (.sipush 1372, 3) := by decide +kernel
theorem dX6_undo_41 : decode cX6_undo 41 = .ok (.aload_n 0, 1) := by decide +kernel
theorem dX6_undo_42 : decode cX6_undo 42 = .ok (.getfield 35, 3) := by decide +kernel
theorem dX6_undo_45 : decode cX6_undo 45 = .ok (.imul, 1) := by decide +kernel
theorem dX6_undo_46 : decode cX6_undo 46 = .ok (.iload_n 1, 1) := by decide +kernel
theorem dX6_undo_47 : decode cX6_undo 47 = .ok (.iadd, 1) := by decide +kernel
theorem dX6_undo_48 : decode cX6_undo 48 = .ok (.iaload, 1) := by decide +kernel
theorem dX6_undo_49 : decode cX6_undo 49 = .ok (.iastore, 1) := by decide +kernel
theorem dX6_undo_50 : decode cX6_undo 50 = .ok (.iinc 1 1, 3) := by decide +kernel
theorem dX6_undo_53 : decode cX6_undo 53 = .ok (.goto (-31), 3) := by decide +kernel
theorem dX6_undo_56 : decode cX6_undo 56 = .ok (.aload_n 0, 1) := by decide +kernel
theorem dX6_undo_57 : decode cX6_undo 57 = .ok (.getfield 35, 3) := by decide +kernel
theorem dX6_undo_60 : decode cX6_undo 60 = .ok (.ireturn, 1) := by decide +kernel
theorem dX6_keep_0 : decode cX6_keep 0 = .ok (.aload_n 0, 1) := by decide +kernel
theorem dX6_keep_1 : decode cX6_keep 1 = .ok (.getfield 7, 3) := by decide +kernel
theorem dX6_keep_4 : decode cX6_keep 4 = .ok (.aload_n 0, 1) := by decide +kernel
theorem dX6_keep_5 : decode cX6_keep 5 = .ok (.getfield 16, 3) := by decide +kernel
theorem dX6_keep_8 : decode cX6_keep 8 = .ok (.invokestatic 158, 3) := by decide +kernel
theorem dX6_keep_11 : decode cX6_keep 11 = .ok (.aload_n 0, 1) := by decide +kernel
theorem dX6_keep_12 : decode cX6_keep 12 = .ok (.iconst 1, 1) := by decide +kernel
theorem dX6_keep_13 : decode cX6_keep 13 = .ok (.putfield 162, 3) := by decide +kernel
theorem dX6_keep_16 : decode cX6_keep 16 = .ok (.aload_n 0, 1) := by decide +kernel
theorem dX6_keep_17 : decode cX6_keep 17 = .ok (.getfield 7, 3) := by decide +kernel
theorem dX6_keep_20 : decode cX6_keep 20 = .ok (.iconst 0, 1) := by decide +kernel
theorem dX6_keep_21 : decode cX6_keep 21 = .ok (.iaload, 1) := by decide +kernel
theorem dX6_keep_22 : decode cX6_keep 22 = .ok (.ireturn, 1) := by decide +kernel
theorem dX6_restore_0 : decode cX6_restore 0 = .ok (.aload_n 0, 1) := by decide +kernel
theorem dX6_restore_1 : decode cX6_restore 1 = .ok (.getfield 162, 3) := by decide +kernel
theorem dX6_restore_4 : decode cX6_restore 4 = .ok (.ifCond .ne 6, 3) := by decide +kernel
theorem dX6_restore_7 : decode cX6_restore 7 = .ok (.bipush (-5), 2) := by decide +kernel
theorem dX6_restore_9 : decode cX6_restore 9 = .ok (.ireturn, 1) := by decide +kernel
theorem dX6_restore_10 : decode cX6_restore 10 = .ok (.aload_n 0, 1) := by decide +kernel
theorem dX6_restore_11 : decode cX6_restore 11 = .ok (.invokevirtual 107, 3) := by decide +kernel
theorem dX6_restore_14 : decode cX6_restore 14 = .ok (.aload_n 0, 1) := by decide +kernel
theorem dX6_restore_15 : decode cX6_restore 15 = .ok (.getfield 16, 3) := by decide +kernel
theorem dX6_restore_18 : decode cX6_restore 18 = .ok (.aload_n 0, 1) := by decide +kernel
theorem dX6_restore_19 : decode cX6_restore 19 = .ok (.getfield 7, 3) := by decide +kernel
theorem dX6_restore_22 : decode cX6_restore 22 = .ok (.invokestatic 158, 3) := by decide +kernel
theorem dX6_restore_25 : decode cX6_restore 25 = .ok (.aload_n 0, 1) := by decide +kernel
theorem dX6_restore_26 : decode cX6_restore 26 = .ok (.getfield 7, 3) := by decide +kernel
theorem dX6_restore_29 : decode cX6_restore 29 = .ok (.iconst 0, 1) := by decide +kernel
theorem dX6_restore_30 : decode cX6_restore 30 = .ok (.iaload, 1) := by decide +kernel
theorem dX6_restore_31 : decode cX6_restore 31 = .ok (.ireturn, 1) := by decide +kernel
theorem dX6_time_0 : decode cX6_time 0 = .ok (.iload_n 1, 1) := by decide +kernel
theorem dX6_time_1 : decode cX6_time 1 = .ok (.invokestatic 103, 3) := by decide +kernel
theorem dX6_time_4 : decode cX6_time 4 = .ok (.ifCond .eq 27, 3) := by decide +kernel
theorem dX6_time_7 : decode cX6_time 7 = .ok (.iload_n 2, 1) := by decide +kernel
theorem dX6_time_8 : decode cX6_time 8 = .ok (.invokestatic 103, 3) := by decide +kernel
theorem dX6_time_11 : decode cX6_time 11 = .ok (.ifCond .eq 20, 3) := by decide +kernel
theorem dX6_time_14 : decode cX6_time 14 = .ok (.aload_n 0, 1) := by decide +kernel
theorem dX6_time_15 : decode cX6_time 15 = .ok (.getfield 7, 3) := by decide +kernel
theorem dX6_time_18 : decode cX6_time 18 = .ok (.bipush 12, 2) := by decide +kernel
theorem dX6_time_20 : decode cX6_time 20 = .ok (.bipush 6, 2) := by decide +kernel
theorem dX6_time_22 : decode cX6_time 22 = .ok (.iload_n 1, 1) := by decide +kernel
theorem dX6_time_23 : decode cX6_time 23 = .ok (.imul, 1) := by decide +kernel
theorem dX6_time_24 : decode cX6_time 24 = .ok (.iadd, 1) := by decide +kernel
theorem dX6_time_25 : decode cX6_time 25 = .ok (.iload_n 2, 1) := by decide +kernel
theorem dX6_time_26 : decode cX6_time 26 = .ok (.iadd, 1) := by decide +kernel
theorem dX6_time_27 : decode cX6_time 27 = .ok (.iaload, 1) := by decide +kernel
theorem dX6_time_28 : decode cX6_time 28 = .ok (.goto 4, 3) := by decide +kernel
theorem dX6_time_31 : decode cX6_time 31 = .ok (.iconst (-1), 1) := by decide +kernel
theorem dX6_time_32 : decode cX6_time 32 = .ok (.ireturn, 1) := by decide +kernel
theorem dX6_bankTime_0 : decode cX6_bankTime 0 = .ok (.iload_n 1, 1) := by decide +kernel
theorem dX6_bankTime_1 : decode cX6_bankTime 1 = .ok (.invokestatic 103, 3) := by decide +kernel
theorem dX6_bankTime_4 : decode cX6_bankTime 4 = .ok (.ifCond .eq 15, 3) := by decide +kernel
theorem dX6_bankTime_7 : decode cX6_bankTime 7 = .ok (.aload_n 0, 1) := by decide +kernel
theorem dX6_bankTime_8 : decode cX6_bankTime 8 = .ok (.getfield 7, 3) := by decide +kernel
theorem dX6_bankTime_11 : decode cX6_bankTime 11 = .ok (.bipush 48, 2) := by decide +kernel
theorem dX6_bankTime_13 : decode cX6_bankTime 13 = .ok (.iload_n 1, 1) := by decide +kernel
theorem dX6_bankTime_14 : decode cX6_bankTime 14 = .ok (.iadd, 1) := by decide +kernel
theorem dX6_bankTime_15 : decode cX6_bankTime 15 = .ok (.iaload, 1) := by decide +kernel
theorem dX6_bankTime_16 : decode cX6_bankTime 16 = .ok (.goto 4, 3) := by decide +kernel
theorem dX6_bankTime_19 : decode cX6_bankTime 19 = .ok (.iconst (-1), 1) := by decide +kernel
theorem dX6_bankTime_20 : decode cX6_bankTime 20 = .ok (.ireturn, 1) := by decide +kernel
theorem dX6_house_0 : decode cX6_house 0 = .ok (.iload_n 1, 1) := by decide +kernel
theorem dX6_house_1 : decode cX6_house 1 = .ok (.invokestatic 103, 3) := by decide +kernel
theorem dX6_house_4 : decode cX6_house 4 = .ok (.ifCond .ne 5, 3) := by decide +kernel
theorem dX6_house_7 : decode cX6_house 7 = .ok (.iconst (-1), 1) := by decide +kernel
theorem dX6_house_8 : decode cX6_house 8 = .ok (.ireturn, 1) := by decide +kernel
theorem dX6_house_9 : decode cX6_house 9 = .ok (.iload_n 2, 1) := by decide +kernel
theorem dX6_house_10 : decode cX6_house 10 = .ok (.tableswitch 75 0 8 #[50, 50, 50, 57, 66, 66, 66, 66, 66], 50) := by decide +kernel
theorem dX6_house_60 : decode cX6_house 60 = .ok (.aload_n 0, 1) := by decide +kernel
theorem dX6_house_61 : decode cX6_house 61 = .ok (.iload_n 1, 1) := by decide +kernel
theorem dX6_house_62 : decode cX6_house 62 = .ok (.iload_n 2, 1) := by decide +kernel
theorem dX6_house_63 : decode cX6_house 63 = .ok (.invokevirtual 67, 3) := by decide +kernel
theorem dX6_house_66 : decode cX6_house 66 = .ok (.ireturn, 1) := by decide +kernel
theorem dX6_house_67 : decode cX6_house 67 = .ok (.aload_n 0, 1) := by decide +kernel
theorem dX6_house_68 : decode cX6_house 68 = .ok (.iload_n 1, 1) := by decide +kernel
theorem dX6_house_69 : decode cX6_house 69 = .ok (.iconst 1, 1) := by decide +kernel
theorem dX6_house_70 : decode cX6_house 70 = .ok (.iadd, 1) := by decide +kernel
theorem dX6_house_71 : decode cX6_house 71 = .ok (.iconst 0, 1) := by decide +kernel
theorem dX6_house_72 : decode cX6_house 72 = .ok (.invokevirtual 46, 3) := by decide +kernel
theorem dX6_house_75 : decode cX6_house 75 = .ok (.ireturn, 1) := by decide +kernel
theorem dX6_house_76 : decode cX6_house 76 = .ok (.aload_n 0, 1) := by decide +kernel
theorem dX6_house_77 : decode cX6_house 77 = .ok (.iload_n 1, 1) := by decide +kernel
theorem dX6_house_78 : decode cX6_house 78 = .ok (.iload_n 2, 1) := by decide +kernel
theorem dX6_house_79 : decode cX6_house 79 = .ok (.iconst 1, 1) := by decide +kernel
theorem dX6_house_80 : decode cX6_house 80 = .ok (.isub, 1) := by decide +kernel
theorem dX6_house_81 : decode cX6_house 81 = .ok (.invokevirtual 67, 3) := by decide +kernel
theorem dX6_house_84 : decode cX6_house 84 = .ok (.ireturn, 1) := by decide +kernel
theorem dX6_house_85 : decode cX6_house 85 = .ok (.bipush (-2), 2) := by decide +kernel
theorem dX6_house_87 : decode cX6_house 87 = .ok (.ireturn, 1) := by decide +kernel
theorem dX6_waitingAt_0 : decode cX6_waitingAt 0 = .ok (.iconst 0, 1) := by decide +kernel
theorem dX6_waitingAt_1 : decode cX6_waitingAt 1 = .ok (.istore_n 3, 1) := by decide +kernel
theorem dX6_waitingAt_2 : decode cX6_waitingAt 2 = .ok (.iload_n 3, 1) := by decide +kernel
theorem dX6_waitingAt_3 : decode cX6_waitingAt 3 = .ok (.bipush 80, 2) := by decide +kernel
theorem dX6_waitingAt_5 : decode cX6_waitingAt 5 = .ok (.if_icmp .ge 87, 3) := by decide +kernel
theorem dX6_waitingAt_8 : decode cX6_waitingAt 8 = .ok (.aload_n 0, 1) := by decide +kernel
theorem dX6_waitingAt_9 : decode cX6_waitingAt 9 = .ok (.iload_n 3, 1) := by decide +kernel
theorem dX6_waitingAt_10 : decode cX6_waitingAt 10 = .ok (.iconst 4, 1) := by decide +kernel
theorem dX6_waitingAt_11 : decode cX6_waitingAt 11 = .ok (.invokevirtual 39, 3) := by decide +kernel
theorem dX6_waitingAt_14 : decode cX6_waitingAt 14 = .ok (.iload_n 1, 1) := by decide +kernel
theorem dX6_waitingAt_15 : decode cX6_waitingAt 15 = .ok (.iconst 1, 1) := by decide +kernel
theorem dX6_waitingAt_16 : decode cX6_waitingAt 16 = .ok (.iadd, 1) := by decide +kernel
theorem dX6_waitingAt_17 : decode cX6_waitingAt 17 = .ok (.if_icmp .ne 69, 3) := by decide +kernel
theorem dX6_waitingAt_20 : decode cX6_waitingAt 20 = .ok (.iconst 0, 1) := by decide +kernel
theorem dX6_waitingAt_21 : decode cX6_waitingAt 21 = .ok (.istore 4, 2) := by decide +kernel
theorem dX6_waitingAt_23 : decode cX6_waitingAt 23 = .ok (.iconst 0, 1) := by decide +kernel
theorem dX6_waitingAt_24 : decode cX6_waitingAt 24 = .ok (.istore 5, 2) := by decide +kernel
theorem dX6_waitingAt_26 : decode cX6_waitingAt 26 = .ok (.iload 5, 2) := by decide +kernel
theorem dX6_waitingAt_28 : decode cX6_waitingAt 28 = .ok (.bipush 80, 2) := by decide +kernel
theorem dX6_waitingAt_30 : decode cX6_waitingAt 30 = .ok (.if_icmp .ge 48, 3) := by decide +kernel
theorem dX6_waitingAt_33 : decode cX6_waitingAt 33 = .ok (.iload 4, 2) := by decide +kernel
theorem dX6_waitingAt_35 : decode cX6_waitingAt 35 = .ok (.aload_n 0, 1) := by decide +kernel
theorem dX6_waitingAt_36 : decode cX6_waitingAt 36 = .ok (.iload 5, 2) := by decide +kernel
theorem dX6_waitingAt_38 : decode cX6_waitingAt 38 = .ok (.iconst 4, 1) := by decide +kernel
theorem dX6_waitingAt_39 : decode cX6_waitingAt 39 = .ok (.invokevirtual 39, 3) := by decide +kernel
theorem dX6_waitingAt_42 : decode cX6_waitingAt 42 = .ok (.iload_n 1, 1) := by decide +kernel
theorem dX6_waitingAt_43 : decode cX6_waitingAt 43 = .ok (.iconst 1, 1) := by decide +kernel
theorem dX6_waitingAt_44 : decode cX6_waitingAt 44 = .ok (.iadd, 1) := by decide +kernel
theorem dX6_waitingAt_45 : decode cX6_waitingAt 45 = .ok (.if_icmp .ne 23, 3) := by decide +kernel
theorem dX6_waitingAt_48 : decode cX6_waitingAt 48 = .ok (.aload_n 0, 1) := by decide +kernel
theorem dX6_waitingAt_49 : decode cX6_waitingAt 49 = .ok (.iload 5, 2) := by decide +kernel
theorem dX6_waitingAt_51 : decode cX6_waitingAt 51 = .ok (.iconst 3, 1) := by decide +kernel
theorem dX6_waitingAt_52 : decode cX6_waitingAt 52 = .ok (.invokevirtual 39, 3) := by decide +kernel
theorem dX6_waitingAt_55 : decode cX6_waitingAt 55 = .ok (.aload_n 0, 1) := by decide +kernel
theorem dX6_waitingAt_56 : decode cX6_waitingAt 56 = .ok (.iload_n 3, 1) := by decide +kernel
theorem dX6_waitingAt_57 : decode cX6_waitingAt 57 = .ok (.iconst 3, 1) := by decide +kernel
theorem dX6_waitingAt_58 : decode cX6_waitingAt 58 = .ok (.invokevirtual 39, 3) := by decide +kernel
theorem dX6_waitingAt_61 : decode cX6_waitingAt 61 = .ok (.if_icmp .ge 7, 3) := by decide +kernel
theorem dX6_waitingAt_64 : decode cX6_waitingAt 64 = .ok (.iconst 1, 1) := by decide +kernel
theorem dX6_waitingAt_65 : decode cX6_waitingAt 65 = .ok (.goto 4, 3) := by decide +kernel
theorem dX6_waitingAt_68 : decode cX6_waitingAt 68 = .ok (.iconst 0, 1) := by decide +kernel
theorem dX6_waitingAt_69 : decode cX6_waitingAt 69 = .ok (.iadd, 1) := by decide +kernel
theorem dX6_waitingAt_70 : decode cX6_waitingAt 70 = .ok (.istore 4, 2) := by decide +kernel
theorem dX6_waitingAt_72 : decode cX6_waitingAt 72 = .ok (.iinc 5 1, 3) := by decide +kernel
theorem dX6_waitingAt_75 : decode cX6_waitingAt 75 = .ok (.goto (-49), 3) := by decide +kernel
theorem dX6_waitingAt_78 : decode cX6_waitingAt 78 = .ok (.iload 4, 2) := by decide +kernel
theorem dX6_waitingAt_80 : decode cX6_waitingAt 80 = .ok (.iload_n 2, 1) := by decide +kernel
theorem dX6_waitingAt_81 : decode cX6_waitingAt 81 = .ok (.if_icmp .ne 5, 3) := by decide +kernel
theorem dX6_waitingAt_84 : decode cX6_waitingAt 84 = .ok (.iload_n 3, 1) := by decide +kernel
theorem dX6_waitingAt_85 : decode cX6_waitingAt 85 = .ok (.ireturn, 1) := by decide +kernel
theorem dX6_waitingAt_86 : decode cX6_waitingAt 86 = .ok (.iinc 3 1, 3) := by decide +kernel
theorem dX6_waitingAt_89 : decode cX6_waitingAt 89 = .ok (.goto (-87), 3) := by decide +kernel
theorem dX6_waitingAt_92 : decode cX6_waitingAt 92 = .ok (.bipush (-5), 2) := by decide +kernel
theorem dX6_waitingAt_94 : decode cX6_waitingAt 94 = .ok (.ireturn, 1) := by decide +kernel
theorem dX6_waiting_0 : decode cX6_waiting 0 = .ok (.iload_n 1, 1) := by decide +kernel
theorem dX6_waiting_1 : decode cX6_waiting 1 = .ok (.invokestatic 103, 3) := by decide +kernel
theorem dX6_waiting_4 : decode cX6_waiting 4 = .ok (.ifCond .ne 5, 3) := by decide +kernel
theorem dX6_waiting_7 : decode cX6_waiting 7 = .ok (.iconst (-1), 1) := by decide +kernel
theorem dX6_waiting_8 : decode cX6_waiting 8 = .ok (.ireturn, 1) := by decide +kernel
theorem dX6_waiting_9 : decode cX6_waiting 9 = .ok (.iload_n 3, 1) := by decide +kernel
theorem dX6_waiting_10 : decode cX6_waiting 10 = .ok (.iconst 0, 1) := by decide +kernel
theorem dX6_waiting_11 : decode cX6_waiting 11 = .ok (.iconst 3, 1) := by decide +kernel
theorem dX6_waiting_12 : decode cX6_waiting 12 = .ok (.invokestatic 31, 3) := by decide +kernel
theorem dX6_waiting_15 : decode cX6_waiting 15 = .ok (.ifCond .eq 7, 3) := by decide +kernel
theorem dX6_waiting_18 : decode cX6_waiting 18 = .ok (.iload_n 2, 1) := by decide +kernel
theorem dX6_waiting_19 : decode cX6_waiting 19 = .ok (.ifCond .ge 6, 3) := by decide +kernel
theorem dX6_waiting_22 : decode cX6_waiting 22 = .ok (.bipush (-2), 2) := by decide +kernel
theorem dX6_waiting_24 : decode cX6_waiting 24 = .ok (.ireturn, 1) := by decide +kernel
theorem dX6_waiting_25 : decode cX6_waiting 25 = .ok (.aload_n 0, 1) := by decide +kernel
theorem dX6_waiting_26 : decode cX6_waiting 26 = .ok (.iload_n 1, 1) := by decide +kernel
theorem dX6_waiting_27 : decode cX6_waiting 27 = .ok (.iload_n 2, 1) := by decide +kernel
theorem dX6_waiting_28 : decode cX6_waiting 28 = .ok (.invokevirtual 166, 3) := by decide +kernel
theorem dX6_waiting_31 : decode cX6_waiting 31 = .ok (.istore 4, 2) := by decide +kernel
theorem dX6_waiting_33 : decode cX6_waiting 33 = .ok (.iload 4, 2) := by decide +kernel
theorem dX6_waiting_35 : decode cX6_waiting 35 = .ok (.bipush (-5), 2) := by decide +kernel
theorem dX6_waiting_37 : decode cX6_waiting 37 = .ok (.if_icmp .ne 6, 3) := by decide +kernel
theorem dX6_waiting_40 : decode cX6_waiting 40 = .ok (.bipush (-5), 2) := by decide +kernel
theorem dX6_waiting_42 : decode cX6_waiting 42 = .ok (.ireturn, 1) := by decide +kernel
theorem dX6_waiting_43 : decode cX6_waiting 43 = .ok (.iload_n 3, 1) := by decide +kernel
theorem dX6_waiting_44 : decode cX6_waiting 44 = .ok (.iconst 2, 1) := by decide +kernel
theorem dX6_waiting_45 : decode cX6_waiting 45 = .ok (.if_icmp .ge 13, 3) := by decide +kernel
theorem dX6_waiting_48 : decode cX6_waiting 48 = .ok (.aload_n 0, 1) := by decide +kernel
theorem dX6_waiting_49 : decode cX6_waiting 49 = .ok (.iload 4, 2) := by decide +kernel
theorem dX6_waiting_51 : decode cX6_waiting 51 = .ok (.iload_n 3, 1) := by decide +kernel
theorem dX6_waiting_52 : decode cX6_waiting 52 = .ok (.invokevirtual 39, 3) := by decide +kernel
theorem dX6_waiting_55 : decode cX6_waiting 55 = .ok (.goto 23, 3) := by decide +kernel
theorem dX6_waiting_58 : decode cX6_waiting 58 = .ok (.iload_n 3, 1) := by decide +kernel
theorem dX6_waiting_59 : decode cX6_waiting 59 = .ok (.iconst 2, 1) := by decide +kernel
theorem dX6_waiting_60 : decode cX6_waiting 60 = .ok (.if_icmp .ne 12, 3) := by decide +kernel
theorem dX6_waiting_63 : decode cX6_waiting 63 = .ok (.aload_n 0, 1) := by decide +kernel
theorem dX6_waiting_64 : decode cX6_waiting 64 = .ok (.iload 4, 2) := by decide +kernel
theorem dX6_waiting_66 : decode cX6_waiting 66 = .ok (.invokevirtual 169, 3) := by decide +kernel
theorem dX6_waiting_69 : decode cX6_waiting 69 = .ok (.goto 9, 3) := by decide +kernel
theorem dX6_waiting_72 : decode cX6_waiting 72 = .ok (.aload_n 0, 1) := by decide +kernel
theorem dX6_waiting_73 : decode cX6_waiting 73 = .ok (.iload 4, 2) := by decide +kernel
theorem dX6_waiting_75 : decode cX6_waiting 75 = .ok (.invokevirtual 172, 3) := by decide +kernel
theorem dX6_waiting_78 : decode cX6_waiting 78 = .ok (.ireturn, 1) := by decide +kernel
theorem dX6_message_0 : decode cX6_message 0 = .ok (.iload_n 2, 1) := by decide +kernel
theorem dX6_message_1 : decode cX6_message 1 = .ok (.iconst 0, 1) := by decide +kernel
theorem dX6_message_2 : decode cX6_message 2 = .ok (.bipush 6, 2) := by decide +kernel
theorem dX6_message_4 : decode cX6_message 4 = .ok (.invokestatic 31, 3) := by decide +kernel
theorem dX6_message_7 : decode cX6_message 7 = .ok (.ifCond .eq 7, 3) := by decide +kernel
theorem dX6_message_10 : decode cX6_message 10 = .ok (.iload_n 1, 1) := by decide +kernel
theorem dX6_message_11 : decode cX6_message 11 = .ok (.ifCond .ge 6, 3) := by decide +kernel
theorem dX6_message_14 : decode cX6_message 14 = .ok (.bipush (-2), 2) := by decide +kernel
theorem dX6_message_16 : decode cX6_message 16 = .ok (.ireturn, 1) := by decide +kernel
theorem dX6_message_17 : decode cX6_message 17 = .ok (.aload_n 0, 1) := by decide +kernel
theorem dX6_message_18 : decode cX6_message 18 = .ok (.iload_n 1, 1) := by decide +kernel
theorem dX6_message_19 : decode cX6_message 19 = .ok (.invokevirtual 152, 3) := by decide +kernel
theorem dX6_message_22 : decode cX6_message 22 = .ok (.istore_n 3, 1) := by decide +kernel
theorem dX6_message_23 : decode cX6_message 23 = .ok (.iload_n 3, 1) := by decide +kernel
theorem dX6_message_24 : decode cX6_message 24 = .ok (.bipush (-5), 2) := by decide +kernel
theorem dX6_message_26 : decode cX6_message 26 = .ok (.if_icmp .ne 6, 3) := by decide +kernel
theorem dX6_message_29 : decode cX6_message 29 = .ok (.bipush (-5), 2) := by decide +kernel
theorem dX6_message_31 : decode cX6_message 31 = .ok (.ireturn, 1) := by decide +kernel
theorem dX6_message_32 : decode cX6_message 32 = .ok (.iload_n 2, 1) := by decide +kernel
theorem dX6_message_33 : decode cX6_message 33 = .ok (.iconst 4, 1) := by decide +kernel
theorem dX6_message_34 : decode cX6_message 34 = .ok (.if_icmp .ge 10, 3) := by decide +kernel
theorem dX6_message_37 : decode cX6_message 37 = .ok (.aload_n 0, 1) := by decide +kernel
theorem dX6_message_38 : decode cX6_message 38 = .ok (.iload_n 3, 1) := by decide +kernel
theorem dX6_message_39 : decode cX6_message 39 = .ok (.iload_n 2, 1) := by decide +kernel
theorem dX6_message_40 : decode cX6_message 40 = .ok (.invokevirtual 60, 3) := by decide +kernel
theorem dX6_message_43 : decode cX6_message 43 = .ok (.ireturn, 1) := by decide +kernel
theorem dX6_message_44 : decode cX6_message 44 = .ok (.iload_n 2, 1) := by decide +kernel
theorem dX6_message_45 : decode cX6_message 45 = .ok (.iconst 4, 1) := by decide +kernel
theorem dX6_message_46 : decode cX6_message 46 = .ok (.if_icmp .ne 17, 3) := by decide +kernel
theorem dX6_message_49 : decode cX6_message 49 = .ok (.aload_n 0, 1) := by decide +kernel
theorem dX6_message_50 : decode cX6_message 50 = .ok (.iload_n 3, 1) := by decide +kernel
theorem dX6_message_51 : decode cX6_message 51 = .ok (.iconst 4, 1) := by decide +kernel
theorem dX6_message_52 : decode cX6_message 52 = .ok (.invokevirtual 60, 3) := by decide +kernel
theorem dX6_message_55 : decode cX6_message 55 = .ok (.aload_n 0, 1) := by decide +kernel
theorem dX6_message_56 : decode cX6_message 56 = .ok (.getfield 7, 3) := by decide +kernel
theorem dX6_message_59 : decode cX6_message 59 = .ok (.iconst 0, 1) := by decide +kernel
theorem dX6_message_60 : decode cX6_message 60 = .ok (.iaload, 1) := by decide +kernel
theorem dX6_message_61 : decode cX6_message 61 = .ok (.isub, 1) := by decide +kernel
theorem dX6_message_62 : decode cX6_message 62 = .ok (.ireturn, 1) := by decide +kernel
theorem dX6_message_63 : decode cX6_message 63 = .ok (.aload_n 0, 1) := by decide +kernel
theorem dX6_message_64 : decode cX6_message 64 = .ok (.iload_n 3, 1) := by decide +kernel
theorem dX6_message_65 : decode cX6_message 65 = .ok (.iconst 5, 1) := by decide +kernel
theorem dX6_message_66 : decode cX6_message 66 = .ok (.invokevirtual 60, 3) := by decide +kernel
theorem dX6_message_69 : decode cX6_message 69 = .ok (.iconst 1, 1) := by decide +kernel
theorem dX6_message_70 : decode cX6_message 70 = .ok (.isub, 1) := by decide +kernel
theorem dX6_message_71 : decode cX6_message 71 = .ok (.istore 4, 2) := by decide +kernel
theorem dX6_message_73 : decode cX6_message 73 = .ok (.iload 4, 2) := by decide +kernel
theorem dX6_message_75 : decode cX6_message 75 = .ok (.ifCond .ge 7, 3) := by decide +kernel
theorem dX6_message_78 : decode cX6_message 78 = .ok (.iconst 0, 1) := by decide +kernel
theorem dX6_message_79 : decode cX6_message 79 = .ok (.goto 24, 3) := by decide +kernel
theorem dX6_message_82 : decode cX6_message 82 = .ok (.iload_n 2, 1) := by decide +kernel
theorem dX6_message_83 : decode cX6_message 83 = .ok (.iconst 5, 1) := by decide +kernel
theorem dX6_message_84 : decode cX6_message 84 = .ok (.if_icmp .ne 13, 3) := by decide +kernel
theorem dX6_message_87 : decode cX6_message 87 = .ok (.aload_n 0, 1) := by decide +kernel
theorem dX6_message_88 : decode cX6_message 88 = .ok (.iload 4, 2) := by decide +kernel
theorem dX6_message_90 : decode cX6_message 90 = .ok (.iconst 1, 1) := by decide +kernel
theorem dX6_message_91 : decode cX6_message 91 = .ok (.invokevirtual 39, 3) := by decide +kernel
theorem dX6_message_94 : decode cX6_message 94 = .ok (.goto 9, 3) := by decide +kernel
theorem dX6_message_97 : decode cX6_message 97 = .ok (.aload_n 0, 1) := by decide +kernel
theorem dX6_message_98 : decode cX6_message 98 = .ok (.iload 4, 2) := by decide +kernel
theorem dX6_message_100 : decode cX6_message 100 = .ok (.invokevirtual 172, 3) := by decide +kernel
theorem dX6_message_103 : decode cX6_message 103 = .ok (.ireturn, 1) := by decide +kernel
theorem dX6_total_0 : decode cX6_total 0 = .ok (.iload_n 1, 1) := by decide +kernel
theorem dX6_total_1 : decode cX6_total 1 = .ok (.tableswitch 193 0 16 #[83, 83, 83, 90, 96, 101, 108, 115, 121, 128, 136, 144, 157, 170, 170, 183, 188], 83) := by decide +kernel
theorem dX6_total_84 : decode cX6_total 84 = .ok (.aload_n 0, 1) := by decide +kernel
theorem dX6_total_85 : decode cX6_total 85 = .ok (.getfield 7, 3) := by decide +kernel
theorem dX6_total_88 : decode cX6_total 88 = .ok (.iload_n 1, 1) := by decide +kernel
theorem dX6_total_89 : decode cX6_total 89 = .ok (.iaload, 1) := by decide +kernel
theorem dX6_total_90 : decode cX6_total 90 = .ok (.ireturn, 1) := by decide +kernel
theorem dX6_total_91 : decode cX6_total 91 = .ok (.aload_n 0, 1) := by decide +kernel
theorem dX6_total_92 : decode cX6_total 92 = .ok (.iconst 1, 1) := by decide +kernel
theorem dX6_total_93 : decode cX6_total 93 = .ok (.invokevirtual 100, 3) := by decide +kernel
theorem dX6_total_96 : decode cX6_total 96 = .ok (.ireturn, 1) := by decide +kernel
theorem dX6_total_97 : decode cX6_total 97 = .ok (.aload_n 0, 1) := by decide +kernel
theorem dX6_total_98 : decode cX6_total 98 = .ok (.invokevirtual 175, 3) := by decide +kernel
theorem dX6_total_101 : decode cX6_total 101 = .ok (.ireturn, 1) := by decide +kernel
theorem dX6_total_102 : decode cX6_total 102 = .ok (.aload_n 0, 1) := by decide +kernel
theorem dX6_total_103 : decode cX6_total 103 = .ok (.getfield 7, 3) := by decide +kernel
theorem dX6_total_106 : decode cX6_total 106 = .ok (.iconst 3, 1) := by decide +kernel
theorem dX6_total_107 : decode cX6_total 107 = .ok (.iaload, 1) := by decide +kernel
theorem dX6_total_108 : decode cX6_total 108 = .ok (.ireturn, 1) := by decide +kernel
theorem dX6_total_109 : decode cX6_total 109 = .ok (.aload_n 0, 1) := by decide +kernel
theorem dX6_total_110 : decode cX6_total 110 = .ok (.getfield 7, 3) := by decide +kernel
theorem dX6_total_113 : decode cX6_total 113 = .ok (.iconst 4, 1) := by decide +kernel
theorem dX6_total_114 : decode cX6_total 114 = .ok (.iaload, 1) := by decide +kernel
theorem dX6_total_115 : decode cX6_total 115 = .ok (.ireturn, 1) := by decide +kernel
theorem dX6_total_116 : decode cX6_total 116 = .ok (.aload_n 0, 1) := by decide +kernel
theorem dX6_total_117 : decode cX6_total 117 = .ok (.iconst 0, 1) := by decide +kernel
theorem dX6_total_118 : decode cX6_total 118 = .ok (.invokevirtual 100, 3) := by decide +kernel
theorem dX6_total_121 : decode cX6_total 121 = .ok (.ireturn, 1) := by decide +kernel
theorem dX6_total_122 : decode cX6_total 122 = .ok (.aload_n 0, 1) := by decide +kernel
theorem dX6_total_123 : decode cX6_total 123 = .ok (.getfield 7, 3) := by decide +kernel
theorem dX6_total_126 : decode cX6_total 126 = .ok (.iconst 5, 1) := by decide +kernel
theorem dX6_total_127 : decode cX6_total 127 = .ok (.iaload, 1) := by decide +kernel
theorem dX6_total_128 : decode cX6_total 128 = .ok (.ireturn, 1) := by decide +kernel
theorem dX6_total_129 : decode cX6_total 129 = .ok (.aload_n 0, 1) := by decide +kernel
theorem dX6_total_130 : decode cX6_total 130 = .ok (.getfield 7, 3) := by decide +kernel
theorem dX6_total_133 : decode cX6_total 133 = .ok (.bipush 6, 2) := by decide +kernel
theorem dX6_total_135 : decode cX6_total 135 = .ok (.iaload, 1) := by decide +kernel
theorem dX6_total_136 : decode cX6_total 136 = .ok (.ireturn, 1) := by decide +kernel
theorem dX6_total_137 : decode cX6_total 137 = .ok (.aload_n 0, 1) := by decide +kernel
theorem dX6_total_138 : decode cX6_total 138 = .ok (.getfield 7, 3) := by decide +kernel
theorem dX6_total_141 : decode cX6_total 141 = .ok (.bipush 7, 2) := by decide +kernel
theorem dX6_total_143 : decode cX6_total 143 = .ok (.iaload, 1) := by decide +kernel
theorem dX6_total_144 : decode cX6_total 144 = .ok (.ireturn, 1) := by decide +kernel
theorem dX6_total_145 : decode cX6_total 145 = .ok (.aload_n 0, 1) := by decide +kernel
theorem dX6_total_146 : decode cX6_total 146 = .ok (.invokevirtual 178, 3) := by decide +kernel
theorem dX6_total_149 : decode cX6_total 149 = .ok (.ifCond .eq 7, 3) := by decide +kernel
theorem dX6_total_152 : decode cX6_total 152 = .ok (.iconst 1, 1) := by decide +kernel
theorem dX6_total_153 : decode cX6_total 153 = .ok (.goto 4, 3) := by decide +kernel
theorem dX6_total_156 : decode cX6_total 156 = .ok (.iconst 0, 1) := by decide +kernel
theorem dX6_total_157 : decode cX6_total 157 = .ok (.ireturn, 1) := by decide +kernel
theorem dX6_total_158 : decode cX6_total 158 = .ok (.aload_n 0, 1) := by decide +kernel
theorem dX6_total_159 : decode cX6_total 159 = .ok (.invokevirtual 181, 3) := by decide +kernel
theorem dX6_total_162 : decode cX6_total 162 = .ok (.ifCond .eq 7, 3) := by decide +kernel
theorem dX6_total_165 : decode cX6_total 165 = .ok (.iconst 1, 1) := by decide +kernel
theorem dX6_total_166 : decode cX6_total 166 = .ok (.goto 4, 3) := by decide +kernel
theorem dX6_total_169 : decode cX6_total 169 = .ok (.iconst 0, 1) := by decide +kernel
theorem dX6_total_170 : decode cX6_total 170 = .ok (.ireturn, 1) := by decide +kernel
theorem dX6_total_171 : decode cX6_total 171 = .ok (.aload_n 0, 1) := by decide +kernel
theorem dX6_total_172 : decode cX6_total 172 = .ok (.getfield 7, 3) := by decide +kernel
theorem dX6_total_175 : decode cX6_total 175 = .ok (.bipush 8, 2) := by decide +kernel
theorem dX6_total_177 : decode cX6_total 177 = .ok (.iload_n 1, 1) := by decide +kernel
theorem dX6_total_178 : decode cX6_total 178 = .ok (.iadd, 1) := by decide +kernel
theorem dX6_total_179 : decode cX6_total 179 = .ok (.bipush 13, 2) := by decide +kernel
theorem dX6_total_181 : decode cX6_total 181 = .ok (.isub, 1) := by decide +kernel
theorem dX6_total_182 : decode cX6_total 182 = .ok (.iaload, 1) := by decide +kernel
theorem dX6_total_183 : decode cX6_total 183 = .ok (.ireturn, 1) := by decide +kernel
theorem dX6_total_184 : decode cX6_total 184 = .ok (.aload_n 0, 1) := by decide +kernel
theorem dX6_total_185 : decode cX6_total 185 = .ok (.getfield 35, 3) := by decide +kernel
theorem dX6_total_188 : decode cX6_total 188 = .ok (.ireturn, 1) := by decide +kernel
theorem dX6_total_189 : decode cX6_total 189 = .ok (.aload_n 0, 1) := by decide +kernel
theorem dX6_total_190 : decode cX6_total 190 = .ok (.getfield 110, 3) := by decide +kernel
theorem dX6_total_193 : decode cX6_total 193 = .ok (.ireturn, 1) := by decide +kernel
theorem dX6_total_194 : decode cX6_total 194 = .ok (.bipush (-2), 2) := by decide +kernel
theorem dX6_total_196 : decode cX6_total 196 = .ok (.ireturn, 1) := by decide +kernel
theorem dX6_quietIn_0 : decode cX6_quietIn 0 = .ok (.aload_n 0, 1) := by decide +kernel
theorem dX6_quietIn_1 : decode cX6_quietIn 1 = .ok (.getfield 7, 3) := by decide +kernel
theorem dX6_quietIn_4 : decode cX6_quietIn 4 = .ok (.aload_n 0, 1) := by decide +kernel
theorem dX6_quietIn_5 : decode cX6_quietIn 5 = .ok (.getfield 19, 3) := by decide +kernel
theorem dX6_quietIn_8 : decode cX6_quietIn 8 = .ok (.invokestatic 158, 3) := by decide +kernel
theorem dX6_quietIn_11 : decode cX6_quietIn 11 = .ok (.iconst 0, 1) := by decide +kernel
theorem dX6_quietIn_12 : decode cX6_quietIn 12 = .ok (.istore_n 1, 1) := by decide +kernel
theorem dX6_quietIn_13 : decode cX6_quietIn 13 = .ok (.aload_n 0, 1) := by decide +kernel
theorem dX6_quietIn_14 : decode cX6_quietIn 14 = .ok (.invokevirtual 178, 3) := by decide +kernel
theorem dX6_quietIn_17 : decode cX6_quietIn 17 = .ok (.ifCond .ne 20, 3) := by decide +kernel
theorem dX6_quietIn_20 : decode cX6_quietIn 20 = .ok (.iload_n 1, 1) := by decide +kernel
theorem dX6_quietIn_21 : decode cX6_quietIn 21 = .ok (.sipush 500, 3) := by decide +kernel
theorem dX6_quietIn_24 : decode cX6_quietIn 24 = .ok (.if_icmp .gt 13, 3) := by decide +kernel
theorem dX6_quietIn_27 : decode cX6_quietIn 27 = .ok (.aload_n 0, 1) := by decide +kernel
theorem dX6_quietIn_28 : decode cX6_quietIn 28 = .ok (.invokevirtual 149, 3) := by decide +kernel
theorem dX6_quietIn_31 : decode cX6_quietIn 31 = .ok (.iinc 1 1, 3) := by decide +kernel
theorem dX6_quietIn_34 : decode cX6_quietIn 34 = .ok (.goto (-21), 3) := by decide +kernel
theorem dX6_quietIn_37 : decode cX6_quietIn 37 = .ok (.aload_n 0, 1) := by decide +kernel
theorem dX6_quietIn_38 : decode cX6_quietIn 38 = .ok (.getfield 19, 3) := by decide +kernel
theorem dX6_quietIn_41 : decode cX6_quietIn 41 = .ok (.aload_n 0, 1) := by decide +kernel
theorem dX6_quietIn_42 : decode cX6_quietIn 42 = .ok (.getfield 7, 3) := by decide +kernel
theorem dX6_quietIn_45 : decode cX6_quietIn 45 = .ok (.invokestatic 158, 3) := by decide +kernel
theorem dX6_quietIn_48 : decode cX6_quietIn 48 = .ok (.iload_n 1, 1) := by decide +kernel
theorem dX6_quietIn_49 : decode cX6_quietIn 49 = .ok (.sipush 500, 3) := by decide +kernel
theorem dX6_quietIn_52 : decode cX6_quietIn 52 = .ok (.if_icmp .le 8, 3) := by decide +kernel
theorem dX6_quietIn_55 : decode cX6_quietIn 55 = .ok (.bipush (-5), 2) := by decide +kernel
theorem dX6_quietIn_57 : decode cX6_quietIn 57 = .ok (.goto 4, 3) := by decide +kernel
theorem dX6_quietIn_60 : decode cX6_quietIn 60 = .ok (.iload_n 1, 1) := by decide +kernel
theorem dX6_quietIn_61 : decode cX6_quietIn 61 = .ok (.ireturn, 1) := by decide +kernel
theorem dX6_idleIn_0 : decode cX6_idleIn 0 = .ok (.aload_n 0, 1) := by decide +kernel
theorem dX6_idleIn_1 : decode cX6_idleIn 1 = .ok (.getfield 7, 3) := by decide +kernel
theorem dX6_idleIn_4 : decode cX6_idleIn 4 = .ok (.aload_n 0, 1) := by decide +kernel
theorem dX6_idleIn_5 : decode cX6_idleIn 5 = .ok (.getfield 19, 3) := by decide +kernel
theorem dX6_idleIn_8 : decode cX6_idleIn 8 = .ok (.invokestatic 158, 3) := by decide +kernel
theorem dX6_idleIn_11 : decode cX6_idleIn 11 = .ok (.iconst 0, 1) := by decide +kernel
theorem dX6_idleIn_12 : decode cX6_idleIn 12 = .ok (.istore_n 1, 1) := by decide +kernel
theorem dX6_idleIn_13 : decode cX6_idleIn 13 = .ok (.aload_n 0, 1) := by decide +kernel
theorem dX6_idleIn_14 : decode cX6_idleIn 14 = .ok (.invokevirtual 181, 3) := by decide +kernel
theorem dX6_idleIn_17 : decode cX6_idleIn 17 = .ok (.ifCond .ne 20, 3) := by decide +kernel
theorem dX6_idleIn_20 : decode cX6_idleIn 20 = .ok (.iload_n 1, 1) := by decide +kernel
theorem dX6_idleIn_21 : decode cX6_idleIn 21 = .ok (.sipush 500, 3) := by decide +kernel
theorem dX6_idleIn_24 : decode cX6_idleIn 24 = .ok (.if_icmp .gt 13, 3) := by decide +kernel
theorem dX6_idleIn_27 : decode cX6_idleIn 27 = .ok (.aload_n 0, 1) := by decide +kernel
theorem dX6_idleIn_28 : decode cX6_idleIn 28 = .ok (.invokevirtual 149, 3) := by decide +kernel
theorem dX6_idleIn_31 : decode cX6_idleIn 31 = .ok (.iinc 1 1, 3) := by decide +kernel
theorem dX6_idleIn_34 : decode cX6_idleIn 34 = .ok (.goto (-21), 3) := by decide +kernel
theorem dX6_idleIn_37 : decode cX6_idleIn 37 = .ok (.aload_n 0, 1) := by decide +kernel
theorem dX6_idleIn_38 : decode cX6_idleIn 38 = .ok (.getfield 19, 3) := by decide +kernel
theorem dX6_idleIn_41 : decode cX6_idleIn 41 = .ok (.aload_n 0, 1) := by decide +kernel
theorem dX6_idleIn_42 : decode cX6_idleIn 42 = .ok (.getfield 7, 3) := by decide +kernel
theorem dX6_idleIn_45 : decode cX6_idleIn 45 = .ok (.invokestatic 158, 3) := by decide +kernel
theorem dX6_idleIn_48 : decode cX6_idleIn 48 = .ok (.iload_n 1, 1) := by decide +kernel
theorem dX6_idleIn_49 : decode cX6_idleIn 49 = .ok (.sipush 500, 3) := by decide +kernel
theorem dX6_idleIn_52 : decode cX6_idleIn 52 = .ok (.if_icmp .le 8, 3) := by decide +kernel
theorem dX6_idleIn_55 : decode cX6_idleIn 55 = .ok (.bipush (-5), 2) := by decide +kernel
theorem dX6_idleIn_57 : decode cX6_idleIn 57 = .ok (.goto 4, 3) := by decide +kernel
theorem dX6_idleIn_60 : decode cX6_idleIn 60 = .ok (.iload_n 1, 1) := by decide +kernel
theorem dX6_idleIn_61 : decode cX6_idleIn 61 = .ok (.ireturn, 1) := by decide +kernel
theorem dX6_beginAnew_0 : decode cX6_beginAnew 0 = .ok (.aload_n 0, 1) := by decide +kernel
theorem dX6_beginAnew_1 : decode cX6_beginAnew 1 = .ok (.getfield 7, 3) := by decide +kernel
theorem dX6_beginAnew_4 : decode cX6_beginAnew 4 = .ok (.bipush 9, 2) := by decide +kernel
theorem dX6_beginAnew_6 : decode cX6_beginAnew 6 = .ok (.iaload, 1) := by decide +kernel
theorem dX6_beginAnew_7 : decode cX6_beginAnew 7 = .ok (.istore_n 2, 1) := by decide +kernel
theorem dX6_beginAnew_8 : decode cX6_beginAnew 8 = .ok (.iconst 0, 1) := by decide +kernel
theorem dX6_beginAnew_9 : decode cX6_beginAnew 9 = .ok (.istore_n 3, 1) := by decide +kernel
theorem dX6_beginAnew_10 : decode cX6_beginAnew 10 = .ok (.iload_n 3, 1) := by decide +kernel
theorem dX6_beginAnew_11 : decode cX6_beginAnew 11 = .ok (.sipush 1372, 3) := by decide +kernel
theorem dX6_beginAnew_14 : decode cX6_beginAnew 14 = .ok (.if_icmp .ge 36, 3) := by decide +kernel
theorem dX6_beginAnew_17 : decode cX6_beginAnew 17 = .ok (.aload_n 0, 1) := by decide +kernel
theorem dX6_beginAnew_18 : decode cX6_beginAnew 18 = .ok (.getfield 7, 3) := by decide +kernel
theorem dX6_beginAnew_21 : decode cX6_beginAnew 21 = .ok (.iload_n 3, 1) := by decide +kernel
theorem dX6_beginAnew_22 : decode cX6_beginAnew 22 = .ok (.iload_n 3, 1) := by decide +kernel
theorem dX6_beginAnew_23 : decode cX6_beginAnew 23 = .ok (.bipush 12, 2) := by decide +kernel
theorem dX6_beginAnew_25 : decode cX6_beginAnew 25 = .ok (.bipush 53, 2) := by decide +kernel
theorem dX6_beginAnew_27 : decode cX6_beginAnew 27 = .ok (.invokestatic 31, 3) := by decide +kernel
theorem dX6_beginAnew_30 : decode cX6_beginAnew 30 = .ok (.ifCond .eq 12, 3) := by decide +kernel
theorem dX6_beginAnew_33 : decode cX6_beginAnew 33 = .ok (.aload_n 0, 1) := by decide +kernel
theorem dX6_beginAnew_34 : decode cX6_beginAnew 34 = .ok (.getfield 7, 3) := by decide +kernel
theorem dX6_beginAnew_37 : decode cX6_beginAnew 37 = .ok (.iload_n 3, 1) := by decide +kernel
theorem dX6_beginAnew_38 : decode cX6_beginAnew 38 = .ok (.iaload, 1) := by decide +kernel
theorem dX6_beginAnew_39 : decode cX6_beginAnew 39 = .ok (.goto 4, 3) := by decide +kernel
theorem dX6_beginAnew_42 : decode cX6_beginAnew 42 = .ok (.iconst 0, 1) := by decide +kernel
theorem dX6_beginAnew_43 : decode cX6_beginAnew 43 = .ok (.iastore, 1) := by decide +kernel
theorem dX6_beginAnew_44 : decode cX6_beginAnew 44 = .ok (.iinc 3 1, 3) := by decide +kernel
theorem dX6_beginAnew_47 : decode cX6_beginAnew 47 = .ok (.goto (-37), 3) := by decide +kernel
theorem dX6_beginAnew_50 : decode cX6_beginAnew 50 = .ok (.aload_n 0, 1) := by decide +kernel
theorem dX6_beginAnew_51 : decode cX6_beginAnew 51 = .ok (.getfield 7, 3) := by decide +kernel
theorem dX6_beginAnew_54 : decode cX6_beginAnew 54 = .ok (.bipush 9, 2) := by decide +kernel
theorem dX6_beginAnew_56 : decode cX6_beginAnew 56 = .ok (.iload_n 2, 1) := by decide +kernel
theorem dX6_beginAnew_57 : decode cX6_beginAnew 57 = .ok (.iastore, 1) := by decide +kernel
theorem dX6_beginAnew_58 : decode cX6_beginAnew 58 = .ok (.aload_n 0, 1) := by decide +kernel
theorem dX6_beginAnew_59 : decode cX6_beginAnew 59 = .ok (.getfield 7, 3) := by decide +kernel
theorem dX6_beginAnew_62 : decode cX6_beginAnew 62 = .ok (.bipush 8, 2) := by decide +kernel
theorem dX6_beginAnew_64 : decode cX6_beginAnew 64 = .ok (.iload_n 1, 1) := by decide +kernel
theorem dX6_beginAnew_65 : decode cX6_beginAnew 65 = .ok (.iastore, 1) := by decide +kernel
theorem dX6_beginAnew_66 : decode cX6_beginAnew 66 = .ok (.return_, 1) := by decide +kernel
theorem dX6_isEnough_0 : decode cX6_isEnough 0 = .ok (.aload_n 0, 1) := by decide +kernel
theorem dX6_isEnough_1 : decode cX6_isEnough 1 = .ok (.iload_n 1, 1) := by decide +kernel
theorem dX6_isEnough_2 : decode cX6_isEnough 2 = .ok (.invokevirtual 184, 3) := by decide +kernel
theorem dX6_isEnough_5 : decode cX6_isEnough 5 = .ok (.aload_n 0, 1) := by decide +kernel
theorem dX6_isEnough_6 : decode cX6_isEnough 6 = .ok (.invokevirtual 142, 3) := by decide +kernel
theorem dX6_isEnough_9 : decode cX6_isEnough 9 = .ok (.istore_n 2, 1) := by decide +kernel
theorem dX6_isEnough_10 : decode cX6_isEnough 10 = .ok (.iconst 0, 1) := by decide +kernel
theorem dX6_isEnough_11 : decode cX6_isEnough 11 = .ok (.istore_n 3, 1) := by decide +kernel
theorem dX6_isEnough_12 : decode cX6_isEnough 12 = .ok (.iload_n 3, 1) := by decide +kernel
theorem dX6_isEnough_13 : decode cX6_isEnough 13 = .ok (.sipush 500, 3) := by decide +kernel
theorem dX6_isEnough_16 : decode cX6_isEnough 16 = .ok (.if_icmp .ge 29, 3) := by decide +kernel
theorem dX6_isEnough_19 : decode cX6_isEnough 19 = .ok (.aload_n 0, 1) := by decide +kernel
theorem dX6_isEnough_20 : decode cX6_isEnough 20 = .ok (.invokevirtual 181, 3) := by decide +kernel
theorem dX6_isEnough_23 : decode cX6_isEnough 23 = .ok (.ifCond .ne 22, 3) := by decide +kernel
theorem dX6_isEnough_26 : decode cX6_isEnough 26 = .ok (.aload_n 0, 1) := by decide +kernel
theorem dX6_isEnough_27 : decode cX6_isEnough 27 = .ok (.bipush 6, 2) := by decide +kernel
theorem dX6_isEnough_29 : decode cX6_isEnough 29 = .ok (.invokevirtual 100, 3) := by decide +kernel
theorem dX6_isEnough_32 : decode cX6_isEnough 32 = .ok (.ifCond .ne 13, 3) := by decide +kernel
theorem dX6_isEnough_35 : decode cX6_isEnough 35 = .ok (.aload_n 0, 1) := by decide +kernel
theorem dX6_isEnough_36 : decode cX6_isEnough 36 = .ok (.invokevirtual 149, 3) := by decide +kernel
theorem dX6_isEnough_39 : decode cX6_isEnough 39 = .ok (.iinc 3 1, 3) := by decide +kernel
theorem dX6_isEnough_42 : decode cX6_isEnough 42 = .ok (.goto (-30), 3) := by decide +kernel
theorem dX6_isEnough_45 : decode cX6_isEnough 45 = .ok (.iload_n 2, 1) := by decide +kernel
theorem dX6_isEnough_46 : decode cX6_isEnough 46 = .ok (.ifCond .le 16, 3) := by decide +kernel
theorem dX6_isEnough_49 : decode cX6_isEnough 49 = .ok (.aload_n 0, 1) := by decide +kernel
theorem dX6_isEnough_50 : decode cX6_isEnough 50 = .ok (.bipush 6, 2) := by decide +kernel
theorem dX6_isEnough_52 : decode cX6_isEnough 52 = .ok (.invokevirtual 100, 3) := by decide +kernel
theorem dX6_isEnough_55 : decode cX6_isEnough 55 = .ok (.ifCond .ne 7, 3) := by decide +kernel
theorem dX6_isEnough_58 : decode cX6_isEnough 58 = .ok (.iconst 1, 1) := by decide +kernel
theorem dX6_isEnough_59 : decode cX6_isEnough 59 = .ok (.goto 4, 3) := by decide +kernel
theorem dX6_isEnough_62 : decode cX6_isEnough 62 = .ok (.iconst 0, 1) := by decide +kernel
theorem dX6_isEnough_63 : decode cX6_isEnough 63 = .ok (.ireturn, 1) := by decide +kernel
theorem dX6_leastCoin_0 : decode cX6_leastCoin 0 = .ok (.aload_n 0, 1) := by decide +kernel
theorem dX6_leastCoin_1 : decode cX6_leastCoin 1 = .ok (.invokevirtual 136, 3) := by decide +kernel
theorem dX6_leastCoin_4 : decode cX6_leastCoin 4 = .ok (.istore_n 1, 1) := by decide +kernel
theorem dX6_leastCoin_5 : decode cX6_leastCoin 5 = .ok (.iload_n 1, 1) := by decide +kernel
theorem dX6_leastCoin_6 : decode cX6_leastCoin 6 = .ok (.bipush (-5), 2) := by decide +kernel
theorem dX6_leastCoin_8 : decode cX6_leastCoin 8 = .ok (.if_icmp .eq 8, 3) := by decide +kernel
theorem dX6_leastCoin_11 : decode cX6_leastCoin 11 = .ok (.bipush (-100), 2) := by decide +kernel
theorem dX6_leastCoin_13 : decode cX6_leastCoin 13 = .ok (.iload_n 1, 1) := by decide +kernel
theorem dX6_leastCoin_14 : decode cX6_leastCoin 14 = .ok (.isub, 1) := by decide +kernel
theorem dX6_leastCoin_15 : decode cX6_leastCoin 15 = .ok (.ireturn, 1) := by decide +kernel
theorem dX6_leastCoin_16 : decode cX6_leastCoin 16 = .ok (.aload_n 0, 1) := by decide +kernel
theorem dX6_leastCoin_17 : decode cX6_leastCoin 17 = .ok (.getfield 7, 3) := by decide +kernel
theorem dX6_leastCoin_20 : decode cX6_leastCoin 20 = .ok (.aload_n 0, 1) := by decide +kernel
theorem dX6_leastCoin_21 : decode cX6_leastCoin 21 = .ok (.getfield 19, 3) := by decide +kernel
theorem dX6_leastCoin_24 : decode cX6_leastCoin 24 = .ok (.invokestatic 158, 3) := by decide +kernel
theorem dX6_leastCoin_27 : decode cX6_leastCoin 27 = .ok (.iconst 2, 1) := by decide +kernel
theorem dX6_leastCoin_28 : decode cX6_leastCoin 28 = .ok (.istore_n 2, 1) := by decide +kernel
theorem dX6_leastCoin_29 : decode cX6_leastCoin 29 = .ok (.iload_n 2, 1) := by decide +kernel
theorem dX6_leastCoin_30 : decode cX6_leastCoin 30 = .ok (.bipush 16, 2) := by decide +kernel
theorem dX6_leastCoin_32 : decode cX6_leastCoin 32 = .ok (.if_icmp .gt 17, 3) := by decide +kernel
theorem dX6_leastCoin_35 : decode cX6_leastCoin 35 = .ok (.aload_n 0, 1) := by decide +kernel
theorem dX6_leastCoin_36 : decode cX6_leastCoin 36 = .ok (.iload_n 2, 1) := by decide +kernel
theorem dX6_leastCoin_37 : decode cX6_leastCoin 37 = .ok (.invokevirtual 187, 3) := by decide +kernel
theorem dX6_leastCoin_40 : decode cX6_leastCoin 40 = .ok (.ifCond .ne 9, 3) := by decide +kernel
theorem dX6_leastCoin_43 : decode cX6_leastCoin 43 = .ok (.iinc 2 1, 3) := by decide +kernel
theorem dX6_leastCoin_46 : decode cX6_leastCoin 46 = .ok (.goto (-17), 3) := by decide +kernel
theorem dX6_leastCoin_49 : decode cX6_leastCoin 49 = .ok (.aload_n 0, 1) := by decide +kernel
theorem dX6_leastCoin_50 : decode cX6_leastCoin 50 = .ok (.getfield 19, 3) := by decide +kernel
theorem dX6_leastCoin_53 : decode cX6_leastCoin 53 = .ok (.aload_n 0, 1) := by decide +kernel
theorem dX6_leastCoin_54 : decode cX6_leastCoin 54 = .ok (.getfield 7, 3) := by decide +kernel
theorem dX6_leastCoin_57 : decode cX6_leastCoin 57 = .ok (.invokestatic 158, 3) := by decide +kernel
theorem dX6_leastCoin_60 : decode cX6_leastCoin 60 = .ok (.iload_n 2, 1) := by decide +kernel
theorem dX6_leastCoin_61 : decode cX6_leastCoin 61 = .ok (.bipush 16, 2) := by decide +kernel
theorem dX6_leastCoin_63 : decode cX6_leastCoin 63 = .ok (.if_icmp .le 8, 3) := by decide +kernel
theorem dX6_leastCoin_66 : decode cX6_leastCoin 66 = .ok (.bipush (-5), 2) := by decide +kernel
theorem dX6_leastCoin_68 : decode cX6_leastCoin 68 = .ok (.goto 4, 3) := by decide +kernel
theorem dX6_leastCoin_71 : decode cX6_leastCoin 71 = .ok (.iload_n 2, 1) := by decide +kernel
theorem dX6_leastCoin_72 : decode cX6_leastCoin 72 = .ok (.ireturn, 1) := by decide +kernel
theorem dJ9_max_7cf53_0 : decode cJ9_max_7cf53 0 = .ok (.iload_n 0, 1) := by decide +kernel
theorem dJ9_max_7cf53_1 : decode cJ9_max_7cf53 1 = .ok (.iload_n 1, 1) := by decide +kernel
theorem dJ9_max_7cf53_2 : decode cJ9_max_7cf53 2 = .ok (.if_icmp .lt 7, 3) := by decide +kernel
theorem dJ9_max_7cf53_5 : decode cJ9_max_7cf53 5 = .ok (.iload_n 0, 1) := by decide +kernel
theorem dJ9_max_7cf53_6 : decode cJ9_max_7cf53 6 = .ok (.goto 4, 3) := by decide +kernel
theorem dJ9_max_7cf53_9 : decode cJ9_max_7cf53 9 = .ok (.iload_n 1, 1) := by decide +kernel
theorem dJ9_max_7cf53_10 : decode cJ9_max_7cf53 10 = .ok (.ireturn, 1) := by decide +kernel
theorem dL_law_0 : decode cL_law 0 = .ok (.new 7, 3) := by decide +kernel
theorem dL_law_3 : decode cL_law 3 = .ok (.dup, 1) := by decide +kernel
theorem dL_law_4 : decode cL_law 4 = .ok (.invokespecial 9, 3) := by decide +kernel
theorem dL_law_7 : decode cL_law 7 = .ok (.astore_n 1, 1) := by decide +kernel
theorem dL_law_8 : decode cL_law 8 = .ok (.new 10, 3) := by decide +kernel
theorem dL_law_11 : decode cL_law 11 = .ok (.dup, 1) := by decide +kernel
theorem dL_law_12 : decode cL_law 12 = .ok (.invokespecial 12, 3) := by decide +kernel
theorem dL_law_15 : decode cL_law 15 = .ok (.astore_n 2, 1) := by decide +kernel
theorem dL_law_16 : decode cL_law 16 = .ok (.iconst 0, 1) := by decide +kernel
theorem dL_law_17 : decode cL_law 17 = .ok (.istore_n 3, 1) := by decide +kernel
theorem dL_law_18 : decode cL_law 18 = .ok (.iload_n 3, 1) := by decide +kernel
theorem dL_law_19 : decode cL_law 19 = .ok (.aload_n 0, 1) := by decide +kernel
theorem dL_law_20 : decode cL_law 20 = .ok (.arraylength, 1) := by decide +kernel
theorem dL_law_21 : decode cL_law 21 = .ok (.iconst 4, 1) := by decide +kernel
theorem dL_law_22 : decode cL_law 22 = .ok (.isub, 1) := by decide +kernel
theorem dL_law_23 : decode cL_law 23 = .ok (.if_icmp .gt 627, 3) := by decide +kernel
theorem dL_law_26 : decode cL_law 26 = .ok (.aload_n 0, 1) := by decide +kernel
theorem dL_law_27 : decode cL_law 27 = .ok (.iload_n 3, 1) := by decide +kernel
theorem dL_law_28 : decode cL_law 28 = .ok (.iaload, 1) := by decide +kernel
theorem dL_law_29 : decode cL_law 29 = .ok (.bipush 31, 2) := by decide +kernel
theorem dL_law_31 : decode cL_law 31 = .ok (.iand, 1) := by decide +kernel
theorem dL_law_32 : decode cL_law 32 = .ok (.tableswitch 612 0 21 #[104, 147, 180, 213, 226, 249, 272, 285, 310, 323, 336, 349, 362, 395, 418, 451, 494, 527, 550, 563, 576, 599], 104) := by decide +kernel
theorem dL_law_136 : decode cL_law 136 = .ok (.aload_n 1, 1) := by decide +kernel
theorem dL_law_137 : decode cL_law 137 = .ok (.aload_n 0, 1) := by decide +kernel
theorem dL_law_138 : decode cL_law 138 = .ok (.iload_n 3, 1) := by decide +kernel
theorem dL_law_139 : decode cL_law 139 = .ok (.iconst 1, 1) := by decide +kernel
theorem dL_law_140 : decode cL_law 140 = .ok (.iadd, 1) := by decide +kernel
theorem dL_law_141 : decode cL_law 141 = .ok (.iaload, 1) := by decide +kernel
theorem dL_law_142 : decode cL_law 142 = .ok (.aload_n 0, 1) := by decide +kernel
theorem dL_law_143 : decode cL_law 143 = .ok (.iload_n 3, 1) := by decide +kernel
theorem dL_law_144 : decode cL_law 144 = .ok (.iconst 2, 1) := by decide +kernel
theorem dL_law_145 : decode cL_law 145 = .ok (.iadd, 1) := by decide +kernel
theorem dL_law_146 : decode cL_law 146 = .ok (.iaload, 1) := by decide +kernel
theorem dL_law_147 : decode cL_law 147 = .ok (.aload_n 0, 1) := by decide +kernel
theorem dL_law_148 : decode cL_law 148 = .ok (.iload_n 3, 1) := by decide +kernel
theorem dL_law_149 : decode cL_law 149 = .ok (.iconst 3, 1) := by decide +kernel
theorem dL_law_150 : decode cL_law 150 = .ok (.iadd, 1) := by decide +kernel
theorem dL_law_151 : decode cL_law 151 = .ok (.iaload, 1) := by decide +kernel
theorem dL_law_152 : decode cL_law 152 = .ok (.invokevirtual 13, 3) := by decide +kernel
theorem dL_law_155 : decode cL_law 155 = .ok (.aload_n 2, 1) := by decide +kernel
theorem dL_law_156 : decode cL_law 156 = .ok (.aload_n 0, 1) := by decide +kernel
theorem dL_law_157 : decode cL_law 157 = .ok (.iload_n 3, 1) := by decide +kernel
theorem dL_law_158 : decode cL_law 158 = .ok (.iconst 1, 1) := by decide +kernel
theorem dL_law_159 : decode cL_law 159 = .ok (.iadd, 1) := by decide +kernel
theorem dL_law_160 : decode cL_law 160 = .ok (.iaload, 1) := by decide +kernel
theorem dL_law_161 : decode cL_law 161 = .ok (.aload_n 0, 1) := by decide +kernel
theorem dL_law_162 : decode cL_law 162 = .ok (.iload_n 3, 1) := by decide +kernel
theorem dL_law_163 : decode cL_law 163 = .ok (.iconst 2, 1) := by decide +kernel
theorem dL_law_164 : decode cL_law 164 = .ok (.iadd, 1) := by decide +kernel
theorem dL_law_165 : decode cL_law 165 = .ok (.iaload, 1) := by decide +kernel
theorem dL_law_166 : decode cL_law 166 = .ok (.aload_n 0, 1) := by decide +kernel
theorem dL_law_167 : decode cL_law 167 = .ok (.iload_n 3, 1) := by decide +kernel
theorem dL_law_168 : decode cL_law 168 = .ok (.iconst 3, 1) := by decide +kernel
theorem dL_law_169 : decode cL_law 169 = .ok (.iadd, 1) := by decide +kernel
theorem dL_law_170 : decode cL_law 170 = .ok (.iaload, 1) := by decide +kernel
theorem dL_law_171 : decode cL_law 171 = .ok (.invokevirtual 17, 3) := by decide +kernel
theorem dL_law_174 : decode cL_law 174 = .ok (.if_icmp .eq 470, 3) := by decide +kernel
theorem dL_law_177 : decode cL_law 177 = .ok (.iconst 0, 1) := by decide +kernel
theorem dL_law_178 : decode cL_law 178 = .ok (.ireturn, 1) := by decide +kernel
theorem dL_law_179 : decode cL_law 179 = .ok (.aload_n 1, 1) := by decide +kernel
theorem dL_law_180 : decode cL_law 180 = .ok (.aload_n 0, 1) := by decide +kernel
theorem dL_law_181 : decode cL_law 181 = .ok (.iload_n 3, 1) := by decide +kernel
theorem dL_law_182 : decode cL_law 182 = .ok (.iconst 1, 1) := by decide +kernel
theorem dL_law_183 : decode cL_law 183 = .ok (.iadd, 1) := by decide +kernel
theorem dL_law_184 : decode cL_law 184 = .ok (.iaload, 1) := by decide +kernel
theorem dL_law_185 : decode cL_law 185 = .ok (.aload_n 0, 1) := by decide +kernel
theorem dL_law_186 : decode cL_law 186 = .ok (.iload_n 3, 1) := by decide +kernel
theorem dL_law_187 : decode cL_law 187 = .ok (.iconst 2, 1) := by decide +kernel
theorem dL_law_188 : decode cL_law 188 = .ok (.iadd, 1) := by decide +kernel
theorem dL_law_189 : decode cL_law 189 = .ok (.iaload, 1) := by decide +kernel
theorem dL_law_190 : decode cL_law 190 = .ok (.invokevirtual 18, 3) := by decide +kernel
theorem dL_law_193 : decode cL_law 193 = .ok (.aload_n 2, 1) := by decide +kernel
theorem dL_law_194 : decode cL_law 194 = .ok (.aload_n 0, 1) := by decide +kernel
theorem dL_law_195 : decode cL_law 195 = .ok (.iload_n 3, 1) := by decide +kernel
theorem dL_law_196 : decode cL_law 196 = .ok (.iconst 1, 1) := by decide +kernel
theorem dL_law_197 : decode cL_law 197 = .ok (.iadd, 1) := by decide +kernel
theorem dL_law_198 : decode cL_law 198 = .ok (.iaload, 1) := by decide +kernel
theorem dL_law_199 : decode cL_law 199 = .ok (.aload_n 0, 1) := by decide +kernel
theorem dL_law_200 : decode cL_law 200 = .ok (.iload_n 3, 1) := by decide +kernel
theorem dL_law_201 : decode cL_law 201 = .ok (.iconst 2, 1) := by decide +kernel
theorem dL_law_202 : decode cL_law 202 = .ok (.iadd, 1) := by decide +kernel
theorem dL_law_203 : decode cL_law 203 = .ok (.iaload, 1) := by decide +kernel
theorem dL_law_204 : decode cL_law 204 = .ok (.invokevirtual 22, 3) := by decide +kernel
theorem dL_law_207 : decode cL_law 207 = .ok (.if_icmp .eq 437, 3) := by decide +kernel
theorem dL_law_210 : decode cL_law 210 = .ok (.iconst 0, 1) := by decide +kernel
theorem dL_law_211 : decode cL_law 211 = .ok (.ireturn, 1) := by decide +kernel
theorem dL_law_212 : decode cL_law 212 = .ok (.aload_n 1, 1) := by decide +kernel
theorem dL_law_213 : decode cL_law 213 = .ok (.aload_n 0, 1) := by decide +kernel
theorem dL_law_214 : decode cL_law 214 = .ok (.iload_n 3, 1) := by decide +kernel
theorem dL_law_215 : decode cL_law 215 = .ok (.iconst 1, 1) := by decide +kernel
theorem dL_law_216 : decode cL_law 216 = .ok (.iadd, 1) := by decide +kernel
theorem dL_law_217 : decode cL_law 217 = .ok (.iaload, 1) := by decide +kernel
theorem dL_law_218 : decode cL_law 218 = .ok (.aload_n 0, 1) := by decide +kernel
theorem dL_law_219 : decode cL_law 219 = .ok (.iload_n 3, 1) := by decide +kernel
theorem dL_law_220 : decode cL_law 220 = .ok (.iconst 2, 1) := by decide +kernel
theorem dL_law_221 : decode cL_law 221 = .ok (.iadd, 1) := by decide +kernel
theorem dL_law_222 : decode cL_law 222 = .ok (.iaload, 1) := by decide +kernel
theorem dL_law_223 : decode cL_law 223 = .ok (.invokevirtual 23, 3) := by decide +kernel
theorem dL_law_226 : decode cL_law 226 = .ok (.aload_n 2, 1) := by decide +kernel
theorem dL_law_227 : decode cL_law 227 = .ok (.aload_n 0, 1) := by decide +kernel
theorem dL_law_228 : decode cL_law 228 = .ok (.iload_n 3, 1) := by decide +kernel
theorem dL_law_229 : decode cL_law 229 = .ok (.iconst 1, 1) := by decide +kernel
theorem dL_law_230 : decode cL_law 230 = .ok (.iadd, 1) := by decide +kernel
theorem dL_law_231 : decode cL_law 231 = .ok (.iaload, 1) := by decide +kernel
theorem dL_law_232 : decode cL_law 232 = .ok (.aload_n 0, 1) := by decide +kernel
theorem dL_law_233 : decode cL_law 233 = .ok (.iload_n 3, 1) := by decide +kernel
theorem dL_law_234 : decode cL_law 234 = .ok (.iconst 2, 1) := by decide +kernel
theorem dL_law_235 : decode cL_law 235 = .ok (.iadd, 1) := by decide +kernel
theorem dL_law_236 : decode cL_law 236 = .ok (.iaload, 1) := by decide +kernel
theorem dL_law_237 : decode cL_law 237 = .ok (.invokevirtual 26, 3) := by decide +kernel
theorem dL_law_240 : decode cL_law 240 = .ok (.if_icmp .eq 404, 3) := by decide +kernel
theorem dL_law_243 : decode cL_law 243 = .ok (.iconst 0, 1) := by decide +kernel
theorem dL_law_244 : decode cL_law 244 = .ok (.ireturn, 1) := by decide +kernel
theorem dL_law_245 : decode cL_law 245 = .ok (.aload_n 1, 1) := by decide +kernel
theorem dL_law_246 : decode cL_law 246 = .ok (.invokevirtual 27, 3) := by decide +kernel
theorem dL_law_249 : decode cL_law 249 = .ok (.aload_n 2, 1) := by decide +kernel
theorem dL_law_250 : decode cL_law 250 = .ok (.invokevirtual 31, 3) := by decide +kernel
theorem dL_law_253 : decode cL_law 253 = .ok (.if_icmp .eq 391, 3) := by decide +kernel
theorem dL_law_256 : decode cL_law 256 = .ok (.iconst 0, 1) := by decide +kernel
theorem dL_law_257 : decode cL_law 257 = .ok (.ireturn, 1) := by decide +kernel
theorem dL_law_258 : decode cL_law 258 = .ok (.aload_n 1, 1) := by decide +kernel
theorem dL_law_259 : decode cL_law 259 = .ok (.aload_n 0, 1) := by decide +kernel
theorem dL_law_260 : decode cL_law 260 = .ok (.iload_n 3, 1) := by decide +kernel
theorem dL_law_261 : decode cL_law 261 = .ok (.iconst 1, 1) := by decide +kernel
theorem dL_law_262 : decode cL_law 262 = .ok (.iadd, 1) := by decide +kernel
theorem dL_law_263 : decode cL_law 263 = .ok (.iaload, 1) := by decide +kernel
theorem dL_law_264 : decode cL_law 264 = .ok (.invokevirtual 32, 3) := by decide +kernel
theorem dL_law_267 : decode cL_law 267 = .ok (.aload_n 2, 1) := by decide +kernel
theorem dL_law_268 : decode cL_law 268 = .ok (.aload_n 0, 1) := by decide +kernel
theorem dL_law_269 : decode cL_law 269 = .ok (.iload_n 3, 1) := by decide +kernel
theorem dL_law_270 : decode cL_law 270 = .ok (.iconst 1, 1) := by decide +kernel
theorem dL_law_271 : decode cL_law 271 = .ok (.iadd, 1) := by decide +kernel
theorem dL_law_272 : decode cL_law 272 = .ok (.iaload, 1) := by decide +kernel
theorem dL_law_273 : decode cL_law 273 = .ok (.invokevirtual 36, 3) := by decide +kernel
theorem dL_law_276 : decode cL_law 276 = .ok (.if_icmp .eq 368, 3) := by decide +kernel
theorem dL_law_279 : decode cL_law 279 = .ok (.iconst 0, 1) := by decide +kernel
theorem dL_law_280 : decode cL_law 280 = .ok (.ireturn, 1) := by decide +kernel
theorem dL_law_281 : decode cL_law 281 = .ok (.aload_n 1, 1) := by decide +kernel
theorem dL_law_282 : decode cL_law 282 = .ok (.aload_n 0, 1) := by decide +kernel
theorem dL_law_283 : decode cL_law 283 = .ok (.iload_n 3, 1) := by decide +kernel
theorem dL_law_284 : decode cL_law 284 = .ok (.iconst 1, 1) := by decide +kernel
theorem dL_law_285 : decode cL_law 285 = .ok (.iadd, 1) := by decide +kernel
theorem dL_law_286 : decode cL_law 286 = .ok (.iaload, 1) := by decide +kernel
theorem dL_law_287 : decode cL_law 287 = .ok (.invokevirtual 37, 3) := by decide +kernel
theorem dL_law_290 : decode cL_law 290 = .ok (.aload_n 2, 1) := by decide +kernel
theorem dL_law_291 : decode cL_law 291 = .ok (.aload_n 0, 1) := by decide +kernel
theorem dL_law_292 : decode cL_law 292 = .ok (.iload_n 3, 1) := by decide +kernel
theorem dL_law_293 : decode cL_law 293 = .ok (.iconst 1, 1) := by decide +kernel
theorem dL_law_294 : decode cL_law 294 = .ok (.iadd, 1) := by decide +kernel
theorem dL_law_295 : decode cL_law 295 = .ok (.iaload, 1) := by decide +kernel
theorem dL_law_296 : decode cL_law 296 = .ok (.invokevirtual 40, 3) := by decide +kernel
theorem dL_law_299 : decode cL_law 299 = .ok (.if_icmp .eq 345, 3) := by decide +kernel
theorem dL_law_302 : decode cL_law 302 = .ok (.iconst 0, 1) := by decide +kernel
theorem dL_law_303 : decode cL_law 303 = .ok (.ireturn, 1) := by decide +kernel
theorem dL_law_304 : decode cL_law 304 = .ok (.aload_n 1, 1) := by decide +kernel
theorem dL_law_305 : decode cL_law 305 = .ok (.invokevirtual 41, 3) := by decide +kernel
theorem dL_law_308 : decode cL_law 308 = .ok (.aload_n 2, 1) := by decide +kernel
theorem dL_law_309 : decode cL_law 309 = .ok (.invokevirtual 44, 3) := by decide +kernel
theorem dL_law_312 : decode cL_law 312 = .ok (.if_icmp .eq 332, 3) := by decide +kernel
theorem dL_law_315 : decode cL_law 315 = .ok (.iconst 0, 1) := by decide +kernel
theorem dL_law_316 : decode cL_law 316 = .ok (.ireturn, 1) := by decide +kernel
theorem dL_law_317 : decode cL_law 317 = .ok (.aload_n 1, 1) := by decide +kernel
theorem dL_law_318 : decode cL_law 318 = .ok (.aload_n 0, 1) := by decide +kernel
theorem dL_law_319 : decode cL_law 319 = .ok (.iload_n 3, 1) := by decide +kernel
theorem dL_law_320 : decode cL_law 320 = .ok (.iconst 1, 1) := by decide +kernel
theorem dL_law_321 : decode cL_law 321 = .ok (.iadd, 1) := by decide +kernel
theorem dL_law_322 : decode cL_law 322 = .ok (.iaload, 1) := by decide +kernel
theorem dL_law_323 : decode cL_law 323 = .ok (.i2c, 1) := by decide +kernel
theorem dL_law_324 : decode cL_law 324 = .ok (.invokevirtual 45, 3) := by decide +kernel
theorem dL_law_327 : decode cL_law 327 = .ok (.aload_n 2, 1) := by decide +kernel
theorem dL_law_328 : decode cL_law 328 = .ok (.aload_n 0, 1) := by decide +kernel
theorem dL_law_329 : decode cL_law 329 = .ok (.iload_n 3, 1) := by decide +kernel
theorem dL_law_330 : decode cL_law 330 = .ok (.iconst 1, 1) := by decide +kernel
theorem dL_law_331 : decode cL_law 331 = .ok (.iadd, 1) := by decide +kernel
theorem dL_law_332 : decode cL_law 332 = .ok (.iaload, 1) := by decide +kernel
theorem dL_law_333 : decode cL_law 333 = .ok (.i2c, 1) := by decide +kernel
theorem dL_law_334 : decode cL_law 334 = .ok (.invokevirtual 49, 3) := by decide +kernel
theorem dL_law_337 : decode cL_law 337 = .ok (.if_icmp .eq 307, 3) := by decide +kernel
theorem dL_law_340 : decode cL_law 340 = .ok (.iconst 0, 1) := by decide +kernel
theorem dL_law_341 : decode cL_law 341 = .ok (.ireturn, 1) := by decide +kernel
theorem dL_law_342 : decode cL_law 342 = .ok (.aload_n 1, 1) := by decide +kernel
theorem dL_law_343 : decode cL_law 343 = .ok (.invokevirtual 50, 3) := by decide +kernel
theorem dL_law_346 : decode cL_law 346 = .ok (.aload_n 2, 1) := by decide +kernel
theorem dL_law_347 : decode cL_law 347 = .ok (.invokevirtual 53, 3) := by decide +kernel
theorem dL_law_350 : decode cL_law 350 = .ok (.if_icmp .eq 294, 3) := by decide +kernel
theorem dL_law_353 : decode cL_law 353 = .ok (.iconst 0, 1) := by decide +kernel
theorem dL_law_354 : decode cL_law 354 = .ok (.ireturn, 1) := by decide +kernel
theorem dL_law_355 : decode cL_law 355 = .ok (.aload_n 1, 1) := by decide +kernel
theorem dL_law_356 : decode cL_law 356 = .ok (.invokevirtual 54, 3) := by decide +kernel
theorem dL_law_359 : decode cL_law 359 = .ok (.aload_n 2, 1) := by decide +kernel
theorem dL_law_360 : decode cL_law 360 = .ok (.invokevirtual 57, 3) := by decide +kernel
theorem dL_law_363 : decode cL_law 363 = .ok (.if_icmp .eq 281, 3) := by decide +kernel
theorem dL_law_366 : decode cL_law 366 = .ok (.iconst 0, 1) := by decide +kernel
theorem dL_law_367 : decode cL_law 367 = .ok (.ireturn, 1) := by decide +kernel
theorem dL_law_368 : decode cL_law 368 = .ok (.aload_n 1, 1) := by decide +kernel
theorem dL_law_369 : decode cL_law 369 = .ok (.invokevirtual 58, 3) := by decide +kernel
theorem dL_law_372 : decode cL_law 372 = .ok (.aload_n 2, 1) := by decide +kernel
theorem dL_law_373 : decode cL_law 373 = .ok (.invokevirtual 61, 3) := by decide +kernel
theorem dL_law_376 : decode cL_law 376 = .ok (.if_icmp .eq 268, 3) := by decide +kernel
theorem dL_law_379 : decode cL_law 379 = .ok (.iconst 0, 1) := by decide +kernel
theorem dL_law_380 : decode cL_law 380 = .ok (.ireturn, 1) := by decide +kernel
theorem dL_law_381 : decode cL_law 381 = .ok (.aload_n 1, 1) := by decide +kernel
theorem dL_law_382 : decode cL_law 382 = .ok (.invokevirtual 62, 3) := by decide +kernel
theorem dL_law_385 : decode cL_law 385 = .ok (.aload_n 2, 1) := by decide +kernel
theorem dL_law_386 : decode cL_law 386 = .ok (.invokevirtual 65, 3) := by decide +kernel
theorem dL_law_389 : decode cL_law 389 = .ok (.if_icmp .eq 255, 3) := by decide +kernel
theorem dL_law_392 : decode cL_law 392 = .ok (.iconst 0, 1) := by decide +kernel
theorem dL_law_393 : decode cL_law 393 = .ok (.ireturn, 1) := by decide +kernel
theorem dL_law_394 : decode cL_law 394 = .ok (.aload_n 1, 1) := by decide +kernel
theorem dL_law_395 : decode cL_law 395 = .ok (.aload_n 0, 1) := by decide +kernel
theorem dL_law_396 : decode cL_law 396 = .ok (.iload_n 3, 1) := by decide +kernel
theorem dL_law_397 : decode cL_law 397 = .ok (.iconst 1, 1) := by decide +kernel
theorem dL_law_398 : decode cL_law 398 = .ok (.iadd, 1) := by decide +kernel
theorem dL_law_399 : decode cL_law 399 = .ok (.iaload, 1) := by decide +kernel
theorem dL_law_400 : decode cL_law 400 = .ok (.aload_n 0, 1) := by decide +kernel
theorem dL_law_401 : decode cL_law 401 = .ok (.iload_n 3, 1) := by decide +kernel
theorem dL_law_402 : decode cL_law 402 = .ok (.iconst 2, 1) := by decide +kernel
theorem dL_law_403 : decode cL_law 403 = .ok (.iadd, 1) := by decide +kernel
theorem dL_law_404 : decode cL_law 404 = .ok (.iaload, 1) := by decide +kernel
theorem dL_law_405 : decode cL_law 405 = .ok (.invokevirtual 66, 3) := by decide +kernel
theorem dL_law_408 : decode cL_law 408 = .ok (.aload_n 2, 1) := by decide +kernel
theorem dL_law_409 : decode cL_law 409 = .ok (.aload_n 0, 1) := by decide +kernel
theorem dL_law_410 : decode cL_law 410 = .ok (.iload_n 3, 1) := by decide +kernel
theorem dL_law_411 : decode cL_law 411 = .ok (.iconst 1, 1) := by decide +kernel
theorem dL_law_412 : decode cL_law 412 = .ok (.iadd, 1) := by decide +kernel
theorem dL_law_413 : decode cL_law 413 = .ok (.iaload, 1) := by decide +kernel
theorem dL_law_414 : decode cL_law 414 = .ok (.aload_n 0, 1) := by decide +kernel
theorem dL_law_415 : decode cL_law 415 = .ok (.iload_n 3, 1) := by decide +kernel
theorem dL_law_416 : decode cL_law 416 = .ok (.iconst 2, 1) := by decide +kernel
theorem dL_law_417 : decode cL_law 417 = .ok (.iadd, 1) := by decide +kernel
theorem dL_law_418 : decode cL_law 418 = .ok (.iaload, 1) := by decide +kernel
theorem dL_law_419 : decode cL_law 419 = .ok (.invokevirtual 69, 3) := by decide +kernel
theorem dL_law_422 : decode cL_law 422 = .ok (.if_icmp .eq 222, 3) := by decide +kernel
theorem dL_law_425 : decode cL_law 425 = .ok (.iconst 0, 1) := by decide +kernel
theorem dL_law_426 : decode cL_law 426 = .ok (.ireturn, 1) := by decide +kernel
theorem dL_law_427 : decode cL_law 427 = .ok (.aload_n 1, 1) := by decide +kernel
theorem dL_law_428 : decode cL_law 428 = .ok (.aload_n 0, 1) := by decide +kernel
theorem dL_law_429 : decode cL_law 429 = .ok (.iload_n 3, 1) := by decide +kernel
theorem dL_law_430 : decode cL_law 430 = .ok (.iconst 1, 1) := by decide +kernel
theorem dL_law_431 : decode cL_law 431 = .ok (.iadd, 1) := by decide +kernel
theorem dL_law_432 : decode cL_law 432 = .ok (.iaload, 1) := by decide +kernel
theorem dL_law_433 : decode cL_law 433 = .ok (.invokevirtual 70, 3) := by decide +kernel
theorem dL_law_436 : decode cL_law 436 = .ok (.aload_n 2, 1) := by decide +kernel
theorem dL_law_437 : decode cL_law 437 = .ok (.aload_n 0, 1) := by decide +kernel
theorem dL_law_438 : decode cL_law 438 = .ok (.iload_n 3, 1) := by decide +kernel
theorem dL_law_439 : decode cL_law 439 = .ok (.iconst 1, 1) := by decide +kernel
theorem dL_law_440 : decode cL_law 440 = .ok (.iadd, 1) := by decide +kernel
theorem dL_law_441 : decode cL_law 441 = .ok (.iaload, 1) := by decide +kernel
theorem dL_law_442 : decode cL_law 442 = .ok (.invokevirtual 73, 3) := by decide +kernel
theorem dL_law_445 : decode cL_law 445 = .ok (.if_icmp .eq 199, 3) := by decide +kernel
theorem dL_law_448 : decode cL_law 448 = .ok (.iconst 0, 1) := by decide +kernel
theorem dL_law_449 : decode cL_law 449 = .ok (.ireturn, 1) := by decide +kernel
theorem dL_law_450 : decode cL_law 450 = .ok (.aload_n 1, 1) := by decide +kernel
theorem dL_law_451 : decode cL_law 451 = .ok (.aload_n 0, 1) := by decide +kernel
theorem dL_law_452 : decode cL_law 452 = .ok (.iload_n 3, 1) := by decide +kernel
theorem dL_law_453 : decode cL_law 453 = .ok (.iconst 1, 1) := by decide +kernel
theorem dL_law_454 : decode cL_law 454 = .ok (.iadd, 1) := by decide +kernel
theorem dL_law_455 : decode cL_law 455 = .ok (.iaload, 1) := by decide +kernel
theorem dL_law_456 : decode cL_law 456 = .ok (.aload_n 0, 1) := by decide +kernel
theorem dL_law_457 : decode cL_law 457 = .ok (.iload_n 3, 1) := by decide +kernel
theorem dL_law_458 : decode cL_law 458 = .ok (.iconst 2, 1) := by decide +kernel
theorem dL_law_459 : decode cL_law 459 = .ok (.iadd, 1) := by decide +kernel
theorem dL_law_460 : decode cL_law 460 = .ok (.iaload, 1) := by decide +kernel
theorem dL_law_461 : decode cL_law 461 = .ok (.invokevirtual 74, 3) := by decide +kernel
theorem dL_law_464 : decode cL_law 464 = .ok (.aload_n 2, 1) := by decide +kernel
theorem dL_law_465 : decode cL_law 465 = .ok (.aload_n 0, 1) := by decide +kernel
theorem dL_law_466 : decode cL_law 466 = .ok (.iload_n 3, 1) := by decide +kernel
theorem dL_law_467 : decode cL_law 467 = .ok (.iconst 1, 1) := by decide +kernel
theorem dL_law_468 : decode cL_law 468 = .ok (.iadd, 1) := by decide +kernel
theorem dL_law_469 : decode cL_law 469 = .ok (.iaload, 1) := by decide +kernel
theorem dL_law_470 : decode cL_law 470 = .ok (.aload_n 0, 1) := by decide +kernel
theorem dL_law_471 : decode cL_law 471 = .ok (.iload_n 3, 1) := by decide +kernel
theorem dL_law_472 : decode cL_law 472 = .ok (.iconst 2, 1) := by decide +kernel
theorem dL_law_473 : decode cL_law 473 = .ok (.iadd, 1) := by decide +kernel
theorem dL_law_474 : decode cL_law 474 = .ok (.iaload, 1) := by decide +kernel
theorem dL_law_475 : decode cL_law 475 = .ok (.invokevirtual 77, 3) := by decide +kernel
theorem dL_law_478 : decode cL_law 478 = .ok (.if_icmp .eq 166, 3) := by decide +kernel
theorem dL_law_481 : decode cL_law 481 = .ok (.iconst 0, 1) := by decide +kernel
theorem dL_law_482 : decode cL_law 482 = .ok (.ireturn, 1) := by decide +kernel
theorem dL_law_483 : decode cL_law 483 = .ok (.aload_n 1, 1) := by decide +kernel
theorem dL_law_484 : decode cL_law 484 = .ok (.aload_n 0, 1) := by decide +kernel
theorem dL_law_485 : decode cL_law 485 = .ok (.iload_n 3, 1) := by decide +kernel
theorem dL_law_486 : decode cL_law 486 = .ok (.iconst 1, 1) := by decide +kernel
theorem dL_law_487 : decode cL_law 487 = .ok (.iadd, 1) := by decide +kernel
theorem dL_law_488 : decode cL_law 488 = .ok (.iaload, 1) := by decide +kernel
theorem dL_law_489 : decode cL_law 489 = .ok (.aload_n 0, 1) := by decide +kernel
theorem dL_law_490 : decode cL_law 490 = .ok (.iload_n 3, 1) := by decide +kernel
theorem dL_law_491 : decode cL_law 491 = .ok (.iconst 2, 1) := by decide +kernel
theorem dL_law_492 : decode cL_law 492 = .ok (.iadd, 1) := by decide +kernel
theorem dL_law_493 : decode cL_law 493 = .ok (.iaload, 1) := by decide +kernel
theorem dL_law_494 : decode cL_law 494 = .ok (.aload_n 0, 1) := by decide +kernel
theorem dL_law_495 : decode cL_law 495 = .ok (.iload_n 3, 1) := by decide +kernel
theorem dL_law_496 : decode cL_law 496 = .ok (.iconst 3, 1) := by decide +kernel
theorem dL_law_497 : decode cL_law 497 = .ok (.iadd, 1) := by decide +kernel
theorem dL_law_498 : decode cL_law 498 = .ok (.iaload, 1) := by decide +kernel
theorem dL_law_499 : decode cL_law 499 = .ok (.invokevirtual 78, 3) := by decide +kernel
theorem dL_law_502 : decode cL_law 502 = .ok (.aload_n 2, 1) := by decide +kernel
theorem dL_law_503 : decode cL_law 503 = .ok (.aload_n 0, 1) := by decide +kernel
theorem dL_law_504 : decode cL_law 504 = .ok (.iload_n 3, 1) := by decide +kernel
theorem dL_law_505 : decode cL_law 505 = .ok (.iconst 1, 1) := by decide +kernel
theorem dL_law_506 : decode cL_law 506 = .ok (.iadd, 1) := by decide +kernel
theorem dL_law_507 : decode cL_law 507 = .ok (.iaload, 1) := by decide +kernel
theorem dL_law_508 : decode cL_law 508 = .ok (.aload_n 0, 1) := by decide +kernel
theorem dL_law_509 : decode cL_law 509 = .ok (.iload_n 3, 1) := by decide +kernel
theorem dL_law_510 : decode cL_law 510 = .ok (.iconst 2, 1) := by decide +kernel
theorem dL_law_511 : decode cL_law 511 = .ok (.iadd, 1) := by decide +kernel
theorem dL_law_512 : decode cL_law 512 = .ok (.iaload, 1) := by decide +kernel
theorem dL_law_513 : decode cL_law 513 = .ok (.aload_n 0, 1) := by decide +kernel
theorem dL_law_514 : decode cL_law 514 = .ok (.iload_n 3, 1) := by decide +kernel
theorem dL_law_515 : decode cL_law 515 = .ok (.iconst 3, 1) := by decide +kernel
theorem dL_law_516 : decode cL_law 516 = .ok (.iadd, 1) := by decide +kernel
theorem dL_law_517 : decode cL_law 517 = .ok (.iaload, 1) := by decide +kernel
theorem dL_law_518 : decode cL_law 518 = .ok (.invokevirtual 81, 3) := by decide +kernel
theorem dL_law_521 : decode cL_law 521 = .ok (.if_icmp .eq 123, 3) := by decide +kernel
theorem dL_law_524 : decode cL_law 524 = .ok (.iconst 0, 1) := by decide +kernel
theorem dL_law_525 : decode cL_law 525 = .ok (.ireturn, 1) := by decide +kernel
theorem dL_law_526 : decode cL_law 526 = .ok (.aload_n 1, 1) := by decide +kernel
theorem dL_law_527 : decode cL_law 527 = .ok (.aload_n 0, 1) := by decide +kernel
theorem dL_law_528 : decode cL_law 528 = .ok (.iload_n 3, 1) := by decide +kernel
theorem dL_law_529 : decode cL_law 529 = .ok (.iconst 1, 1) := by decide +kernel
theorem dL_law_530 : decode cL_law 530 = .ok (.iadd, 1) := by decide +kernel
theorem dL_law_531 : decode cL_law 531 = .ok (.iaload, 1) := by decide +kernel
theorem dL_law_532 : decode cL_law 532 = .ok (.aload_n 0, 1) := by decide +kernel
theorem dL_law_533 : decode cL_law 533 = .ok (.iload_n 3, 1) := by decide +kernel
theorem dL_law_534 : decode cL_law 534 = .ok (.iconst 2, 1) := by decide +kernel
theorem dL_law_535 : decode cL_law 535 = .ok (.iadd, 1) := by decide +kernel
theorem dL_law_536 : decode cL_law 536 = .ok (.iaload, 1) := by decide +kernel
theorem dL_law_537 : decode cL_law 537 = .ok (.invokevirtual 82, 3) := by decide +kernel
theorem dL_law_540 : decode cL_law 540 = .ok (.aload_n 2, 1) := by decide +kernel
theorem dL_law_541 : decode cL_law 541 = .ok (.aload_n 0, 1) := by decide +kernel
theorem dL_law_542 : decode cL_law 542 = .ok (.iload_n 3, 1) := by decide +kernel
theorem dL_law_543 : decode cL_law 543 = .ok (.iconst 1, 1) := by decide +kernel
theorem dL_law_544 : decode cL_law 544 = .ok (.iadd, 1) := by decide +kernel
theorem dL_law_545 : decode cL_law 545 = .ok (.iaload, 1) := by decide +kernel
theorem dL_law_546 : decode cL_law 546 = .ok (.aload_n 0, 1) := by decide +kernel
theorem dL_law_547 : decode cL_law 547 = .ok (.iload_n 3, 1) := by decide +kernel
theorem dL_law_548 : decode cL_law 548 = .ok (.iconst 2, 1) := by decide +kernel
theorem dL_law_549 : decode cL_law 549 = .ok (.iadd, 1) := by decide +kernel
theorem dL_law_550 : decode cL_law 550 = .ok (.iaload, 1) := by decide +kernel
theorem dL_law_551 : decode cL_law 551 = .ok (.invokevirtual 85, 3) := by decide +kernel
theorem dL_law_554 : decode cL_law 554 = .ok (.if_icmp .eq 90, 3) := by decide +kernel
theorem dL_law_557 : decode cL_law 557 = .ok (.iconst 0, 1) := by decide +kernel
theorem dL_law_558 : decode cL_law 558 = .ok (.ireturn, 1) := by decide +kernel
theorem dL_law_559 : decode cL_law 559 = .ok (.aload_n 1, 1) := by decide +kernel
theorem dL_law_560 : decode cL_law 560 = .ok (.aload_n 0, 1) := by decide +kernel
theorem dL_law_561 : decode cL_law 561 = .ok (.iload_n 3, 1) := by decide +kernel
theorem dL_law_562 : decode cL_law 562 = .ok (.iconst 1, 1) := by decide +kernel
theorem dL_law_563 : decode cL_law 563 = .ok (.iadd, 1) := by decide +kernel
theorem dL_law_564 : decode cL_law 564 = .ok (.iaload, 1) := by decide +kernel
theorem dL_law_565 : decode cL_law 565 = .ok (.invokevirtual 86, 3) := by decide +kernel
theorem dL_law_568 : decode cL_law 568 = .ok (.aload_n 2, 1) := by decide +kernel
theorem dL_law_569 : decode cL_law 569 = .ok (.aload_n 0, 1) := by decide +kernel
theorem dL_law_570 : decode cL_law 570 = .ok (.iload_n 3, 1) := by decide +kernel
theorem dL_law_571 : decode cL_law 571 = .ok (.iconst 1, 1) := by decide +kernel
theorem dL_law_572 : decode cL_law 572 = .ok (.iadd, 1) := by decide +kernel
theorem dL_law_573 : decode cL_law 573 = .ok (.iaload, 1) := by decide +kernel
theorem dL_law_574 : decode cL_law 574 = .ok (.invokevirtual 89, 3) := by decide +kernel
theorem dL_law_577 : decode cL_law 577 = .ok (.if_icmp .eq 67, 3) := by decide +kernel
theorem dL_law_580 : decode cL_law 580 = .ok (.iconst 0, 1) := by decide +kernel
theorem dL_law_581 : decode cL_law 581 = .ok (.ireturn, 1) := by decide +kernel
theorem dL_law_582 : decode cL_law 582 = .ok (.aload_n 1, 1) := by decide +kernel
theorem dL_law_583 : decode cL_law 583 = .ok (.invokevirtual 90, 3) := by decide +kernel
theorem dL_law_586 : decode cL_law 586 = .ok (.aload_n 2, 1) := by decide +kernel
theorem dL_law_587 : decode cL_law 587 = .ok (.invokevirtual 93, 3) := by decide +kernel
theorem dL_law_590 : decode cL_law 590 = .ok (.if_icmp .eq 54, 3) := by decide +kernel
theorem dL_law_593 : decode cL_law 593 = .ok (.iconst 0, 1) := by decide +kernel
theorem dL_law_594 : decode cL_law 594 = .ok (.ireturn, 1) := by decide +kernel
theorem dL_law_595 : decode cL_law 595 = .ok (.aload_n 1, 1) := by decide +kernel
theorem dL_law_596 : decode cL_law 596 = .ok (.invokevirtual 94, 3) := by decide +kernel
theorem dL_law_599 : decode cL_law 599 = .ok (.aload_n 2, 1) := by decide +kernel
theorem dL_law_600 : decode cL_law 600 = .ok (.invokevirtual 97, 3) := by decide +kernel
theorem dL_law_603 : decode cL_law 603 = .ok (.if_icmp .eq 41, 3) := by decide +kernel
theorem dL_law_606 : decode cL_law 606 = .ok (.iconst 0, 1) := by decide +kernel
theorem dL_law_607 : decode cL_law 607 = .ok (.ireturn, 1) := by decide +kernel
theorem dL_law_608 : decode cL_law 608 = .ok (.aload_n 1, 1) := by decide +kernel
theorem dL_law_609 : decode cL_law 609 = .ok (.aload_n 0, 1) := by decide +kernel
theorem dL_law_610 : decode cL_law 610 = .ok (.iload_n 3, 1) := by decide +kernel
theorem dL_law_611 : decode cL_law 611 = .ok (.iconst 1, 1) := by decide +kernel
theorem dL_law_612 : decode cL_law 612 = .ok (.iadd, 1) := by decide +kernel
theorem dL_law_613 : decode cL_law 613 = .ok (.iaload, 1) := by decide +kernel
theorem dL_law_614 : decode cL_law 614 = .ok (.invokevirtual 98, 3) := by decide +kernel
theorem dL_law_617 : decode cL_law 617 = .ok (.aload_n 2, 1) := by decide +kernel
theorem dL_law_618 : decode cL_law 618 = .ok (.aload_n 0, 1) := by decide +kernel
theorem dL_law_619 : decode cL_law 619 = .ok (.iload_n 3, 1) := by decide +kernel
theorem dL_law_620 : decode cL_law 620 = .ok (.iconst 1, 1) := by decide +kernel
theorem dL_law_621 : decode cL_law 621 = .ok (.iadd, 1) := by decide +kernel
theorem dL_law_622 : decode cL_law 622 = .ok (.iaload, 1) := by decide +kernel
theorem dL_law_623 : decode cL_law 623 = .ok (.invokevirtual 101, 3) := by decide +kernel
theorem dL_law_626 : decode cL_law 626 = .ok (.if_icmp .eq 18, 3) := by decide +kernel
theorem dL_law_629 : decode cL_law 629 = .ok (.iconst 0, 1) := by decide +kernel
theorem dL_law_630 : decode cL_law 630 = .ok (.ireturn, 1) := by decide +kernel
theorem dL_law_631 : decode cL_law 631 = .ok (.aload_n 1, 1) := by decide +kernel
theorem dL_law_632 : decode cL_law 632 = .ok (.invokevirtual 102, 3) := by decide +kernel
theorem dL_law_635 : decode cL_law 635 = .ok (.aload_n 2, 1) := by decide +kernel
theorem dL_law_636 : decode cL_law 636 = .ok (.invokevirtual 105, 3) := by decide +kernel
theorem dL_law_639 : decode cL_law 639 = .ok (.if_icmp .eq 5, 3) := by decide +kernel
theorem dL_law_642 : decode cL_law 642 = .ok (.iconst 0, 1) := by decide +kernel
theorem dL_law_643 : decode cL_law 643 = .ok (.ireturn, 1) := by decide +kernel
theorem dL_law_644 : decode cL_law 644 = .ok (.iinc 3 4, 3) := by decide +kernel
theorem dL_law_647 : decode cL_law 647 = .ok (.goto (-629), 3) := by decide +kernel
theorem dL_law_650 : decode cL_law 650 = .ok (.iconst 1, 1) := by decide +kernel
theorem dL_law_651 : decode cL_law 651 = .ok (.ireturn, 1) := by decide +kernel
end
section
/-! THE PURE HEAP. G = (base, types, script's cell, its length, its ints); n: the heap's size; i, r: the plane of ints, the plane of references (address, place). -/
abbrev GG : Type := Nat × (Nat → Nat × Nat) × Nat × Nat × (Nat → Int32)
abbrev IP : Type := Nat → Nat → Int32
abbrev RP : Type := Nat → Nat → Option Nat
abbrev QP : Type := Option Value → Nat → IP → RP → Prop
def cT : Nat → vw_C := fun t => match t with
  | 0 => (RX0, TX0, 7)
  | 1 => (RX1, TX1, 11)
  | 2 => (RX2, TX2, 6)
  | 3 => (RX3, TX3, 9)
  | 4 => (RX4, TX4, 14)
  | 5 => (RX5, TX5, 9)
  | _ => (RX6, TX6, 13)
def fT : Nat → Nat → FieldType := fun t k => match t with
  | 0 => tyX0 k
  | 1 => tyX1 k
  | 2 => tyX2 k
  | 3 => tyX3 k
  | 4 => tyX4 k
  | 5 => tyX5 k
  | 6 => tyX6 k
  | 7 => .int
  | 8 => .char
  | 9 => .object RX0
  | 10 => .object RX1
  | 11 => .object RX2
  | _ => .object RX4
def isR : FieldType → Bool
  | .object _ => true
  | .array _ => true
  | _ => false
def vl (t k : Nat) (x : Int32) (o : Option Nat) : Value := if isR (fT t k) = true then va_rf o else .int x
def nS (t : Nat × Nat) : Nat := if t.1 < 7 then (cT t.1).2.2 else t.2
def Cel (U : State) (H : Heap) (a : Nat) (t : Nat × Nat) (i : Nat → Int32) (r : Nat → Option Nat) : Prop :=
  (∀ k, k < nS t → isR (fT t.1 k) = false → narrow (fT t.1 k) (.int (i k)) = .int (i k)) ∧
  (t.1 < 7 → ∃ (cC : ClassId) (iS : Nat → Nat), u_Kn U (cT t.1).1 (cT t.1).2.1 (cT t.1).2.2 cC iS ∧ t_OB a cC (cT t.1).2.2 iS H (fun k => vl t.1 k (i k) (r k))) ∧
  (7 ≤ t.1 → ∃ cA : ClassId, H[a]? = some (arrV cA t.2 (fun k => vl t.1 k (i k) (r k))) ∧ ArrOfT U cA (fT t.1 0) ∧ va_RA U cA (fT t.1 0))
theorem Cel.moved {u U : State} {H : Heap} {a : Nat} {t : Nat × Nat} {i : Nat → Int32} {r : Nat → Option Nat} (hvm : u.vm.Alike U.vm) (h : Cel u H a t i r) : Cel U H a t i r := by
  obtain ⟨h1, h2, h3⟩ := h
  refine ⟨h1, fun ht => ?_, fun ht => ?_⟩
  · obtain ⟨cC, iS, a1, a2⟩ := h2 ht
    exact ⟨cC, iS, u_Kn_moved hvm a1, a2⟩
  · obtain ⟨cA, a1, a2, a3⟩ := h3 ht
    exact ⟨cA, a1, arrOfT_moved hvm a2, a3.moved hvm⟩
theorem Cel.kept {U : State} {H H1 : Heap} {a : Nat} {t : Nat × Nat} {i : Nat → Int32} {r : Nat → Option Nat} (h : Cel U H a t i r) (hq : H1[a]? = H[a]?) : Cel U H1 a t i r := by
  obtain ⟨h1, h2, h3⟩ := h
  refine ⟨h1, fun ht => ?_, fun ht => ?_⟩
  · obtain ⟨cC, iS, a1, a2⟩ := h2 ht
    exact ⟨cC, iS, a1, a2.kept hq⟩
  · obtain ⟨cA, a1, a2, a3⟩ := h3 ht
    exact ⟨cA, hq.trans a1, a2, a3⟩
def Abs (G : GG) (U : State) (H : Heap) (n : Nat) (i : IP) (r : RP) : Prop :=
  H.size = n ∧ G.1 ≤ n ∧ (∀ a, G.1 ≤ a → a < n → Cel U H a (G.2.1 a) (i a) (r a)) ∧ va_X G.2.2.1 G.2.2.2.1 G.2.2.2.2 U H ∧ G.2.2.1 < G.1
theorem Abs.moved {G : GG} {u U : State} {H : Heap} {n : Nat} {i : IP} {r : RP} (hvm : u.vm.Alike U.vm) (h : Abs G u H n i r) : Abs G U H n i r :=
  ⟨h.1, h.2.1, fun a h1 h2 => (h.2.2.1 a h1 h2).moved hvm, h.2.2.2.1.moved hvm, h.2.2.2.2⟩
def ups {α : Type} (f : Nat → Nat → α) (a k : Nat) (v : α) : Nat → Nat → α := fun a' k' => if a' = a ∧ k' = k then v else f a' k'
def upa {α : Type} (f : Nat → Nat → α) (a : Nat) (v : α) : Nat → Nat → α := fun a' k' => if a' = a then v else f a' k'
theorem ups_s {α : Type} {f : Nat → Nat → α} {a k : Nat} {v : α} : ups f a k v a k = v := by simp [ups]
theorem ups_a {α : Type} {f : Nat → Nat → α} {a k a' k' : Nat} {v : α} (h : a' ≠ a) : ups f a k v a' k' = f a' k' := by simp [ups, h]
theorem ups_k {α : Type} {f : Nat → Nat → α} {a k a' k' : Nat} {v : α} (h : k' ≠ k) : ups f a k v a' k' = f a' k' := by simp [ups, h]
theorem ups_row {α : Type} {f : Nat → Nat → α} {a k a' : Nat} {v : α} (h : a' ≠ a) : ups f a k v a' = f a' := by funext q; simp [ups, h]
theorem upa_s {α : Type} {f : Nat → Nat → α} {a k : Nat} {v : α} : upa f a v a k = v := by simp [upa]
theorem upa_a {α : Type} {f : Nat → Nat → α} {a a' k' : Nat} {v : α} (h : a' ≠ a) : upa f a v a' k' = f a' k' := by simp [upa, h]
theorem upa_row {α : Type} {f : Nat → Nat → α} {a a' : Nat} {v : α} (h : a' ≠ a) : upa f a v a' = f a' := by funext q; simp [upa, h]
/-- an address of a kind -/
def Ok (G : GG) (n a t : Nat) : Prop := G.1 ≤ a ∧ a < n ∧ (G.2.1 a).1 = t
theorem Ok.mono {G : GG} {n m a t : Nat} (h : Ok G n a t) (hm : n ≤ m) : Ok G m a t := ⟨h.1, Nat.lt_of_lt_of_le h.2.1 hm, h.2.2⟩
/-! locals -/
def lget : List (Option Value) → Nat → Option Value
  | [], _ => none
  | x :: _, 0 => x
  | _ :: t, k + 1 => lget t k
def lset : List (Option Value) → Nat → Value → List (Option Value)
  | [], _, _ => []
  | _ :: t, 0, v => some v :: t
  | x :: t, k + 1, v => x :: lset t k v
def lclr : List (Option Value) → Nat → List (Option Value)
  | [], _ => []
  | _ :: t, 0 => none :: t
  | x :: t, k + 1 => x :: lclr t k
theorem lset_len (l : List (Option Value)) (k : Nat) (v : Value) : (lset l k v).length = l.length := by
  induction l generalizing k with
  | nil => rfl
  | cons x t ih => cases k <;> simp [lset, ih]
theorem lclr_len (l : List (Option Value)) (k : Nat) : (lclr l k).length = l.length := by
  induction l generalizing k with
  | nil => rfl
  | cons x t ih => cases k <;> simp [lclr, ih]
theorem lget_set (l : List (Option Value)) (k : Nat) (v : Value) (q : Nat) {w : Value} (h : lget (lset l k v) q = some w) : (q = k ∧ w = v) ∨ (q ≠ k ∧ lget l q = some w) := by
  induction l generalizing k q with
  | nil => simp [lset, lget] at h
  | cons x t ih =>
    cases k with
    | zero =>
      cases q with
      | zero => simp [lset, lget] at h; exact Or.inl ⟨rfl, h.symm⟩
      | succ q => exact Or.inr ⟨by omega, h⟩
    | succ k =>
      cases q with
      | zero => exact Or.inr ⟨by omega, h⟩
      | succ q =>
        rcases ih k q h with ⟨a, b⟩ | ⟨a, b⟩
        · exact Or.inl ⟨by omega, b⟩
        · exact Or.inr ⟨by omega, b⟩
theorem lget_clr (l : List (Option Value)) (k : Nat) (q : Nat) {w : Value} (h : lget (lclr l k) q = some w) : lget l q = some w := by
  induction l generalizing k q with
  | nil => simp [lclr, lget] at h
  | cons x t ih =>
    cases k with
    | zero =>
      cases q with
      | zero => simp [lclr, lget] at h
      | succ q => exact h
    | succ k =>
      cases q with
      | zero => exact h
      | succ q => exact ih k q h
theorem lget_lt {l : List (Option Value)} {q : Nat} {w : Value} (h : lget l q = some w) : q < l.length := by
  induction l generalizing q with
  | nil => simp [lget] at h
  | cons x t ih =>
    cases q with
    | zero => simp
    | succ q => have := ih h; simp; omega
def lentry (As : List Value) (nL : Nat) : List (Option Value) := As.map some ++ List.replicate (nL - As.length) none
def Lcl (ls : Array Slot) (nL : Nat) (lo : List (Option Value)) : Prop := ls.size = nL ∧ lv_wf ls ∧ lo.length = nL ∧ ∀ k v, lget lo k = some v → ls[k]? = some (.val v) ∧ v.category = 1
def lenum (lo : List (Option Value)) : List (Nat × Value) := (List.range lo.length).filterMap (fun k => (lget lo k).map (fun v => (k, v)))
theorem lenum_mem {lo : List (Option Value)} {k : Nat} {v : Value} : (k, v) ∈ lenum lo ↔ lget lo k = some v := by
  unfold lenum
  rw [List.mem_filterMap]
  constructor
  · rintro ⟨q, -, h⟩
    cases hq : lget lo q with
    | none => rw [hq] at h; cases h
    | some w => rw [hq] at h; cases h; exact hq
  · intro h
    exact ⟨k, List.mem_range.mpr (lget_lt h), by rw [h]; rfl⟩
theorem Lcl.enum {ls : Array Slot} {nL : Nat} {lo : List (Option Value)} (h : Lcl ls nL lo) : lv_has ls nL (lenum lo) := by
  refine ⟨h.1, h.2.1, fun q hq => ?_⟩
  obtain ⟨k, v⟩ := q
  exact (h.2.2.2 k v (lenum_mem.mp hq)).1
theorem Lcl.stored {ls ls' : Array Slot} {nL k : Nat} {v : Value} {lo : List (Option Value)} (h : Lcl ls nL lo) (hc : v.category = 1) (h' : lv_has ls' nL ((k, v) :: (lenum lo).filter (fun q => !(q.1 == k) && !(q.1 + 1 == k && q.2.category == 2)))) : Lcl ls' nL (lset lo k v) := by
  refine ⟨h'.1, h'.2.1, (lset_len _ _ _).trans h.2.2.1, fun q w hq => ?_⟩
  rcases lget_set lo k v q hq with ⟨rfl, rfl⟩ | ⟨hne, hw⟩
  · exact ⟨h'.2.2 _ List.mem_cons_self, hc⟩
  · have hcw := (h.2.2.2 q w hw).2
    refine ⟨h'.2.2 (q, w) (List.mem_cons_of_mem _ (List.mem_filter.mpr ⟨lenum_mem.mpr hw, ?_⟩)), hcw⟩
    simp [hne, hcw]
theorem Lcl.clr {ls : Array Slot} {nL : Nat} {lo : List (Option Value)} (h : Lcl ls nL lo) (k : Nat) : Lcl ls nL (lclr lo k) :=
  ⟨h.1, h.2.1, (lclr_len _ _).trans h.2.2.1, fun q w hq => h.2.2.2 q w (lget_clr lo k q hq)⟩
theorem rf_cat (o : Option Nat) : (va_rf o).category = 1 := by cases o <;> rfl
def catOk (As : List Value) : Prop := ∀ v ∈ As, v.category = 1
theorem cat_nil : catOk [] := fun _ h => by cases h
theorem cat_i {x : Int32} {As : List Value} (h : catOk As) : catOk (.int x :: As) := fun v hv => by
  rcases List.mem_cons.mp hv with rfl | q
  · rfl
  · exact h v q
theorem cat_r {x : Nat} {As : List Value} (h : catOk As) : catOk (.ref x :: As) := fun v hv => by
  rcases List.mem_cons.mp hv with rfl | q
  · rfl
  · exact h v q
theorem cat_n {As : List Value} (h : catOk As) : catOk (.null :: As) := fun v hv => by
  rcases List.mem_cons.mp hv with rfl | q
  · rfl
  · exact h v q
theorem cat_o {o : Option Nat} {As : List Value} (h : catOk As) : catOk (va_rf o :: As) := fun v hv => by
  rcases List.mem_cons.mp hv with rfl | q
  · exact rf_cat o
  · exact h v q
theorem lg_sl1 {As : List Value} (h : catOk As) : lg_sl As = As.map Slot.val := by
  induction As with
  | nil => rfl
  | cons v t ih =>
    have h1 := h v List.mem_cons_self
    have h2 := ih (fun w hw => h w (List.mem_cons_of_mem _ hw))
    unfold lg_sl at h2 ⊢
    rw [List.flatMap_cons, h2, if_neg (by omega)]
    rfl
theorem lget_app (As : List Value) (q nN : Nat) {w : Value} (h : lget (As.map some ++ List.replicate nN none) q = some w) : As[q]? = some w := by
  induction As generalizing q with
  | nil =>
    exfalso
    simp only [List.map_nil, List.nil_append] at h
    induction nN generalizing q with
    | zero => simp [lget] at h
    | succ nN ih =>
      rw [List.replicate_succ] at h
      cases q with
      | zero => simp [lget] at h
      | succ q => exact ih q h
  | cons v t ih =>
    cases q with
    | zero => simp [lget] at h; simp [h]
    | succ q => simpa using ih q h
theorem lv_args_1 {As : List Value} (h : catOk As) (p q : Nat) {w : Value} (hq : As[q]? = some w) : (p + q, w) ∈ lv_args p As := by
  induction As generalizing p q with
  | nil => simp at hq
  | cons v t ih =>
    have h1 := h v List.mem_cons_self
    simp only [lv_args, h1]
    cases q with
    | zero =>
      simp at hq
      subst hq
      exact List.mem_cons_self
    | succ q =>
      refine List.mem_cons_of_mem _ ?_
      have := ih (fun w hw => h w (List.mem_cons_of_mem _ hw)) (p + 1) q (by simpa using hq)
      rw [show p + (q + 1) = p + 1 + q by omega]
      exact this
theorem Lcl.entry {As : List Value} {nL : Nat} (h : catOk As) (hl : As.length ≤ nL) : Lcl ((lg_sl As ++ List.replicate (nL - (lg_sl As).length) Slot.unset).toArray) nL (lentry As nL) := by
  have e := lg_sl1 h
  have el : (lg_sl As).length = As.length := by rw [e, List.length_map]
  have hv := lv_entry As (n := nL) (by rw [el]; exact hl)
  refine ⟨hv.1, hv.2.1, by simp [lentry]; omega, fun q w hq => ?_⟩
  have h1 : As[q]? = some w := lget_app As q _ hq
  refine ⟨hv.2.2 (q, w) ?_, h w (List.mem_of_getElem? h1)⟩
  have := lv_args_1 h 0 q h1
  rwa [Nat.zero_add] at this
/-- words that a warmed table keeps, though they aren't good words -/
def Ex (U : State) : Prop := va_Nw (.methodLinkNest RX4 38 yX1_init "CoinErrands") U ∧ va_Nw (.methodLinkNest RX4 39 yX2_init "CoinErrands") U ∧ va_Nw (.methodLinkNest RX5 32 yX3_init "CoinErrands") U ∧ va_Nw (.methodLinkNest RX4 134 yX5_isHouse "CoinErrands") U ∧ va_AO RX0 U ∧ va_AO RX1 U ∧ va_AO RX2 U ∧ va_AO RX4 U
theorem Ex.warm {s U : State} (hW : s.WarmedH U.vm) (h : Ex s) : Ex U := by
  obtain ⟨h1, h2, h3, h4, h5, h6, h7, h8⟩ := h
  exact ⟨h1.warmM hW, h2.warmM hW, h3.warmM hW, h4.warmM hW, h5.moved hW.alike, h6.moved hW.alike, h7.moved hW.alike, h8.moved hW.alike⟩
theorem Ex.same {s U : State} (hv : s.vm = U.vm) (h : Ex s) : Ex U := by
  obtain ⟨h1, h2, h3, h4, h5, h6, h7, h8⟩ := h
  have ha : s.vm.Alike U.vm := by rw [hv]; exact Vm.Alike.refl U.vm
  exact ⟨h1.same rfl hv, h2.same rfl hv, h3.same rfl hv, h4.same rfl hv, h5.moved ha, h6.moved ha, h7.moved ha, h8.moved ha⟩
/-! the judgement -/
def Ctx (p : Program) (s : State) (m : MethodId) (args : Array Value) (meth : Method) (c : Code) (Y : AM) : Prop :=
  p.tables.exec = Jvm.exec ∧ c.code = Y.2.1 ∧ meth.sig.returnType = Y.2.2.2 ∧ c.maxLocals = Y.2.2.1 ∧ s.vm.findClass Y.1.cls = some m.cls ∧ (∀ w ∈ lw_gd, w.before args s = true) ∧ meth.locks = false ∧ meth.name = Y.1.name ∧ Ex s
def Qc (G : GG) (Q : QP) : Array Value → State → Outcome → State → Prop := fun _ st o t =>
  (∃ (v : Option Value) (n : Nat) (i : IP) (r : RP), o = .returned v ∧ Abs G t t.heap n i r ∧ Q v n i r) ∧ va_F (fun q => G.1 ≤ q) st t
def EN (G : GG) (Y : AM) (D k j : Nat) (lo : List (Option Value)) (n : Nat) (i : IP) (r : RP) (p : Program) (R : Room) (s : State) (m : MethodId) (args : Array Value) (meth : Method) (c : Code) (H : Heap) (locs : List Loc) (cells slots : Nat) (ls : Array Slot) : Prop :=
  Ctx p s m args meth c Y ∧ (D ≤ R.frames ∧ 32 * D ≤ R.locals ∧ cells + k ≤ R.cells ∧ slots + j ≤ R.slots) ∧ Abs G s H n i r ∧ Lcl ls Y.2.2.1 lo ∧ va_S (fun q => G.1 ≤ q) s.heap H locs ∧ G.1 ≤ s.heap.size
def Go (l : Launch) (G : GG) (Y : AM) (D k j pc : Nat) (lo : List (Option Value)) (st : List Value) (n : Nat) (i : IP) (r : RP) (Q : QP) : Prop :=
  ∀ (p : Program) (e : Env) (R : Room) (s : State) (m : MethodId) (args : Array Value) (below : List Frame) (meth : Method) (c : Code) (H : Heap) (locs : List Loc) (cells slots : Nat) (ls : Array Slot),
    EN G Y D k j lo n i r p R s m args meth c H locs cells slots ls →
    W p l e R s m args below meth c H locs cells slots (MQ below (Qc G Q) args s R.cells R.slots (fun q => G.1 ≤ q)) (F0 m pc ls st)
end
section
/-! rows of the judgement: constants, locals, stack, arithmetic, branches -/
section GOROWS
variable {l : Launch} {G : GG} {Y : AM} {D k j pc z : Nat} {lo : List (Option Value)} {st : List Value} {n : Nat} {i : IP} {r : RP} {Q : QP}
theorem go_iconst {q : Int} {v : Int32} (hd : decode Y.2.1 pc = .ok (.iconst q, 1)) (hz : pc + 1 = z) (hv : Int32.ofInt q = v) (K : Go l G Y D k j z lo (.int v :: st) n i r Q) : Go l G Y D k j pc lo st n i r Q := by
  subst hz
  intro p e R s m args below meth c H locs cells slots ls E
  exact lv_iconst E.1.1 E.1.2.1 hd hv (K p e R s m args below meth c H locs cells slots ls E)
theorem go_bipush {q : Int} {v : Int32} (hd : decode Y.2.1 pc = .ok (.bipush q, 2)) (hz : pc + 2 = z) (hv : (Int8.ofInt q).toInt32 = v) (K : Go l G Y D k j z lo (.int v :: st) n i r Q) : Go l G Y D k j pc lo st n i r Q := by
  subst hz
  intro p e R s m args below meth c H locs cells slots ls E
  exact lv_bipush E.1.1 E.1.2.1 hd hv (K p e R s m args below meth c H locs cells slots ls E)
theorem go_sipush {q : Int} {v : Int32} (hd : decode Y.2.1 pc = .ok (.sipush q, 3)) (hz : pc + 3 = z) (hv : (Int16.ofInt q).toInt32 = v) (K : Go l G Y D k j z lo (.int v :: st) n i r Q) : Go l G Y D k j pc lo st n i r Q := by
  subst hz
  intro p e R s m args below meth c H locs cells slots ls E
  exact lv_sipush E.1.1 E.1.2.1 hd hv (K p e R s m args below meth c H locs cells slots ls E)
theorem go_ldc {q : Nat} {v : Int32} (hd : decode Y.2.1 pc = .ok (.ldc q, 2)) (hz : pc + 2 = z) (hw : Cond.constant Y.1.cls q v ∈ lw_gd) (K : Go l G Y D k j z lo (.int v :: st) n i r Q) : Go l G Y D k j pc lo st n i r Q := by
  subst hz
  intro p e R s m args below meth c H locs cells slots ls E
  exact lv_ldc E.1.1 E.1.2.1 E.1.2.2.2.2.1 (E.1.2.2.2.2.2.1 _ hw) hd (K p e R s m args below meth c H locs cells slots ls E)
theorem go_null (hd : decode Y.2.1 pc = .ok (.aconst_null, 1)) (hz : pc + 1 = z) (K : Go l G Y D k j z lo (.null :: st) n i r Q) : Go l G Y D k j pc lo st n i r Q := by
  subst hz
  intro p e R s m args below meth c H locs cells slots ls E
  exact lv_null E.1.1 E.1.2.1 hd (K p e R s m args below meth c H locs cells slots ls E)
theorem go_iload_n {q : Fin 4} {x : Int32} (hd : decode Y.2.1 pc = .ok (.iload_n q, 1)) (hz : pc + 1 = z) (hl : lget lo q = some (.int x)) (K : Go l G Y D k j z lo (.int x :: st) n i r Q) : Go l G Y D k j pc lo st n i r Q := by
  subst hz
  intro p e R s m args below meth c H locs cells slots ls E
  exact lv_iload_n E.1.1 E.1.2.1 hd rfl (E.2.2.2.1.2.2.2 _ _ hl).1 (K p e R s m args below meth c H locs cells slots ls E)
theorem go_iload {q : Nat} {x : Int32} (hd : decode Y.2.1 pc = .ok (.iload q, 2)) (hz : pc + 2 = z) (hl : lget lo q = some (.int x)) (K : Go l G Y D k j z lo (.int x :: st) n i r Q) : Go l G Y D k j pc lo st n i r Q := by
  subst hz
  intro p e R s m args below meth c H locs cells slots ls E
  exact lv_iload E.1.1 E.1.2.1 hd (E.2.2.2.1.2.2.2 _ _ hl).1 (K p e R s m args below meth c H locs cells slots ls E)
theorem go_aload_n {q : Fin 4} {x : Nat} (hd : decode Y.2.1 pc = .ok (.aload_n q, 1)) (hz : pc + 1 = z) (hl : lget lo q = some (.ref x)) (K : Go l G Y D k j z lo (.ref x :: st) n i r Q) : Go l G Y D k j pc lo st n i r Q := by
  subst hz
  intro p e R s m args below meth c H locs cells slots ls E
  exact lv_aload_n E.1.1 E.1.2.1 hd rfl (E.2.2.2.1.2.2.2 _ _ hl).1 (K p e R s m args below meth c H locs cells slots ls E)
theorem go_aload_nN {q : Fin 4} (hd : decode Y.2.1 pc = .ok (.aload_n q, 1)) (hz : pc + 1 = z) (hl : lget lo q = some .null) (K : Go l G Y D k j z lo (.null :: st) n i r Q) : Go l G Y D k j pc lo st n i r Q := by
  subst hz
  intro p e R s m args below meth c H locs cells slots ls E
  exact lv_aload_nN E.1.1 E.1.2.1 hd rfl (E.2.2.2.1.2.2.2 _ _ hl).1 (K p e R s m args below meth c H locs cells slots ls E)
theorem go_aload_nO {q : Fin 4} {o : Option Nat} (hd : decode Y.2.1 pc = .ok (.aload_n q, 1)) (hz : pc + 1 = z) (hl : lget lo q = some (va_rf o)) (K : Go l G Y D k j z lo (va_rf o :: st) n i r Q) : Go l G Y D k j pc lo st n i r Q := by
  cases o with
  | none => exact go_aload_nN hd hz hl K
  | some x => exact go_aload_n hd hz hl K
theorem go_aload {q : Nat} {x : Nat} (hd : decode Y.2.1 pc = .ok (.aload q, 2)) (hz : pc + 2 = z) (hl : lget lo q = some (.ref x)) (K : Go l G Y D k j z lo (.ref x :: st) n i r Q) : Go l G Y D k j pc lo st n i r Q := by
  subst hz
  intro p e R s m args below meth c H locs cells slots ls E
  exact lv_aload E.1.1 E.1.2.1 hd (E.2.2.2.1.2.2.2 _ _ hl).1 (K p e R s m args below meth c H locs cells slots ls E)
theorem go_aloadN {q : Nat} (hd : decode Y.2.1 pc = .ok (.aload q, 2)) (hz : pc + 2 = z) (hl : lget lo q = some .null) (K : Go l G Y D k j z lo (.null :: st) n i r Q) : Go l G Y D k j pc lo st n i r Q := by
  subst hz
  intro p e R s m args below meth c H locs cells slots ls E
  exact lv_aloadN E.1.1 E.1.2.1 hd (E.2.2.2.1.2.2.2 _ _ hl).1 (K p e R s m args below meth c H locs cells slots ls E)
theorem go_aloadO {q : Nat} {o : Option Nat} (hd : decode Y.2.1 pc = .ok (.aload q, 2)) (hz : pc + 2 = z) (hl : lget lo q = some (va_rf o)) (K : Go l G Y D k j z lo (va_rf o :: st) n i r Q) : Go l G Y D k j pc lo st n i r Q := by
  cases o with
  | none => exact go_aloadN hd hz hl K
  | some x => exact go_aload hd hz hl K
theorem go_istore_n {q : Fin 4} {x : Int32} (hd : decode Y.2.1 pc = .ok (.istore_n q, 1)) (hz : pc + 1 = z) (hq : (q : Nat) < Y.2.2.1) (K : Go l G Y D k j z (lset lo q (.int x)) st n i r Q) : Go l G Y D k j pc lo (.int x :: st) n i r Q := by
  subst hz
  intro p e R s m args below meth c H locs cells slots ls ⟨C, B, A, L, S, hb⟩
  exact lv_istore_n C.1 C.2.1 hd rfl L.enum hq rfl (fun ls' h' => K p e R s m args below meth c H locs cells slots ls' ⟨C, B, A, L.stored rfl h', S, hb⟩)
theorem go_istore {q : Nat} {x : Int32} (hd : decode Y.2.1 pc = .ok (.istore q, 2)) (hz : pc + 2 = z) (hq : q < Y.2.2.1) (K : Go l G Y D k j z (lset lo q (.int x)) st n i r Q) : Go l G Y D k j pc lo (.int x :: st) n i r Q := by
  subst hz
  intro p e R s m args below meth c H locs cells slots ls ⟨C, B, A, L, S, hb⟩
  exact lv_istore C.1 C.2.1 hd L.enum hq rfl (fun ls' h' => K p e R s m args below meth c H locs cells slots ls' ⟨C, B, A, L.stored rfl h', S, hb⟩)
theorem go_astore_n {q : Fin 4} {x : Nat} (hd : decode Y.2.1 pc = .ok (.astore_n q, 1)) (hz : pc + 1 = z) (hq : (q : Nat) < Y.2.2.1) (K : Go l G Y D k j z (lset lo q (.ref x)) st n i r Q) : Go l G Y D k j pc lo (.ref x :: st) n i r Q := by
  subst hz
  intro p e R s m args below meth c H locs cells slots ls ⟨C, B, A, L, S, hb⟩
  exact lv_astore_n C.1 C.2.1 hd rfl L.enum hq rfl (fun ls' h' => K p e R s m args below meth c H locs cells slots ls' ⟨C, B, A, L.stored rfl h', S, hb⟩)
theorem go_astore_nN {q : Fin 4} (hd : decode Y.2.1 pc = .ok (.astore_n q, 1)) (hz : pc + 1 = z) (hq : (q : Nat) < Y.2.2.1) (K : Go l G Y D k j z (lset lo q .null) st n i r Q) : Go l G Y D k j pc lo (.null :: st) n i r Q := by
  subst hz
  intro p e R s m args below meth c H locs cells slots ls ⟨C, B, A, L, S, hb⟩
  exact lv_astore_nN C.1 C.2.1 hd rfl L.enum hq rfl (fun ls' h' => K p e R s m args below meth c H locs cells slots ls' ⟨C, B, A, L.stored rfl h', S, hb⟩)
theorem go_astore_nO {q : Fin 4} {o : Option Nat} (hd : decode Y.2.1 pc = .ok (.astore_n q, 1)) (hz : pc + 1 = z) (hq : (q : Nat) < Y.2.2.1) (K : Go l G Y D k j z (lset lo q (va_rf o)) st n i r Q) : Go l G Y D k j pc lo (va_rf o :: st) n i r Q := by
  cases o with
  | none => exact go_astore_nN hd hz hq K
  | some x => exact go_astore_n hd hz hq K
theorem go_astore {q : Nat} {x : Nat} (hd : decode Y.2.1 pc = .ok (.astore q, 2)) (hz : pc + 2 = z) (hq : q < Y.2.2.1) (K : Go l G Y D k j z (lset lo q (.ref x)) st n i r Q) : Go l G Y D k j pc lo (.ref x :: st) n i r Q := by
  subst hz
  intro p e R s m args below meth c H locs cells slots ls ⟨C, B, A, L, S, hb⟩
  exact lv_astore C.1 C.2.1 hd L.enum hq rfl (fun ls' h' => K p e R s m args below meth c H locs cells slots ls' ⟨C, B, A, L.stored rfl h', S, hb⟩)
theorem go_astoreN {q : Nat} (hd : decode Y.2.1 pc = .ok (.astore q, 2)) (hz : pc + 2 = z) (hq : q < Y.2.2.1) (K : Go l G Y D k j z (lset lo q .null) st n i r Q) : Go l G Y D k j pc lo (.null :: st) n i r Q := by
  subst hz
  intro p e R s m args below meth c H locs cells slots ls ⟨C, B, A, L, S, hb⟩
  exact lv_astoreN C.1 C.2.1 hd L.enum hq rfl (fun ls' h' => K p e R s m args below meth c H locs cells slots ls' ⟨C, B, A, L.stored rfl h', S, hb⟩)
theorem go_astoreO {q : Nat} {o : Option Nat} (hd : decode Y.2.1 pc = .ok (.astore q, 2)) (hz : pc + 2 = z) (hq : q < Y.2.2.1) (K : Go l G Y D k j z (lset lo q (va_rf o)) st n i r Q) : Go l G Y D k j pc lo (va_rf o :: st) n i r Q := by
  cases o with
  | none => exact go_astoreN hd hz hq K
  | some x => exact go_astore hd hz hq K
theorem go_iinc {q : Nat} {y : Int} {x v : Int32} (hd : decode Y.2.1 pc = .ok (.iinc q y, 3)) (hz : pc + 3 = z) (hl : lget lo q = some (.int x)) (hv : x + Int32.ofInt y = v) (hq : q < Y.2.2.1) (K : Go l G Y D k j z (lset lo q (.int v)) st n i r Q) : Go l G Y D k j pc lo st n i r Q := by
  subst hz
  intro p e R s m args below meth c H locs cells slots ls ⟨C, B, A, L, S, hb⟩
  obtain ⟨w, hw⟩ := List.getElem?_of_mem (lenum_mem.mpr hl)
  exact lv_iinc C.1 C.2.1 hd L.enum hw hv hq rfl (fun ls' h' => K p e R s m args below meth c H locs cells slots ls' ⟨C, B, A, L.stored rfl h', S, hb⟩)
theorem go_forget (q : Nat) (K : Go l G Y D k j pc (lclr lo q) st n i r Q) : Go l G Y D k j pc lo st n i r Q := by
  intro p e R s m args below meth c H locs cells slots ls ⟨C, B, A, L, S, hb⟩
  exact K p e R s m args below meth c H locs cells slots ls ⟨C, B, A, L.clr q, S, hb⟩
theorem go_iadd {x y : Int32} (hd : decode Y.2.1 pc = .ok (.iadd, 1)) (hz : pc + 1 = z) (K : Go l G Y D k j z lo (.int (x + y) :: st) n i r Q) : Go l G Y D k j pc lo (.int y :: .int x :: st) n i r Q := by
  subst hz
  intro p e R s m args below meth c H locs cells slots ls E
  exact lv_iadd E.1.1 E.1.2.1 hd (K p e R s m args below meth c H locs cells slots ls E)
theorem go_isub {x y : Int32} (hd : decode Y.2.1 pc = .ok (.isub, 1)) (hz : pc + 1 = z) (K : Go l G Y D k j z lo (.int (x - y) :: st) n i r Q) : Go l G Y D k j pc lo (.int y :: .int x :: st) n i r Q := by
  subst hz
  intro p e R s m args below meth c H locs cells slots ls E
  exact lv_isub E.1.1 E.1.2.1 hd (K p e R s m args below meth c H locs cells slots ls E)
theorem go_imul {x y : Int32} (hd : decode Y.2.1 pc = .ok (.imul, 1)) (hz : pc + 1 = z) (K : Go l G Y D k j z lo (.int (x * y) :: st) n i r Q) : Go l G Y D k j pc lo (.int y :: .int x :: st) n i r Q := by
  subst hz
  intro p e R s m args below meth c H locs cells slots ls E
  exact lv_imul E.1.1 E.1.2.1 hd (K p e R s m args below meth c H locs cells slots ls E)
theorem go_iand {x y : Int32} (hd : decode Y.2.1 pc = .ok (.iand, 1)) (hz : pc + 1 = z) (K : Go l G Y D k j z lo (.int (x &&& y) :: st) n i r Q) : Go l G Y D k j pc lo (.int y :: .int x :: st) n i r Q := by
  subst hz
  intro p e R s m args below meth c H locs cells slots ls E
  exact lv_iand E.1.1 E.1.2.1 hd (K p e R s m args below meth c H locs cells slots ls E)
theorem go_ineg {x v : Int32} (hd : decode Y.2.1 pc = .ok (.ineg, 1)) (hz : pc + 1 = z) (hv : -x = v) (K : Go l G Y D k j z lo (.int v :: st) n i r Q) : Go l G Y D k j pc lo (.int x :: st) n i r Q := by
  subst hz hv
  intro p e R s m args below meth c H locs cells slots ls E
  exact lv_ineg E.1.1 E.1.2.1 hd (K p e R s m args below meth c H locs cells slots ls E)
theorem go_ishl {x y v : Int32} (hd : decode Y.2.1 pc = .ok (.ishl, 1)) (hz : pc + 1 = z) (hv : x <<< (y &&& 31) = v) (K : Go l G Y D k j z lo (.int v :: st) n i r Q) : Go l G Y D k j pc lo (.int y :: .int x :: st) n i r Q := by
  subst hz hv
  intro p e R s m args below meth c H locs cells slots ls E
  exact lv_ishl E.1.1 E.1.2.1 hd (K p e R s m args below meth c H locs cells slots ls E)
theorem go_idiv {x y : Int32} (hd : decode Y.2.1 pc = .ok (.idiv, 1)) (hz : pc + 1 = z) (hy : ¬ y = 0) (K : Go l G Y D k j z lo (.int (x / y) :: st) n i r Q) : Go l G Y D k j pc lo (.int y :: .int x :: st) n i r Q := by
  subst hz
  intro p e R s m args below meth c H locs cells slots ls E
  exact lv_idiv E.1.1 E.1.2.1 hd hy (K p e R s m args below meth c H locs cells slots ls E)
theorem go_irem {x y v : Int32} (hd : decode Y.2.1 pc = .ok (.irem, 1)) (hz : pc + 1 = z) (hy : ¬ y = 0) (hv : x - x / y * y = v) (K : Go l G Y D k j z lo (.int v :: st) n i r Q) : Go l G Y D k j pc lo (.int y :: .int x :: st) n i r Q := by
  subst hz hv
  intro p e R s m args below meth c H locs cells slots ls E
  exact lv_irem E.1.1 E.1.2.1 hd hy (K p e R s m args below meth c H locs cells slots ls E)
theorem go_i2c {x v : Int32} (hd : decode Y.2.1 pc = .ok (.i2c, 1)) (hz : pc + 1 = z) (hv : (x.toUInt32 % 65536).toInt32 = v) (K : Go l G Y D k j z lo (.int v :: st) n i r Q) : Go l G Y D k j pc lo (.int x :: st) n i r Q := by
  subst hz
  intro p e R s m args below meth c H locs cells slots ls E
  exact lv_i2c E.1.1 E.1.2.1 hd hv (K p e R s m args below meth c H locs cells slots ls E)
theorem go_dup {v : Value} (hd : decode Y.2.1 pc = .ok (.dup, 1)) (hz : pc + 1 = z) (hc : v.category = 1) (K : Go l G Y D k j z lo (v :: v :: st) n i r Q) : Go l G Y D k j pc lo (v :: st) n i r Q := by
  subst hz
  intro p e R s m args below meth c H locs cells slots ls E
  exact lv_dup E.1.1 E.1.2.1 hd hc (K p e R s m args below meth c H locs cells slots ls E)
theorem go_dup2 {v w : Value} (hd : decode Y.2.1 pc = .ok (.dup2, 1)) (hz : pc + 1 = z) (hc : v.category = 1) (hc2 : w.category = 1) (K : Go l G Y D k j z lo (v :: w :: v :: w :: st) n i r Q) : Go l G Y D k j pc lo (v :: w :: st) n i r Q := by
  subst hz
  intro p e R s m args below meth c H locs cells slots ls E
  exact lv_dup2_11 E.1.1 E.1.2.1 hd hc hc2 (K p e R s m args below meth c H locs cells slots ls E)
theorem go_goto {o : Int} (hd : decode Y.2.1 pc = .ok (.goto o, 3)) (hz : (pc : Int) + o = (z : Int)) (K : Go l G Y D k j z lo st n i r Q) : Go l G Y D k j pc lo st n i r Q := by
  intro p e R s m args below meth c H locs cells slots ls E
  exact lv_goto E.1.1 E.1.2.1 hd hz (K p e R s m args below meth c H locs cells slots ls E)
theorem go_if_eq {o : Int} {x : Int32} {z2 : Nat} (hd : decode Y.2.1 pc = .ok (.ifCond .eq o, 3)) (hz : pc + 3 = z2) (ht : (pc : Int) + o = (z : Int)) (K1 : x = 0 → Go l G Y D k j z lo st n i r Q) (K2 : ¬ x = 0 → Go l G Y D k j z2 lo st n i r Q) : Go l G Y D k j pc lo (.int x :: st) n i r Q := by
  subst hz
  intro p e R s m args below meth c H locs cells slots ls E
  exact lv_if_eq E.1.1 E.1.2.1 hd ht (fun h => K1 h p e R s m args below meth c H locs cells slots ls E) (fun h => K2 h p e R s m args below meth c H locs cells slots ls E)
theorem go_icmp_eq {o : Int} {x y : Int32} {z2 : Nat} (hd : decode Y.2.1 pc = .ok (.if_icmp .eq o, 3)) (hz : pc + 3 = z2) (ht : (pc : Int) + o = (z : Int)) (K1 : x = y → Go l G Y D k j z lo st n i r Q) (K2 : ¬ x = y → Go l G Y D k j z2 lo st n i r Q) : Go l G Y D k j pc lo (.int y :: .int x :: st) n i r Q := by
  subst hz
  intro p e R s m args below meth c H locs cells slots ls E
  exact lv_icmp_eq E.1.1 E.1.2.1 hd ht (fun h => K1 h p e R s m args below meth c H locs cells slots ls E) (fun h => K2 h p e R s m args below meth c H locs cells slots ls E)
theorem go_if_ne {o : Int} {x : Int32} {z2 : Nat} (hd : decode Y.2.1 pc = .ok (.ifCond .ne o, 3)) (hz : pc + 3 = z2) (ht : (pc : Int) + o = (z : Int)) (K1 : ¬ x = 0 → Go l G Y D k j z lo st n i r Q) (K2 : x = 0 → Go l G Y D k j z2 lo st n i r Q) : Go l G Y D k j pc lo (.int x :: st) n i r Q := by
  subst hz
  intro p e R s m args below meth c H locs cells slots ls E
  exact lv_if_ne E.1.1 E.1.2.1 hd ht (fun h => K1 h p e R s m args below meth c H locs cells slots ls E) (fun h => K2 h p e R s m args below meth c H locs cells slots ls E)
theorem go_icmp_ne {o : Int} {x y : Int32} {z2 : Nat} (hd : decode Y.2.1 pc = .ok (.if_icmp .ne o, 3)) (hz : pc + 3 = z2) (ht : (pc : Int) + o = (z : Int)) (K1 : ¬ x = y → Go l G Y D k j z lo st n i r Q) (K2 : x = y → Go l G Y D k j z2 lo st n i r Q) : Go l G Y D k j pc lo (.int y :: .int x :: st) n i r Q := by
  subst hz
  intro p e R s m args below meth c H locs cells slots ls E
  exact lv_icmp_ne E.1.1 E.1.2.1 hd ht (fun h => K1 h p e R s m args below meth c H locs cells slots ls E) (fun h => K2 h p e R s m args below meth c H locs cells slots ls E)
theorem go_if_lt {o : Int} {x : Int32} {z2 : Nat} (hd : decode Y.2.1 pc = .ok (.ifCond .lt o, 3)) (hz : pc + 3 = z2) (ht : (pc : Int) + o = (z : Int)) (K1 : x < 0 → Go l G Y D k j z lo st n i r Q) (K2 : ¬ x < 0 → Go l G Y D k j z2 lo st n i r Q) : Go l G Y D k j pc lo (.int x :: st) n i r Q := by
  subst hz
  intro p e R s m args below meth c H locs cells slots ls E
  exact lv_if_lt E.1.1 E.1.2.1 hd ht (fun h => K1 h p e R s m args below meth c H locs cells slots ls E) (fun h => K2 h p e R s m args below meth c H locs cells slots ls E)
theorem go_icmp_lt {o : Int} {x y : Int32} {z2 : Nat} (hd : decode Y.2.1 pc = .ok (.if_icmp .lt o, 3)) (hz : pc + 3 = z2) (ht : (pc : Int) + o = (z : Int)) (K1 : x < y → Go l G Y D k j z lo st n i r Q) (K2 : ¬ x < y → Go l G Y D k j z2 lo st n i r Q) : Go l G Y D k j pc lo (.int y :: .int x :: st) n i r Q := by
  subst hz
  intro p e R s m args below meth c H locs cells slots ls E
  exact lv_icmp_lt E.1.1 E.1.2.1 hd ht (fun h => K1 h p e R s m args below meth c H locs cells slots ls E) (fun h => K2 h p e R s m args below meth c H locs cells slots ls E)
theorem go_if_ge {o : Int} {x : Int32} {z2 : Nat} (hd : decode Y.2.1 pc = .ok (.ifCond .ge o, 3)) (hz : pc + 3 = z2) (ht : (pc : Int) + o = (z : Int)) (K1 : 0 ≤ x → Go l G Y D k j z lo st n i r Q) (K2 : ¬ 0 ≤ x → Go l G Y D k j z2 lo st n i r Q) : Go l G Y D k j pc lo (.int x :: st) n i r Q := by
  subst hz
  intro p e R s m args below meth c H locs cells slots ls E
  exact lv_if_ge E.1.1 E.1.2.1 hd ht (fun h => K1 h p e R s m args below meth c H locs cells slots ls E) (fun h => K2 h p e R s m args below meth c H locs cells slots ls E)
theorem go_icmp_ge {o : Int} {x y : Int32} {z2 : Nat} (hd : decode Y.2.1 pc = .ok (.if_icmp .ge o, 3)) (hz : pc + 3 = z2) (ht : (pc : Int) + o = (z : Int)) (K1 : y ≤ x → Go l G Y D k j z lo st n i r Q) (K2 : ¬ y ≤ x → Go l G Y D k j z2 lo st n i r Q) : Go l G Y D k j pc lo (.int y :: .int x :: st) n i r Q := by
  subst hz
  intro p e R s m args below meth c H locs cells slots ls E
  exact lv_icmp_ge E.1.1 E.1.2.1 hd ht (fun h => K1 h p e R s m args below meth c H locs cells slots ls E) (fun h => K2 h p e R s m args below meth c H locs cells slots ls E)
theorem go_if_gt {o : Int} {x : Int32} {z2 : Nat} (hd : decode Y.2.1 pc = .ok (.ifCond .gt o, 3)) (hz : pc + 3 = z2) (ht : (pc : Int) + o = (z : Int)) (K1 : 0 < x → Go l G Y D k j z lo st n i r Q) (K2 : ¬ 0 < x → Go l G Y D k j z2 lo st n i r Q) : Go l G Y D k j pc lo (.int x :: st) n i r Q := by
  subst hz
  intro p e R s m args below meth c H locs cells slots ls E
  exact lv_if_gt E.1.1 E.1.2.1 hd ht (fun h => K1 h p e R s m args below meth c H locs cells slots ls E) (fun h => K2 h p e R s m args below meth c H locs cells slots ls E)
theorem go_icmp_gt {o : Int} {x y : Int32} {z2 : Nat} (hd : decode Y.2.1 pc = .ok (.if_icmp .gt o, 3)) (hz : pc + 3 = z2) (ht : (pc : Int) + o = (z : Int)) (K1 : y < x → Go l G Y D k j z lo st n i r Q) (K2 : ¬ y < x → Go l G Y D k j z2 lo st n i r Q) : Go l G Y D k j pc lo (.int y :: .int x :: st) n i r Q := by
  subst hz
  intro p e R s m args below meth c H locs cells slots ls E
  exact lv_icmp_gt E.1.1 E.1.2.1 hd ht (fun h => K1 h p e R s m args below meth c H locs cells slots ls E) (fun h => K2 h p e R s m args below meth c H locs cells slots ls E)
theorem go_if_le {o : Int} {x : Int32} {z2 : Nat} (hd : decode Y.2.1 pc = .ok (.ifCond .le o, 3)) (hz : pc + 3 = z2) (ht : (pc : Int) + o = (z : Int)) (K1 : x ≤ 0 → Go l G Y D k j z lo st n i r Q) (K2 : ¬ x ≤ 0 → Go l G Y D k j z2 lo st n i r Q) : Go l G Y D k j pc lo (.int x :: st) n i r Q := by
  subst hz
  intro p e R s m args below meth c H locs cells slots ls E
  exact lv_if_le E.1.1 E.1.2.1 hd ht (fun h => K1 h p e R s m args below meth c H locs cells slots ls E) (fun h => K2 h p e R s m args below meth c H locs cells slots ls E)
theorem go_icmp_le {o : Int} {x y : Int32} {z2 : Nat} (hd : decode Y.2.1 pc = .ok (.if_icmp .le o, 3)) (hz : pc + 3 = z2) (ht : (pc : Int) + o = (z : Int)) (K1 : x ≤ y → Go l G Y D k j z lo st n i r Q) (K2 : ¬ x ≤ y → Go l G Y D k j z2 lo st n i r Q) : Go l G Y D k j pc lo (.int y :: .int x :: st) n i r Q := by
  subst hz
  intro p e R s m args below meth c H locs cells slots ls E
  exact lv_icmp_le E.1.1 E.1.2.1 hd ht (fun h => K1 h p e R s m args below meth c H locs cells slots ls E) (fun h => K2 h p e R s m args below meth c H locs cells slots ls E)
theorem go_ifnull {o : Int} {a : Option Nat} {z2 : Nat} (hd : decode Y.2.1 pc = .ok (.ifnull o, 3)) (hz : pc + 3 = z2) (ht : (pc : Int) + o = (z : Int)) (K1 : a = none → Go l G Y D k j z lo st n i r Q) (K2 : ∀ b, a = some b → Go l G Y D k j z2 lo st n i r Q) : Go l G Y D k j pc lo (va_rf a :: st) n i r Q := by
  subst hz
  intro p e R s m args below meth c H locs cells slots ls E
  cases a with
  | none => exact lv_ifnullN E.1.1 E.1.2.1 hd ht (K1 rfl p e R s m args below meth c H locs cells slots ls E)
  | some b => exact lv_ifnull E.1.1 E.1.2.1 hd (K2 b rfl p e R s m args below meth c H locs cells slots ls E)
theorem go_ifnonnull {o : Int} {a : Option Nat} {z2 : Nat} (hd : decode Y.2.1 pc = .ok (.ifnonnull o, 3)) (hz : pc + 3 = z2) (ht : (pc : Int) + o = (z : Int)) (K1 : ∀ b, a = some b → Go l G Y D k j z lo st n i r Q) (K2 : a = none → Go l G Y D k j z2 lo st n i r Q) : Go l G Y D k j pc lo (va_rf a :: st) n i r Q := by
  subst hz
  intro p e R s m args below meth c H locs cells slots ls E
  cases a with
  | none => exact lv_ifnonnullN E.1.1 E.1.2.1 hd (K2 rfl p e R s m args below meth c H locs cells slots ls E)
  | some b => exact lv_ifnonnull E.1.1 E.1.2.1 hd ht (K1 b rfl p e R s m args below meth c H locs cells slots ls E)
theorem go_tabOut {df a b : Int} {os : Array Int} {len : Nat} {x : Int32} (hd : decode Y.2.1 pc = .ok (.tableswitch df a b os, len)) (hx : x.toInt < a ∨ b < x.toInt) (ht : (pc : Int) + df = (z : Int)) (K : Go l G Y D k j z lo st n i r Q) : Go l G Y D k j pc lo (.int x :: st) n i r Q := by
  intro p e R s m args below meth c H locs cells slots ls E
  exact lv_tableOut E.1.1 E.1.2.1 hd hx ht (K p e R s m args below meth c H locs cells slots ls E)
theorem go_tabIn {df a b o : Int} {os : Array Int} {len : Nat} {x : Int32} (q : Int) (hd : decode Y.2.1 pc = .ok (.tableswitch df a b os, len)) (hx : x.toInt = q) (h1 : a ≤ q) (h2 : q ≤ b) (ho : os[(q - a).toNat]? = some o) (ht : (pc : Int) + o = (z : Int)) (K : Go l G Y D k j z lo st n i r Q) : Go l G Y D k j pc lo (.int x :: st) n i r Q := by
  intro p e R s m args below meth c H locs cells slots ls E
  exact lv_tableIn E.1.1 E.1.2.1 hd (by omega) (by omega) (by rw [hx]; exact ho) ht (K p e R s m args below meth c H locs cells slots ls E)
theorem go_eq {n' : Nat} {i' : IP} {r' : RP} (hi : i = i') (hr : r = r') (K : Go l G Y D k j pc lo st n i' r' Q) : Go l G Y D k j pc lo st n i r Q := by subst hi; subst hr; exact K
theorem go_post {Q' : QP} (K : Go l G Y D k j pc lo st n i r Q') (h : ∀ v n' i' r', Q' v n' i' r' → Q v n' i' r') : Go l G Y D k j pc lo st n i r Q := by
  intro p e R s m args below meth c H locs cells slots ls E T hT X
  obtain ⟨t, a, o, b1, b2, ⟨⟨v, n', i', r', c1, c2, c3⟩, c4⟩, b4⟩ := K p e R s m args below meth c H locs cells slots ls E T hT X
  exact ⟨t, a, o, b1, b2, ⟨⟨v, n', i', r', c1, c2, h _ _ _ _ c3⟩, c4⟩, b4⟩
theorem go_less {D' k' j' : Nat} (K : Go l G Y D' k' j' pc lo st n i r Q) (h1 : D' ≤ D) (h2 : k' ≤ k) (h3 : j' ≤ j) : Go l G Y D k j pc lo st n i r Q := by
  intro p e R s m args below meth c H locs cells slots ls ⟨C, ⟨b1, b2, b3, b4⟩, E⟩
  exact K p e R s m args below meth c H locs cells slots ls ⟨C, ⟨by omega, by omega, by omega, by omega⟩, E⟩
end GOROWS
/-! returns -/
section GORET
variable {l : Launch} {G : GG} {Y : AM} {D k j pc : Nat} {lo : List (Option Value)} {n : Nat} {i : IP} {r : RP} {Q : QP}
theorem go_iret {x : Int32} (hd : decode Y.2.1 pc = .ok (.ireturn, 1)) (hr : Y.2.2.2 = some .int) (hq : Q (some (.int x)) n i r) : Go l G Y D k j pc lo [.int x] n i r Q := by
  intro p e R s m args below meth c H locs cells slots ls ⟨C, B, A, L, S, hb⟩
  refine W.widen (k := R.cells) (n := R.slots) (by omega) (by omega) ?_
  have hlocks := C.2.2.2.2.2.2.1
  exact W.iret C.1 C.2.1 (C.2.2.1.trans hr) (fun t ht hW => ⟨⟨_, n, i, r, rfl, by rw [ht]; exact A.moved hW.alike, hq⟩, S.F ht⟩) S.2.2 hd
theorem go_zret {x : Int32} (hd : decode Y.2.1 pc = .ok (.ireturn, 1)) (hr : Y.2.2.2 = some .boolean) (hx : narrow .boolean (.int x) = .int x) (hq : Q (some (.int x)) n i r) : Go l G Y D k j pc lo [.int x] n i r Q := by
  intro p e R s m args below meth c H locs cells slots ls ⟨C, B, A, L, S, hb⟩
  refine W.widen (k := R.cells) (n := R.slots) (by omega) (by omega) ?_
  have hlocks := C.2.2.2.2.2.2.1
  exact W.zret C.1 C.2.1 (C.2.2.1.trans hr) hx (fun t ht hW => ⟨⟨_, n, i, r, rfl, by rw [ht]; exact A.moved hW.alike, hq⟩, S.F ht⟩) S.2.2 hd
theorem go_vret (hd : decode Y.2.1 pc = .ok (.return_, 1)) (hr : Y.2.2.2 = none) (hq : Q none n i r) : Go l G Y D k j pc lo [] n i r Q := by
  intro p e R s m args below meth c H locs cells slots ls ⟨C, B, A, L, S, hb⟩
  refine W.widen (k := R.cells) (n := R.slots) (by omega) (by omega) ?_
  have hlocks := C.2.2.2.2.2.2.1
  exact W.vret C.1 C.2.1 (C.2.2.1.trans hr) (fun t ht hW => ⟨⟨_, n, i, r, rfl, by rw [ht]; exact A.moved hW.alike, hq⟩, S.F ht⟩) S.2.2 hd
theorem go_aret {o : Option Nat} {rt : String} (hd : decode Y.2.1 pc = .ok (.areturn, 1)) (hr : Y.2.2.2 = some (.object rt)) (hq : Q (some (va_rf o)) n i r) : Go l G Y D k j pc lo [va_rf o] n i r Q := by
  intro p e R s m args below meth c H locs cells slots ls ⟨C, B, A, L, S, hb⟩
  refine W.widen (k := R.cells) (n := R.slots) (by omega) (by omega) ?_
  have hlocks := C.2.2.2.2.2.2.1
  exact W.aret C.1 C.2.1 (C.2.2.1.trans hr) (Or.inl ⟨_, rfl⟩) (by cases o with | none => exact Or.inl rfl | some a => exact Or.inr ⟨a, rfl⟩) (fun t ht hW => ⟨⟨_, n, i, r, rfl, by rw [ht]; exact A.moved hW.alike, hq⟩, S.F ht⟩) S.2.2 hd
end GORET
end
section
/-! heap rows -/
theorem inT (t : Nat) (ht : t < 7) : ∀ w ∈ u_ws (cT t).1 (cT t).2.1 (cT t).2.2, w ∈ lw_gd := by
  match t, ht with
  | 0, _ => exact inX0
  | 1, _ => exact inX1
  | 2, _ => exact inX2
  | 3, _ => exact inX3
  | 4, _ => exact inX4
  | 5, _ => exact inX5
  | 6, _ => exact inX6
theorem fdT (t : Nat) (ht : t < 7) : ∀ k, k < (cT t).2.2 → parseFieldDescriptor ((cT t).2.1 k).2.2.1 = some (fT t k) := by
  match t, ht with
  | 0, _ => exact tyX0_ok
  | 1, _ => exact tyX1_ok
  | 2, _ => exact tyX2_ok
  | 3, _ => exact tyX3_ok
  | 4, _ => exact tyX4_ok
  | 5, _ => exact tyX5_ok
  | 6, _ => exact tyX6_ok
theorem nmT (t : Nat) (ht : t < 7) : ∀ a, a < (cT t).2.2 → ∀ b, b < (cT t).2.2 → a ≠ b → ((cT t).2.1 a).2.1 ≠ ((cT t).2.1 b).2.1 := by
  match t, ht with
  | 0, _ => exact nmX0
  | 1, _ => exact nmX1
  | 2, _ => exact nmX2
  | 3, _ => exact nmX3
  | 4, _ => exact nmX4
  | 5, _ => exact nmX5
  | 6, _ => exact nmX6
/-- a field by the pool number of the class that names it -/
def FLink (own : String) (idx t k : Nat) : Prop := t < 7 ∧ k < (cT t).2.2 ∧ Cond.fieldLink own idx (cT t).1 ((cT t).2.1 k).2.1 ((cT t).2.1 k).2.2.1 ∈ lw_gd ∧ ((cT t).2.1 k).1 = (cT t).1
theorem vl_i {t k : Nat} {x : Int32} {o : Option Nat} (h : isR (fT t k) = false) : vl t k x o = .int x := by simp [vl, h]
theorem vl_r {t k : Nat} {x : Int32} {o : Option Nat} (h : isR (fT t k) = true) : vl t k x o = va_rf o := by simp [vl, h]
theorem apT {s : State} {args : Array Value} {t : Nat} (ht : t < 7) {cC : ClassId} {iS : Nat → Nat} (hts : ∀ w ∈ lw_gd, w.before args s = true) (hS : u_Kn s (cT t).1 (cT t).2.1 (cT t).2.2 cC iS) : ∀ x y, x < (cT t).2.2 → y < (cT t).2.2 → x ≠ y → iS x ≠ iS y := by
  intro x y hx hy hne
  obtain ⟨_, _, _, fa, hia, ea⟩ := hS.1 x hx
  obtain ⟨_, _, _, fb, hib, eb⟩ := hS.1 y hy
  rw [← ea, ← eb]
  refine u_apart (u_lays hts (inT t ht) hx) (u_lays hts (inT t ht) hy) hia hib ?_
  rw [(State.fieldFound?_type hia (fdT t ht x hx)).1, (State.fieldFound?_type hib (fdT t ht y hy)).1]
  exact nmT t ht x hx y hy hne
theorem fT9 {t : Nat} (h : 9 ≤ t ∧ t ≤ 12) : ∃ C, ∀ k, fT t k = .object C := by
  rcases (show t = 9 ∨ t = 10 ∨ t = 11 ∨ t = 12 by omega) with rfl | rfl | rfl | rfl
  · exact ⟨RX0, fun _ => rfl⟩
  · exact ⟨RX1, fun _ => rfl⟩
  · exact ⟨RX2, fun _ => rfl⟩
  · exact ⟨RX4, fun _ => rfl⟩
theorem fT9r {t : Nat} (h : 9 ≤ t ∧ t ≤ 12) (q : Nat) : isR (fT t q) = true ∧ (fT t 0).isReference = true := by
  obtain ⟨C, hC⟩ := fT9 h
  rw [hC q, hC 0]
  exact ⟨rfl, rfl⟩
section GOHEAP
variable {l : Launch} {G : GG} {Y : AM} {D k j pc z : Nat} {lo : List (Option Value)} {st : List Value} {n : Nat} {i : IP} {r : RP} {Q : QP}
theorem go_getV {idx t f a : Nat} {v : Value} (hd : decode Y.2.1 pc = .ok (.getfield idx, 3)) (hz : pc + 3 = z) (hf : FLink Y.1.cls idx t f) (ha : Ok G n a t) (hv : vl t f (i a f) (r a f) = v) (K : Go l G Y D k j z lo (v :: st) n i r Q) : Go l G Y D k j pc lo (.ref a :: st) n i r Q := by
  subst hz
  intro p e R s m args below meth c H locs cells slots ls E
  have KK := K p e R s m args below meth c H locs cells slots ls E
  obtain ⟨C, B, A, L, S, hb⟩ := E
  obtain ⟨ht, hk, hw, hown⟩ := hf
  obtain ⟨h1, h2, h3⟩ := ha
  obtain ⟨-, hc, -⟩ := A.2.2.1 a h1 h2
  rw [h3] at hc
  obtain ⟨cC, iS, hKn, cell, q1, q2, q3, q4⟩ := hc ht
  obtain ⟨hS, hfc, kC, hkC, hkind⟩ := id hKn
  obtain ⟨cf, kf, fi, fd, hi, hsl⟩ := hS f hk
  have hts := C.2.2.2.2.2.1
  rw [hown] at hi
  have hi' := hi
  refine W.getf C.1 C.2.1 C.2.2.2.2.1 (hts _ hw) hi ?_ q1 (by rw [q3]; exact fun h => by cases h) (v := v) ?_ rfl rfl hd KK
  · rw [← hown] at hi'
    exact (u_facts hfc hkC (u_lays hts (inT t ht) hk) hi').1
  · rw [hsl, q4 f hk]; exact congrArg some hv
theorem go_getI {idx t f a : Nat} (hd : decode Y.2.1 pc = .ok (.getfield idx, 3)) (hz : pc + 3 = z) (hf : FLink Y.1.cls idx t f) (ha : Ok G n a t) (hr : isR (fT t f) = false) (K : Go l G Y D k j z lo (.int (i a f) :: st) n i r Q) : Go l G Y D k j pc lo (.ref a :: st) n i r Q :=
  go_getV hd hz hf ha (vl_i hr) K
theorem go_getR {idx t f a b : Nat} (hd : decode Y.2.1 pc = .ok (.getfield idx, 3)) (hz : pc + 3 = z) (hf : FLink Y.1.cls idx t f) (ha : Ok G n a t) (hr : isR (fT t f) = true) (hv : r a f = some b) (K : Go l G Y D k j z lo (.ref b :: st) n i r Q) : Go l G Y D k j pc lo (.ref a :: st) n i r Q :=
  go_getV hd hz hf ha ((vl_r hr).trans (by rw [hv]; rfl)) K
theorem go_getO {idx t f a : Nat} (hd : decode Y.2.1 pc = .ok (.getfield idx, 3)) (hz : pc + 3 = z) (hf : FLink Y.1.cls idx t f) (ha : Ok G n a t) (hr : isR (fT t f) = true) (K : Go l G Y D k j z lo (va_rf (r a f) :: st) n i r Q) : Go l G Y D k j pc lo (.ref a :: st) n i r Q :=
  go_getV hd hz hf ha (vl_r hr) K
/-- what a place of a small type holds -/
theorem go_narrow {a t f : Nat} (ha : Ok G n a t) (hk : f < nS (G.2.1 a)) (hr : isR (fT t f) = false) (K : narrow (fT t f) (.int (i a f)) = .int (i a f) → Go l G Y D k j pc lo st n i r Q) : Go l G Y D k j pc lo st n i r Q := by
  intro p e R s m args below meth c H locs cells slots ls E
  obtain ⟨h1, h2, h3⟩ := ha
  have h := (E.2.2.1.2.2.1 a h1 h2).1 f hk
  rw [h3] at h
  exact K (h hr) p e R s m args below meth c H locs cells slots ls E
theorem nm_one (x : Int32) : x &&& 1 = 0 ∨ x &&& 1 = 1 := by
  obtain ⟨q, hq, e⟩ := pk_andE x (m := 1) 1 (by decide)
  rcases (show q = 0 ∨ q = 1 by omega) with rfl | rfl
  · exact Or.inl e
  · exact Or.inr e
theorem fits_of {t f : Nat} (ht : t < 7) (hk : f < (cT t).2.2) {x : Int32} (hr : isR (fT t f) = false) (hn : narrow (fT t f) (.int x) = .int x) : fits (fT t f) (.int x) = true := by
  have h : fT t f = .int ∨ fT t f = .boolean := by
    have h0 : ∀ t, t < 7 → ∀ f, f < (cT t).2.2 → isR (fT t f) = false → fT t f = .int ∨ fT t f = .boolean := by decide +kernel
    exact h0 t ht f hk hr
  rcases h with h | h
  · rw [h]; rfl
  · rw [h] at hn ⊢
    have e : x &&& 1 = x := by
      have := hn
      simp only [narrow] at this
      exact Value.int.inj this
    have hx : x = 0 ∨ x = 1 := by
      have h1 := nm_one x
      rw [e] at h1
      exact h1
    rcases hx with rfl | rfl <;> rfl
theorem Abs.upd {G : GG} {U : State} {H H' : Heap} {n a : Nat} {i i' : IP} {r r' : RP} (A : Abs G U H n i r) (hz : H'.size = H.size) (ho : ∀ q, q ≠ a → H'[q]? = H[q]?) (ha : G.1 ≤ a) (hi : ∀ q, q ≠ a → i' q = i q) (hr : ∀ q, q ≠ a → r' q = r q) (hc : Cel U H' a (G.2.1 a) (i' a) (r' a)) : Abs G U H' n i' r' := by
  refine ⟨hz.trans A.1, A.2.1, fun q h1 h2 => ?_, A.2.2.2.1.kept (ho _ (by have := A.2.2.2.2; omega)), A.2.2.2.2⟩
  by_cases hq : q = a
  · subst hq; exact hc
  · rw [hi q hq, hr q hq]
    exact (A.2.2.1 q h1 h2).kept (ho q hq)
theorem go_putV {idx t f a : Nat} {v : Value} {x : Int32} {o : Option Nat} {i' : IP} {r' : RP} (hd : decode Y.2.1 pc = .ok (.putfield idx, 3)) (hz : pc + 3 = z) (hf : FLink Y.1.cls idx t f) (ha : Ok G n a t)
    (hi1 : ∀ q, q ≠ a → i' q = i q) (hr1 : ∀ q, q ≠ a → r' q = r q) (hi2 : ∀ q, q ≠ f → i' a q = i a q) (hr2 : ∀ q, q ≠ f → r' a q = r a q) (hv : vl t f (i' a f) (r' a f) = v)
    (hn : narrow (fT t f) v = v) (hfit : fits (fT t f) v = true) (hfin : ((cT t).2.1 f).2.2.2 = false ∨ (Y.1.name = "<init>" ∧ (cT t).1 = Y.1.cls)) (K : Go l G Y D k j z lo st n i' r' Q) : Go l G Y D k j pc lo (v :: .ref a :: st) n i r Q := by
  subst hz
  intro p e R s m args below meth c H locs cells slots ls ⟨C, B, A, L, S, hb⟩
  obtain ⟨ht, hk, hw, hown⟩ := hf
  obtain ⟨h1, h2, h3⟩ := ha
  obtain ⟨hN, hc, -⟩ := A.2.2.1 a h1 h2
  rw [h3] at hc hN
  obtain ⟨cC, iS, hKn, cell, q1, q2, q3, q4⟩ := hc ht
  obtain ⟨hS, hfc, kC, hkC, hkind⟩ := id hKn
  obtain ⟨cf, kf, fi, fd, hi, hsl⟩ := hS f hk
  have hts := C.2.2.2.2.2.1
  have hap := apT ht hts hKn
  have hfd := fdT t ht f hk
  have hlays := u_lays hts (inT t ht) hk
  have hst := (u_facts hfc hkC hlays hi).1
  have hi' := hi
  rw [hown] at hi'
  have hnS : nS (G.2.1 a) = (cT t).2.2 := by simp [nS, h3, ht]
  have key : ∀ H' : Heap, H'[a]? = some (cell.setSlot fd.slot v) → H'.size = H.size → (∀ q, q ≠ a → H'[q]? = H[q]?) → W p l e R s m args below meth c H' (locs ++ [⟨a, fd.slot⟩]) cells slots (MQ below (Qc G Q) args s R.cells R.slots (fun q => G.1 ≤ q)) (F0 m (pc + 3) ls st) := by
    intro H' e1 e2 e3
    rw [hsl] at e1 ⊢
    refine K p e R s m args below meth c H' _ cells slots ls ⟨C, B, A.upd e2 e3 h1 hi1 hr1 ?_, L, S.put e2 e3 h1, hb⟩
    have h3' : G.2.1 a = (t, (G.2.1 a).2) := Prod.ext h3 rfl
    rw [h3']
    rw [h3'] at hnS
    refine ⟨fun q hq hrq => ?_, fun _ => ⟨cC, iS, hKn, t_OB.to (V := updV (fun k => vl t k (i a k) (r a k)) f v) ⟨_, e1, q2, q3, t_set q4 hap hk v⟩ (fun q _ => ?_)⟩, fun hh => by omega⟩
    · by_cases hqf : q = f
      · subst hqf
        rw [vl_i hrq] at hv
        rw [hv]; exact hn
      · rw [hi2 q hqf]
        have hq' : q < (cT t).2.2 := by rw [← hnS]; exact hq
        exact hN q (by rw [h3', hnS]; exact hq') hrq
    · show updV _ f v q = _
      unfold updV
      by_cases hqf : q = f
      · subst hqf
        rw [if_pos rfl]; exact hv.symm
      · rw [if_neg hqf, hi2 q hqf, hr2 q hqf]
  rcases hfin with hfin | ⟨hini, hcls⟩
  · have hlay := hts _ (inT t ht _ (u_in_lay hk))
    unfold u_lay at hlay
    rw [if_neg (by rw [hfin]; decide)] at hlay
    have h6 := u_store hfc hkC hkind hlay hi hfd hn hfit
    exact W.putK C.1 C.2.1 (f := fd) ⟨C.2.2.2.2.1, hts _ hw, ⟨_, _, _, hi'⟩, hst⟩ (by rw [q2]; exact h6) q1 q3 (by rw [hsl]; exact k2_hasslot (q4 f hk)) rfl rfl hd key
  · by_cases hfin : ((cT t).2.1 f).2.2.2 = true
    · have hlay := hts _ (inT t ht _ (u_in_lay hk))
      unfold u_lay at hlay
      rw [if_pos hfin] at hlay
      have hcf : m.cls = cf := by
        obtain ⟨_, _, c', _, _, _, -, -, hf', -, -, -, hown2, -⟩ := Cond.laysFinal_spec hlay
        have e1 : c' = cf := by have := hi.symm.trans hf'; simp at this; exact this.1.symm
        rw [hown, hcls] at hown2
        rw [← e1]; exact Option.some.inj (C.2.2.2.2.1.symm.trans hown2)
      have h6 := u_fits hfc hkC hkind (Or.inr hlay) hi hfd hn hfit
      exact W.putFinK C.1 C.2.1 C.2.2.2.2.1 (hts _ hw) hi' hst hcf (C.2.2.2.2.2.2.2.1.trans hini) (by rw [q2]; exact h6) q1 q3 (by rw [hsl]; exact k2_hasslot (q4 f hk)) rfl rfl hd key
    · have hfin : ((cT t).2.1 f).2.2.2 = false := by simpa using hfin
      have hlay := hts _ (inT t ht _ (u_in_lay hk))
      unfold u_lay at hlay
      rw [if_neg (by rw [hfin]; decide)] at hlay
      have h6 := u_store hfc hkC hkind hlay hi hfd hn hfit
      exact W.putK C.1 C.2.1 (f := fd) ⟨C.2.2.2.2.1, hts _ hw, ⟨_, _, _, hi'⟩, hst⟩ (by rw [q2]; exact h6) q1 q3 (by rw [hsl]; exact k2_hasslot (q4 f hk)) rfl rfl hd key
theorem go_putI {idx t f a : Nat} {x : Int32} (hd : decode Y.2.1 pc = .ok (.putfield idx, 3)) (hz : pc + 3 = z) (hf : FLink Y.1.cls idx t f) (ha : Ok G n a t) (hr : isR (fT t f) = false) (hfin : ((cT t).2.1 f).2.2.2 = false ∨ (Y.1.name = "<init>" ∧ (cT t).1 = Y.1.cls)) (hn : narrow (fT t f) (.int x) = .int x) (K : Go l G Y D k j z lo st n (ups i a f x) r Q) : Go l G Y D k j pc lo (.int x :: .ref a :: st) n i r Q :=
  go_putV (x := x) (o := none) (i' := ups i a f x) (r' := r) hd hz hf ha (fun q h => ups_row h) (fun _ _ => rfl) (fun q h => ups_k h) (fun _ _ => rfl) (by rw [ups_s]; exact vl_i hr) hn (fits_of hf.1 hf.2.1 hr hn) hfin K
theorem fits_rf {t f : Nat} (hr : isR (fT t f) = true) (o : Option Nat) : narrow (fT t f) (va_rf o) = va_rf o ∧ fits (fT t f) (va_rf o) = true := by
  cases h : fT t f with
  | object C => cases o <;> exact ⟨rfl, rfl⟩
  | array C => cases o <;> exact ⟨rfl, rfl⟩
  | _ => rw [h] at hr; cases hr
theorem go_putO {idx t f a : Nat} {o : Option Nat} (hd : decode Y.2.1 pc = .ok (.putfield idx, 3)) (hz : pc + 3 = z) (hf : FLink Y.1.cls idx t f) (ha : Ok G n a t) (hr : isR (fT t f) = true) (hfin : ((cT t).2.1 f).2.2.2 = false ∨ (Y.1.name = "<init>" ∧ (cT t).1 = Y.1.cls)) (K : Go l G Y D k j z lo st n i (ups r a f o) Q) : Go l G Y D k j pc lo (va_rf o :: .ref a :: st) n i r Q :=
  go_putV (x := 0) (o := o) (i' := i) (r' := ups r a f o) hd hz hf ha (fun _ _ => rfl) (fun q h => ups_row h) (fun _ _ => rfl) (fun q h => ups_k h) (by rw [ups_s]; exact vl_r hr) (fits_rf hr o).1 (fits_rf hr o).2 hfin K
theorem go_putR {idx t f a b : Nat} (hd : decode Y.2.1 pc = .ok (.putfield idx, 3)) (hz : pc + 3 = z) (hf : FLink Y.1.cls idx t f) (ha : Ok G n a t) (hr : isR (fT t f) = true) (hfin : ((cT t).2.1 f).2.2.2 = false ∨ (Y.1.name = "<init>" ∧ (cT t).1 = Y.1.cls)) (K : Go l G Y D k j z lo st n i (ups r a f (some b)) Q) : Go l G Y D k j pc lo (.ref b :: .ref a :: st) n i r Q :=
  go_putO (o := some b) hd hz hf ha hr hfin K
theorem go_putN {idx t f a : Nat} (hd : decode Y.2.1 pc = .ok (.putfield idx, 3)) (hz : pc + 3 = z) (hf : FLink Y.1.cls idx t f) (ha : Ok G n a t) (hr : isR (fT t f) = true) (hfin : ((cT t).2.1 f).2.2.2 = false ∨ (Y.1.name = "<init>" ∧ (cT t).1 = Y.1.cls)) (K : Go l G Y D k j z lo st n i (ups r a f none) Q) : Go l G Y D k j pc lo (.null :: .ref a :: st) n i r Q :=
  go_putO (o := none) hd hz hf ha hr hfin K
/-! arrays -/
def OkA (G : GG) (n a t len : Nat) : Prop := G.1 ≤ a ∧ a < n ∧ G.2.1 a = (t, len)
theorem OkA.mono {G : GG} {n m a t q : Nat} (h : OkA G n a t q) (hm : n ≤ m) : OkA G m a t q := ⟨h.1, Nat.lt_of_lt_of_le h.2.1 hm, h.2.2⟩
theorem ix_in {c len : Nat} {x : Int32} (hx : x = nI c) (hc : c < len) (hl : len < 2 ^ 31) : ¬ (x < 0 ∨ len ≤ x.toNatClampNeg) ∧ x.toNatClampNeg = c := by
  subst hx
  exact ⟨nI_in hc hl, nI_clamp (by omega)⟩
theorem go_alen {a t len : Nat} (ha : OkA G n a t len) (ht : 7 ≤ t) (hd : decode Y.2.1 pc = .ok (.arraylength, 1)) (hz : pc + 1 = z) (K : Go l G Y D k j z lo (.int (nI len) :: st) n i r Q) : Go l G Y D k j pc lo (.ref a :: st) n i r Q := by
  subst hz
  intro p e R s m args below meth c H locs cells slots ls E
  have KK := K p e R s m args below meth c H locs cells slots ls E
  obtain ⟨C, B, A, L, S, hb⟩ := E
  obtain ⟨-, -, hc⟩ := A.2.2.1 a ha.1 ha.2.1
  rw [ha.2.2] at hc
  obtain ⟨cA, e1, e2, e3⟩ := hc ht
  exact W.alen C.1 C.2.1 e1 (e2 len _) (by rw [arrV_size]; rfl) rfl rfl hd KK
theorem go_iald {a len : Nat} {x : Int32} (q : Nat) (ha : OkA G n a 7 len) (hl : len < 2 ^ 31) (hx : x = nI q) (hq : q < len) (hd : decode Y.2.1 pc = .ok (.iaload, 1)) (hz : pc + 1 = z) (K : Go l G Y D k j z lo (.int (i a q) :: st) n i r Q) : Go l G Y D k j pc lo (.int x :: .ref a :: st) n i r Q := by
  subst hz
  intro p e R s m args below meth c H locs cells slots ls E
  have KK := K p e R s m args below meth c H locs cells slots ls E
  obtain ⟨C, B, A, L, S, hb⟩ := E
  obtain ⟨-, -, hc⟩ := A.2.2.1 a ha.1 ha.2.1
  rw [ha.2.2] at hc
  obtain ⟨cA, e1, e2, e3⟩ := hc (show (7:Nat) ≤ _ by omega)
  obtain ⟨g1, g2⟩ := ix_in hx hq hl
  exact W.iald (v := .int (i a q)) C.1 C.2.1 e1 (e2 len _) (fun h => by cases h) (by rw [arrV_size]; exact g1) (by rw [g2, arrV_read _ _ hq]; rfl) rfl rfl hd KK
theorem go_cald {a len : Nat} {x : Int32} (q : Nat) (ha : OkA G n a 8 len) (hl : len < 2 ^ 31) (hx : x = nI q) (hq : q < len) (hd : decode Y.2.1 pc = .ok (.caload, 1)) (hz : pc + 1 = z) (K : Go l G Y D k j z lo (.int (i a q) :: st) n i r Q) : Go l G Y D k j pc lo (.int x :: .ref a :: st) n i r Q := by
  subst hz
  intro p e R s m args below meth c H locs cells slots ls E
  have KK := K p e R s m args below meth c H locs cells slots ls E
  obtain ⟨C, B, A, L, S, hb⟩ := E
  obtain ⟨-, -, hc⟩ := A.2.2.1 a ha.1 ha.2.1
  rw [ha.2.2] at hc
  obtain ⟨cA, e1, e2, e3⟩ := hc (show (7:Nat) ≤ _ by omega)
  obtain ⟨g1, g2⟩ := ix_in hx hq hl
  exact W.cald (v := .int (i a q)) C.1 C.2.1 e1 (e2 len _) (fun h => by cases h) (by rw [arrV_size]; exact g1) (by rw [g2, arrV_read _ _ hq]; rfl) rfl rfl hd KK
theorem go_aald {a t len : Nat} {x : Int32} {o : Option Nat} (q : Nat) (ha : OkA G n a t len) (ht : 9 ≤ t ∧ t ≤ 12) (hl : len < 2 ^ 31) (hx : x = nI q) (hq : q < len) (hv : r a q = o) (hd : decode Y.2.1 pc = .ok (.aaload, 1)) (hz : pc + 1 = z) (K : Go l G Y D k j z lo (va_rf o :: st) n i r Q) : Go l G Y D k j pc lo (.int x :: .ref a :: st) n i r Q := by
  subst hz; subst hv
  intro p e R s m args below meth c H locs cells slots ls E
  have KK := K p e R s m args below meth c H locs cells slots ls E
  obtain ⟨C, B, A, L, S, hb⟩ := E
  obtain ⟨-, -, hc⟩ := A.2.2.1 a ha.1 ha.2.1
  rw [ha.2.2] at hc
  obtain ⟨cA, e1, e2, e3⟩ := hc (show 7 ≤ t by omega)
  obtain ⟨g1, g2⟩ := ix_in hx hq hl
  have hr := fT9r ht q
  exact W.aald (v := va_rf (r a q)) (ty := fT t 0) C.1 C.2.1 e1 (e2 len _) hr.2 (fun h => by cases h) (by rw [arrV_size]; exact g1) (by rw [g2, arrV_read _ _ hq, vl_r hr.1]) rfl rfl hd KK
theorem go_aaldR {a t len b : Nat} {x : Int32} (q : Nat) (ha : OkA G n a t len) (ht : 9 ≤ t ∧ t ≤ 12) (hl : len < 2 ^ 31) (hx : x = nI q) (hq : q < len) (hv : r a q = some b) (hd : decode Y.2.1 pc = .ok (.aaload, 1)) (hz : pc + 1 = z) (K : Go l G Y D k j z lo (.ref b :: st) n i r Q) : Go l G Y D k j pc lo (.int x :: .ref a :: st) n i r Q :=
  go_aald q ha ht hl hx hq hv hd hz K
theorem upd_vl {t len q : Nat} {i : Nat → Int32} {r : Nat → Option Nat} {v : Value} {i' : Nat → Int32} {r' : Nat → Option Nat} (hi : ∀ p, p ≠ q → i' p = i p) (hr : ∀ p, p ≠ q → r' p = r p) (hv : vl t q (i' q) (r' q) = v) (cA : ClassId) : arrV cA len (updV (fun k => vl t k (i k) (r k)) q v) = arrV cA len (fun k => vl t k (i' k) (r' k)) := by
  congr 1
  funext p
  unfold updV
  by_cases h : p = q
  · subst h; rw [if_pos rfl]; exact hv.symm
  · rw [if_neg h, hi p h, hr p h]
theorem go_iast {a len : Nat} {x y : Int32} (q : Nat) (ha : OkA G n a 7 len) (hl : len < 2 ^ 31) (hx : x = nI q) (hq : q < len) (hd : decode Y.2.1 pc = .ok (.iastore, 1)) (hz : pc + 1 = z) (K : Go l G Y D k j z lo st n (ups i a q y) r Q) : Go l G Y D k j pc lo (.int y :: .int x :: .ref a :: st) n i r Q := by
  subst hz
  intro p e R s m args below meth c H locs cells slots ls ⟨C, B, A, L, S, hb⟩
  obtain ⟨-, -, hc⟩ := A.2.2.1 a ha.1 ha.2.1
  rw [ha.2.2] at hc
  obtain ⟨cA, e1, e2, e3⟩ := hc (show (7:Nat) ≤ _ by omega)
  obtain ⟨g1, g2⟩ := ix_in hx hq hl
  refine W.iast C.1 C.2.1 e1 (e2 len _) (fun h => by cases h) (by rw [arrV_size]; exact g1) rfl rfl hd fun H' f1 f2 f3 => ?_
  refine K p e R s m args below meth c H' _ cells slots ls ⟨C, B, A.upd f2 f3 ha.1 (fun _ h => ups_row h) (fun _ _ => rfl) ?_, L, S.put f2 f3 ha.1, hb⟩
  rw [ha.2.2]
  refine ⟨fun _ _ _ => rfl, fun h => absurd (show (7:Nat) ≤ _ by omega) (Nat.not_le.mpr h), fun _ => ⟨cA, ?_, e2, e3⟩⟩
  rw [f1, arrV_store, g2]
  exact congrArg some (upd_vl (fun p h => ups_k h) (fun _ _ => rfl) (by rw [ups_s]; rfl) cA)
theorem go_cast {a len : Nat} {x y w : Int32} (q : Nat) (ha : OkA G n a 8 len) (hl : len < 2 ^ 31) (hx : x = nI q) (hq : q < len) (hw : narrow .char (.int y) = .int w) (hww : narrow .char (.int w) = .int w) (hd : decode Y.2.1 pc = .ok (.castore, 1)) (hz : pc + 1 = z) (K : Go l G Y D k j z lo st n (ups i a q w) r Q) : Go l G Y D k j pc lo (.int y :: .int x :: .ref a :: st) n i r Q := by
  subst hz
  intro p e R s m args below meth c H locs cells slots ls ⟨C, B, A, L, S, hb⟩
  obtain ⟨hN, -, hc⟩ := A.2.2.1 a ha.1 ha.2.1
  rw [ha.2.2] at hc hN
  obtain ⟨cA, e1, e2, e3⟩ := hc (show (7:Nat) ≤ _ by omega)
  obtain ⟨g1, g2⟩ := ix_in hx hq hl
  refine W.cast C.1 C.2.1 e1 (e2 len _) (fun h => by cases h) (by rw [arrV_size]; exact g1) rfl rfl hd fun H' f1 f2 f3 => ?_
  refine K p e R s m args below meth c H' _ cells slots ls ⟨C, B, A.upd f2 f3 ha.1 (fun _ h => ups_row h) (fun _ _ => rfl) ?_, L, S.put f2 f3 ha.1, hb⟩
  rw [ha.2.2]
  refine ⟨fun p hp hr => ?_, fun h => absurd (show (7:Nat) ≤ _ by omega) (Nat.not_le.mpr h), fun _ => ⟨cA, ?_, e2, e3⟩⟩
  · by_cases h : p = q
    · subst h; rw [ups_s]; exact hww
    · rw [ups_k h]; exact hN p hp hr
  · rw [f1, arrV_store, g2, hw]
    exact congrArg some (upd_vl (fun p h => ups_k h) (fun _ _ => rfl) (by rw [ups_s]; rfl) cA)
theorem tag_comp {U : State} {t : Nat} {cA : ClassId} (h9 : 9 ≤ t ∧ t ≤ 12) (h : va_RA U cA (fT t 0)) : ∃ (C : String) (kA : Class) (comp : ClassId), fT t 0 = .object C ∧ U.vm.classes[cA]? = some kA ∧ kA.kind = .array comp (.object C) ∧ U.vm.findClass C = some comp := by
  have hC : ∃ C, fT t 0 = .object C := (fT9 h9).imp fun C h => h 0
  obtain ⟨C, hC⟩ := hC
  rw [hC] at h
  obtain ⟨kA, comp, h1, h2, h3, -⟩ := h
  exact ⟨C, kA, comp, hC, h1, h2, h3⟩
theorem go_aastR {a t len b tb : Nat} {x : Int32} (q : Nat) (ha : OkA G n a t len) (ht : 9 ≤ t ∧ t ≤ 12) (hl : len < 2 ^ 31) (hx : x = nI q) (hq : q < len) (hbk : Ok G n b tb) (htb : tb < 7) (hcc : fT t 0 = .object (cT tb).1) (hd : decode Y.2.1 pc = .ok (.aastore, 1)) (hz : pc + 1 = z) (K : Go l G Y D k j z lo st n i (ups r a q (some b)) Q) : Go l G Y D k j pc lo (.ref b :: .int x :: .ref a :: st) n i r Q := by
  subst hz
  intro p e R s m args below meth c H locs cells slots ls ⟨C, B, A, L, S, hb⟩
  obtain ⟨hN, -, hc⟩ := A.2.2.1 a ha.1 ha.2.1
  rw [ha.2.2] at hc hN
  obtain ⟨cA, e1, e2, e3⟩ := hc (show 7 ≤ t by omega)
  obtain ⟨g1, g2⟩ := ix_in hx hq hl
  obtain ⟨Cn, kA, comp, hCn, k1, k2, k3⟩ := tag_comp ht e3
  have hCe : Cn = (cT tb).1 := by rw [hCn] at hcc; exact FieldType.object.inj hcc
  obtain ⟨-, hcb, -⟩ := A.2.2.1 b hbk.1 hbk.2.1
  rw [hbk.2.2] at hcb
  obtain ⟨cC, iS, hKn, cellB, b1, b2, b3, -⟩ := hcb htb
  have hcls := hKn.2
  obtain ⟨kC, hkC, -⟩ := hcls.2
  have hcomp : comp = cC := by rw [hCe] at k3; exact Option.some.inj (k3.symm.trans hcls.1)
  subst hcomp
  have hr : ∀ q, isR (fT t q) = true := fun q => (fT9r ht q).1
  refine W.aast C.1 C.2.1 e1 (fun q h => by cases h) (fun h => by cases h) k1 k2 rfl hkC ⟨fun h => g1 (Or.inl h), by rw [arrV_size, g2]; exact hq⟩ b1 (fun q h => by rw [b3] at h; cases h) (by rw [b2]; exact hkC) (by rw [b2]; exact va_assign hcls) rfl rfl hd fun H' f1 f2 f3 => ?_
  refine K p e R s m args below meth c H' _ cells slots ls ⟨C, B, A.upd f2 f3 ha.1 (fun _ _ => rfl) (fun _ h => ups_row h) ?_, L, S.put f2 f3 ha.1, hb⟩
  rw [ha.2.2]
  refine ⟨fun p hp hr' => absurd ((hr p).symm.trans hr') (by decide), fun h => absurd h (by show ¬ t < 7; omega), fun _ => ⟨cA, ?_, e2, e3⟩⟩
  rw [f1, arrV_store, g2]
  exact congrArg some (upd_vl (fun _ _ => rfl) (fun p h => ups_k h) (by rw [ups_s]; exact vl_r (hr q)) cA)
/-! the script -/
theorem go_sld {x : Int32} (q : Nat) (hL : G.2.2.2.1 < 2 ^ 31) (hx : x = nI q) (hq : q < G.2.2.2.1) (hd : decode Y.2.1 pc = .ok (.iaload, 1)) (hz : pc + 1 = z) (K : Go l G Y D k j z lo (.int (G.2.2.2.2 q) :: st) n i r Q) : Go l G Y D k j pc lo (.int x :: .ref G.2.2.1 :: st) n i r Q := by
  subst hz
  intro p e R s m args below meth c H locs cells slots ls E
  have KK := K p e R s m args below meth c H locs cells slots ls E
  obtain ⟨C, B, A, L, S, hb⟩ := E
  obtain ⟨scr, h1, h2, h3, h4, h5⟩ := A.2.2.2.1
  obtain ⟨g1, g2⟩ := ix_in hx hq hL
  exact W.iald (v := .int (G.2.2.2.2 q)) C.1 C.2.1 h1 h2 h3 (by rw [h4]; exact g1) (by rw [g2]; exact h5 _ hq) rfl rfl hd KK
theorem go_slen (hd : decode Y.2.1 pc = .ok (.arraylength, 1)) (hz : pc + 1 = z) (K : Go l G Y D k j z lo (.int (nI G.2.2.2.1) :: st) n i r Q) : Go l G Y D k j pc lo (.ref G.2.2.1 :: st) n i r Q := by
  subst hz
  intro p e R s m args below meth c H locs cells slots ls E
  have KK := K p e R s m args below meth c H locs cells slots ls E
  obtain ⟨C, B, A, L, S, hb⟩ := E
  obtain ⟨scr, h1, h2, h3, h4, h5⟩ := A.2.2.2.1
  exact W.alen C.1 C.2.1 h1 h2 (by rw [h4]; rfl) rfl rfl hd KK
end GOHEAP
end
section
/-! making, calling -/
theorem fTk (t f : Nat) (ht : t < 7) (hk : f < (cT t).2.2) : fT t f = .int ∨ fT t f = .boolean ∨ isR (fT t f) = true := by
  have h0 : ∀ t, t < 7 → ∀ f, f < (cT t).2.2 → fT t f = .int ∨ fT t f = .boolean ∨ isR (fT t f) = true := by decide +kernel
  exact h0 t ht f hk
theorem dvT (t f : Nat) (ht : t < 7) (hk : f < (cT t).2.2) : defaultValue (fT t f) = vl t f 0 none := by
  rcases fTk t f ht hk with h | h | h
  · rw [vl_i (by rw [h]; rfl), h]; rfl
  · rw [vl_i (by rw [h]; rfl), h]; rfl
  · rw [vl_r h]
    cases h' : fT t f with
    | object C => rfl
    | array C => rfl
    | _ => rw [h'] at h; cases h
theorem Abs.push {G : GG} {U : State} {H H' : Heap} {n : Nat} {i : IP} {r : RP} (A : Abs G U H n i r) (hz : H'.size = n + 1) (ho : ∀ q, q < n → H'[q]? = H[q]?) (hc : Cel U H' n (G.2.1 n) (fun _ => 0) (fun _ => none)) : Abs G U H' (n + 1) (upa i n 0) (upa r n none) := by
  refine ⟨hz, Nat.le_succ_of_le A.2.1, fun q h1 h2 => ?_, A.2.2.2.1.kept (ho _ (by have := A.2.2.2.2; have := A.2.1; omega)), A.2.2.2.2⟩
  by_cases hq : q = n
  · subst hq
    have e1 : upa i q 0 q = fun _ => 0 := by funext p; simp [upa]
    have e2 : upa r q none q = fun _ => none := by funext p; simp [upa]
    rw [e1, e2]; exact hc
  · rw [upa_row hq, upa_row hq]
    exact (A.2.2.1 q h1 (by omega)).kept (ho q (by omega))
theorem S_push {A : Nat → Prop} {H0 H H' : Heap} {n : Nat} {locs : List Loc} (S : va_S A H0 H locs) (hn : H.size = n) (hz : H'.size = n + 1) (ho : ∀ q, q < n → H'[q]? = H[q]?) : va_S A H0 H' locs :=
  ⟨Nat.le_trans S.1 (by omega), fun x h1 h2 => (ho x (by have := S.1; omega)).trans (S.2.1 x h1 h2), S.2.2⟩
section GOMAKE
variable {l : Launch} {G : GG} {Y : AM} {D k j pc z : Nat} {lo : List (Option Value)} {st : List Value} {n : Nat} {i : IP} {r : RP} {Q : QP}
theorem go_new {idx t : Nat} (hd : decode Y.2.1 pc = .ok (.new idx, 3)) (hz : pc + 3 = z) (ht : t < 7) (hcl : Cond.classLink Y.1.cls idx (cT t).1 ∈ lw_gd) (hin : Cond.instantiable (cT t).1 (cT t).2.2 ∈ lw_gd) (hini : Cond.initialized (cT t).1 ∈ lw_gd) (hk : 1 ≤ k) (hj : (cT t).2.2 ≤ j) (hG : (G.2.1 n).1 = t) (K : Go l G Y D (k - 1) (j - (cT t).2.2) z lo (.ref n :: st) (n + 1) (upa i n 0) (upa r n none) Q) : Go l G Y D k j pc lo st n i r Q := by
  subst hz
  intro p e R s m args below meth c H locs cells slots ls ⟨C, B, A, L, S, hb⟩
  have hts := C.2.2.2.2.2.1
  obtain ⟨cC, iS, hKn⟩ := u_known hts (inT t ht) (hts _ hin)
  refine W.newcK C.1 C.2.1 C.2.2.2.2.1 (hts _ hcl) (hts _ hin) (hts _ hini) rfl hd (by omega) (by omega) hKn.2.1 A.1 fun H' kC hkC e1 z1 o1 => ?_
  refine K p e R s m args below meth c H' locs (cells + 1) (slots + (cT t).2.2) ls ⟨C, ⟨B.1, B.2.1, by omega, by omega⟩, A.push z1 o1 ?_, L, S_push S A.1 z1 o1, hb⟩
  have h3' : G.2.1 n = (t, (G.2.1 n).2) := Prod.ext hG rfl
  rw [h3']
  refine ⟨fun f hf hr => ?_, fun _ => ⟨cC, iS, hKn, (u_born (fT t) hts (inT t ht) hKn hkC e1 (fdT t ht)).to (fun f hf => dvT t f ht hf)⟩, fun h => absurd ht (Nat.not_lt.mpr h)⟩
  have hf' : f < (cT t).2.2 := by
    have h := hf
    simp only [nS, ht, if_true] at h
    exact h
  rcases fTk t f ht hf' with h | h | h
  · show narrow (fT t f) (.int 0) = .int 0; rw [h]; rfl
  · show narrow (fT t f) (.int 0) = .int 0; rw [h]; exact congrArg Value.int (by decide)
  · exact absurd (h.symm.trans hr) (by decide)
theorem go_newa {at_ : ArrayType} {t : Nat} {x : Int32} (len : Nat) (hd : decode Y.2.1 pc = .ok (.newarray at_, 2)) (hz : pc + 2 = z) (harr : Cond.arrayClass (newarray.typeOf at_) ∈ lw_gd) (hta : (at_ = .int ∧ t = 7) ∨ (at_ = .char ∧ t = 8)) (hx : x = nI len) (hl : len * 8 ≤ 536870912) (hk : 1 ≤ k) (hj : len ≤ j) (hG : G.2.1 n = (t, len)) (K : Go l G Y D (k - 1) (j - len) z lo (.ref n :: st) (n + 1) (upa i n 0) (upa r n none) Q) : Go l G Y D k j pc lo (.int x :: st) n i r Q := by
  subst hz; subst hx
  intro p e R s m args below meth c H locs cells slots ls ⟨C, B, A, L, S, hb⟩
  have hts := C.2.2.2.2.2.1
  have hN : (nI len).toNatClampNeg = len := nI_clamp (by omega)
  refine va_newaK C.1 C.2.1 (hts _ harr) rfl hd rfl (nI_pos (by omega)) hN ?_ (by omega) (by omega) A.1 fun H' cA e1 z1 o1 hAr hNm => ?_
  · rcases hta with ⟨rfl, -⟩ | ⟨rfl, -⟩
    · show len * 4 ≤ _; omega
    · show len * 2 ≤ _; omega
  refine K p e R s m args below meth c H' locs (cells + 1) (slots + len) ls ⟨C, ⟨B.1, B.2.1, by omega, by omega⟩, A.push z1 o1 ?_, L, S_push S A.1 z1 o1, hb⟩
  rw [hG]
  rcases hta with ⟨rfl, rfl⟩ | ⟨rfl, rfl⟩
  · exact ⟨fun _ _ _ => rfl, fun h => absurd h (show ¬ (7:Nat) < 7 by omega), fun _ => ⟨cA, e1, hAr, hNm⟩⟩
  · exact ⟨fun _ _ _ => rfl, fun h => absurd h (show ¬ (8:Nat) < 7 by omega), fun _ => ⟨cA, e1, hAr, hNm⟩⟩
theorem go_anewa {idx t tb : Nat} {x : Int32} (len : Nat) (hd : decode Y.2.1 pc = .ok (.anewarray idx, 3)) (hz : pc + 3 = z) (hcl : Cond.classLink Y.1.cls idx (cT tb).1 ∈ lw_gd) (hov : ∀ U, Ex U → va_AO (cT tb).1 U) (ht : 9 ≤ t ∧ t ≤ 12) (hcc : ∀ q, fT t q = .object (cT tb).1) (hx : x = nI len) (hl : len * 4 ≤ 536870912) (hk : 1 ≤ k) (hj : len ≤ j) (hG : G.2.1 n = (t, len)) (K : Go l G Y D (k - 1) (j - len) z lo (.ref n :: st) (n + 1) (upa i n 0) (upa r n none) Q) : Go l G Y D k j pc lo (.int x :: st) n i r Q := by
  subst hz; subst hx
  intro p e R s m args below meth c H locs cells slots ls ⟨C, B, A, L, S, hb⟩
  have hts := C.2.2.2.2.2.1
  have hN : (nI len).toNatClampNeg = len := nI_clamp (by omega)
  refine W.anew C.1 C.2.1 C.2.2.2.2.1 (hts _ hcl) (va_AO.use (hov _ C.2.2.2.2.2.2.2.2)) rfl hd rfl (nI_pos (by omega)) (by rw [hN]; exact hl) (by omega) (by rw [hN]; omega) fun cA kA comp f1 f2 f3 f4 => ?_
  rw [hN, A.1]
  generalize hH1 : H.push ({ cls := cA, slots := Array.replicate len .null, vm := .none } : Cell) = H1
  have z1 : H1.size = n + 1 := by rw [← hH1, Array.size_push, A.1]
  have e1 : H1[n]? = some (arrV cA len (fun _ => .null)) := by rw [← hH1, ← A.1, Array.getElem?_push_size, ← arrV_new]
  have o1 : ∀ q : Nat, q < n → H1[q]? = H[q]? := fun q hq => by rw [← hH1, Array.getElem?_push, if_neg (by rw [A.1]; omega)]
  have hAr : ArrOfT s cA (.object (cT tb).1) := fun N z => ⟨(fun k h => by cases h), kA, f2, comp, f3⟩
  refine K p e R s m args below meth c H1 locs (cells + 1) (slots + len) ls ⟨C, ⟨B.1, B.2.1, by omega, by omega⟩, A.push z1 o1 ?_, L, S_push S A.1 z1 o1, hb⟩
  rw [hG]
  refine ⟨fun q _ hr => absurd ((fT9r ht q).1.symm.trans hr) (by decide), fun h => absurd (show t < 7 from h) (by omega), fun _ => ⟨cA, ?_, by show ArrOfT s cA (fT t 0); rw [hcc 0]; exact hAr, by show va_RA s cA (fT t 0); rw [hcc 0]; exact ⟨kA, comp, f2, f3, f4, f1⟩⟩⟩
  rw [e1]
  congr 2
  funext q
  show Value.null = vl t q 0 none
  exact (vl_r (o := none) (fT9r ht q).1).symm
/-! a method's contract out of the judgement at its entry -/
theorem go_met {As : List Value} (hpl : plainName Y.1.cls = true) (hcat : catOk As) (hlen : As.length ≤ Y.2.2.1) (hC : Go l G Y D k j 0 (lentry As Y.2.2.1) [] n i r Q) :
    Met l Y.1 (Cond.code Y.1 Y.2.1 Y.2.2.1 Y.2.2.2 :: lw_gd) { frames := D, cells := k, slots := j, locals := 32 * D } (va_Pc As (fun U => Abs G U U.heap n i r ∧ G.1 ≤ U.heap.size ∧ Ex U)) (Qc G Q) k j (fun q => G.1 ≤ q) := by
  refine Met.ofW (cc := Y.2.1) (maxL := Y.2.2.1) (ret := Y.2.2.2) hpl rfl ?_
  intro p e s m args below meth c s₁ B hml hv
  obtain ⟨rfl, hA, hb, hex⟩ := hv
  have hts := atoms_spec (ws := Cond.code Y.1 Y.2.1 Y.2.2.1 Y.2.2.2 :: lw_gd) B.pre
  rw [lg_entry_eq]
  exact hC p e _ s m As.toArray below meth c s.heap [] 0 0 _ ⟨⟨B.exec, B.bytes, B.returns, hml, findClass_of_methodNamed B.named, fun w hw => hts w (List.mem_cons_of_mem _ hw), B.notSynchronized, (name_of_methodNamed B.named B.method).1, hex⟩, ⟨Nat.le_refl _, Nat.le_refl _, by show 0 + k ≤ k; omega, by show 0 + j ≤ j; omega⟩, hA, Lcl.entry hcat hlen, va_S.rf, hb⟩
/-- what a call says, and how the caller goes on -/
theorem go_after {k' j' : Nat} {rest st0 : List Value} {Q' : QP} {a : Array Value} {p : Program} {e : Env} {R : Room} {s : State} {m : MethodId} {args : Array Value} {below : List Frame} {meth : Method} {c : Code} {H : Heap} {locs : List Loc} {cells slots : Nat} {ls : Array Slot}
    (E : EN G Y D k j lo n i r p R s m args meth c H locs cells slots ls) (hk : k' ≤ k) (hj : j' ≤ j)
    (hr : va_Run p l e R s m args below meth c H locs cells slots k' j' (F0 m pc ls st0) rest (Qc G Q' a) (fun q => G.1 ≤ q))
    (K : ∀ v n2 i2 r2, Q' v n2 i2 r2 → Go l G Y D (k - k') (j - j') (pc + 3) lo (v.toList ++ rest) n2 i2 r2 Q) :
    W p l e R s m args below meth c H locs cells slots (MQ below (Qc G Q) args s R.cells R.slots (fun q => G.1 ≤ q)) (F0 m pc ls st0) := by
  intro T hT X
  obtain ⟨C, B, A, L, S, hb⟩ := E
  obtain ⟨v, st₀, t, T', L2, h0, X', hL, e1, e2, ⟨⟨v', n2, i2, r2, hv, hA2, hQ⟩, hz, hkp⟩, st⟩ := hr T hT X
  have hv' : v = v' := Outcome.returned.inj hv
  subst hv'
  rw [h0] at hz hkp
  have hS' : va_S (fun q => G.1 ≤ q) s.heap T'.heap (locs ++ L2) := ⟨Nat.le_trans S.1 (by rw [e1]; exact hz), fun q h1 h2 => by rw [e1, hkp q (Nat.lt_of_lt_of_le h1 S.1) h2]; exact S.2.1 q h1 h2, fun q hq => by
      rcases List.mem_append.mp hq with h | h
      · exact S.2.2 q h
      · exact hL q h⟩
  have hal : t.vm.Alike s.vm := by rw [← e2]; exact X'.warmed.alike.symm
  have hA' : Abs G s T'.heap n2 i2 r2 := by rw [e1]; exact hA2.moved hal
  obtain ⟨t2, a1, b1⟩ := K v n2 i2 r2 hQ p e R s m args below meth c T'.heap (locs ++ L2) (cells + k') (slots + j') ls ⟨C, ⟨B.1, B.2.1, by omega, by omega⟩, hA', L, hS', hb⟩ T' rfl X'
  exact ⟨t2, st t2 a1, b1⟩
/-- what a call site needs of the tables -/
def MLink (Y' : AM) (nP : Nat) : Prop := Cond.code Y'.1 Y'.2.1 Y'.2.2.1 Y'.2.2.2 ∈ lw_gd ∧ Cond.initialized Y'.1.cls ∈ lw_gd ∧ (Y'.1.cls ≠ "java/lang/invoke/MethodHandle" ∧ Y'.1.cls ≠ "java/lang/invoke/VarHandle" ∧ (parseMethodDescriptor Y'.1.desc).map (fun d => d.parameters.length) = some nP) ∧ plainName Y'.1.cls = true ∧ Y'.2.2.1 ≤ 13
theorem good_ws {Y' : AM} {nP : Nat} (h : MLink Y' nP) : GoodIn lw_gd (Cond.code Y'.1 Y'.2.1 Y'.2.2.1 Y'.2.2.2 :: lw_gd) := by
  intro w hw
  have hm : w ∈ lw_gd := by
    rcases List.mem_cons.mp hw with rfl | q
    · exact h.1
    · exact q
  exact ⟨hm, good_of_word (lw_gdGood w hm)⟩
theorem rest_cat {rest : List Value} (h : rest.length ≤ 4) : (rest.map fun v => v.category).sum ≤ 8 := by
  have : ∀ l : List Value, (l.map fun v => v.category).sum ≤ 2 * l.length := by
    intro l
    induction l with
    | nil => simp
    | cons v t ih =>
      have := lv_cat v
      simp only [List.map_cons, List.sum_cons, List.length_cons]
      omega
  have := this rest
  omega
theorem abs_blind {As : List Value} : FrameBlind (va_Pc As (fun U => Abs G U U.heap n i r ∧ G.1 ≤ U.heap.size ∧ Ex U)) := fun a U g mk q => ⟨q.1, Abs.moved (u := U) (U := U.calling g mk a) (Vm.Alike.refl U.vm) q.2.1, q.2.2.1, Ex.same (s := U) (U := U.calling g mk a) rfl q.2.2.2⟩
theorem go_callV {Y' : AM} {D' k' j' idx t b nP : Nat} {rest : List Value} {Q' : QP} (As : List Value) (hd : decode Y.2.1 pc = .ok (.invokevirtual idx, 3)) (hz : pc + 3 = z) (hM : MLink Y' nP)
    (hw : Cond.methodLink Y.1.cls idx Y'.1 ∈ lw_gd ∧ Cond.instanceMethod Y'.1 ∈ lw_gd ∧ Cond.selects Y'.1.cls Y'.1 Y'.1 ∈ lw_gd) (ht : t < 7 ∧ (cT t).1 = Y'.1.cls) (hok : Ok G n b t) (hst : st = As.reverse ++ .ref b :: rest) (hAn : As.length = nP) (hAl : nP + 1 ≤ Y'.2.2.1) (hcat : catOk As) (hr : rest.length ≤ 4) (hD : D' + 1 ≤ D) (hk : k' ≤ k) (hj : j' ≤ j)
    (hC : Go l G Y' D' k' j' 0 (lentry (.ref b :: As) Y'.2.2.1) [] n i r Q') (K : ∀ v n2 i2 r2, Q' v n2 i2 r2 → Go l G Y D (k - k') (j - j') z lo (v.toList ++ rest) n2 i2 r2 Q) : Go l G Y D k j pc lo st n i r Q := by
  subst hz; subst hst; subst hAn
  intro p e R s m args below meth c H locs cells slots ls E
  have E' := E
  obtain ⟨C, B, A, L, S, hb⟩ := E'
  have hts := C.2.2.2.2.2.1
  have hmet := go_met hM.2.2.2.1 (cat_r (x := b) hcat) (by simpa using hAl) hC
  refine go_after E hk hj (va_runV (As := As) (C := Y'.1.cls) ⟨C.1, C.2.1, C.2.2.2.1, C.2.2.2.2.1, hts⟩ hmet ⟨callB_of As.length hts (good_ws hM) rfl rfl rfl (hts _ hM.2.1) (hts _ hw.1) hM.2.2.1 ⟨by show D' + 1 ≤ R.frames; omega, by show 8 + (Y'.2.2.1 + 11) + 32 * D' ≤ R.locals; have := hM.2.2.2.2; omega⟩, hts _ hw.2.1, hts _ hw.2.2⟩ ⟨abs_blind, ?_, fun U hU hW => ⟨rfl, by rw [hU]; exact A.moved hW.alike, by rw [hU]; exact Nat.le_trans hb S.1, C.2.2.2.2.2.2.2.2.warm hW⟩⟩ rfl rfl (L.1) rfl (lv_room (rest_cat hr)) hd ⟨by omega, by omega⟩) K
  obtain ⟨h1, h2, h3⟩ := hok
  obtain ⟨-, hc, -⟩ := A.2.2.1 b h1 h2
  rw [h3] at hc
  obtain ⟨cC, iS, hKn, cell, q1, q2, q3, q4⟩ := hc ht.1
  exact ⟨cell, q1, by rw [q3]; rfl, by rw [← ht.2, q2]; exact hKn.2.1⟩
theorem go_callS {Y' : AM} {D' k' j' idx nP : Nat} {rest : List Value} {Q' : QP} (As : List Value) (hd : decode Y.2.1 pc = .ok (.invokestatic idx, 3)) (hz : pc + 3 = z) (hM : MLink Y' nP)
    (hw : Cond.methodLink Y.1.cls idx Y'.1 ∈ lw_gd ∧ Cond.static Y'.1 ∈ lw_gd) (hst : st = As.reverse ++ rest) (hAn : As.length = nP) (hAl : nP ≤ Y'.2.2.1) (hcat : catOk As) (hr : rest.length ≤ 4) (hD : D' + 1 ≤ D) (hk : k' ≤ k) (hj : j' ≤ j)
    (hC : Go l G Y' D' k' j' 0 (lentry As Y'.2.2.1) [] n i r Q') (K : ∀ v n2 i2 r2, Q' v n2 i2 r2 → Go l G Y D (k - k') (j - j') z lo (v.toList ++ rest) n2 i2 r2 Q) : Go l G Y D k j pc lo st n i r Q := by
  subst hz; subst hst; subst hAn
  intro p e R s m args below meth c H locs cells slots ls E
  have E' := E
  obtain ⟨C, B, A, L, S, hb⟩ := E'
  have hts := C.2.2.2.2.2.1
  have hmet := go_met hM.2.2.2.1 hcat hAl hC
  exact go_after E hk hj (va_runS (As := As) ⟨C.1, C.2.1, C.2.2.2.1, C.2.2.2.2.1, hts⟩ hmet ⟨callB_of As.length hts (good_ws hM) rfl rfl rfl (hts _ hM.2.1) (hts _ hw.1) hM.2.2.1 ⟨by show D' + 1 ≤ R.frames; omega, by show 8 + (Y'.2.2.1 + 11) + 32 * D' ≤ R.locals; have := hM.2.2.2.2; omega⟩, hts _ hw.2⟩ ⟨abs_blind, fun U hU hW => ⟨rfl, by rw [hU]; exact A.moved hW.alike, by rw [hU]; exact Nat.le_trans hb S.1, C.2.2.2.2.2.2.2.2.warm hW⟩⟩ rfl rfl (L.1) rfl (lv_room (rest_cat hr)) hd ⟨by omega, by omega⟩) K
theorem go_callSN {Y' : AM} {host : String} {D' k' j' idx nP : Nat} {rest : List Value} {Q' : QP} (As : List Value) (hd : decode Y.2.1 pc = .ok (.invokestatic idx, 3)) (hz : pc + 3 = z) (hM : MLink Y' nP)
    (hw : (∀ U, Ex U → va_Nw (.methodLinkNest Y.1.cls idx Y'.1 host) U) ∧ Cond.static Y'.1 ∈ lw_gd) (hst : st = As.reverse ++ rest) (hAn : As.length = nP) (hAl : nP ≤ Y'.2.2.1) (hcat : catOk As) (hr : rest.length ≤ 4) (hD : D' + 1 ≤ D) (hk : k' ≤ k) (hj : j' ≤ j)
    (hC : Go l G Y' D' k' j' 0 (lentry As Y'.2.2.1) [] n i r Q') (K : ∀ v n2 i2 r2, Q' v n2 i2 r2 → Go l G Y D (k - k') (j - j') z lo (v.toList ++ rest) n2 i2 r2 Q) : Go l G Y D k j pc lo st n i r Q := by
  subst hz; subst hst; subst hAn
  intro p e R s m args below meth c H locs cells slots ls E
  have E' := E
  obtain ⟨C, B, A, L, S, hb⟩ := E'
  have hts := C.2.2.2.2.2.1
  have hmet := go_met hM.2.2.2.1 hcat hAl hC
  exact go_after E hk hj (va_runSN (As := As) ⟨C.1, C.2.1, C.2.2.2.1, C.2.2.2.2.1, hts⟩ hmet ⟨va_cnB As.length hts (good_ws hM) rfl rfl rfl (hw.1 _ C.2.2.2.2.2.2.2.2) (hts _ hM.2.1) hM.2.2.1 ⟨by show D' + 1 ≤ R.frames; omega, by show 8 + (Y'.2.2.1 + 11) + 32 * D' ≤ R.locals; have := hM.2.2.2.2; omega⟩, hts _ hw.2, trivial⟩ ⟨abs_blind, fun U hU hW => ⟨rfl, by rw [hU]; exact A.moved hW.alike, by rw [hU]; exact Nat.le_trans hb S.1, C.2.2.2.2.2.2.2.2.warm hW⟩⟩ rfl rfl (L.1) rfl (lv_room (rest_cat hr)) hd ⟨by omega, by omega⟩) K
theorem go_callI {Y' : AM} {D' k' j' idx b nP : Nat} {rest : List Value} {Q' : QP} (As : List Value) (hd : decode Y.2.1 pc = .ok (.invokespecial idx, 3)) (hz : pc + 3 = z) (hM : MLink Y' nP) (hret : Y'.2.2.2 = none)
    (hw : Cond.methodLink Y.1.cls idx Y'.1 ∈ lw_gd ∧ Cond.instanceMethod Y'.1 ∈ lw_gd ∧ Y'.1.name = "<init>") (hst : st = As.reverse ++ .ref b :: rest) (hAn : As.length = nP) (hAl : nP + 1 ≤ Y'.2.2.1) (hcat : catOk As) (hr : rest.length ≤ 4) (hD : D' + 1 ≤ D) (hk : k' ≤ k) (hj : j' ≤ j)
    (hC : Go l G Y' D' k' j' 0 (lentry (.ref b :: As) Y'.2.2.1) [] n i r Q') (K : ∀ v n2 i2 r2, Q' v n2 i2 r2 → Go l G Y D (k - k') (j - j') z lo (v.toList ++ rest) n2 i2 r2 Q) : Go l G Y D k j pc lo st n i r Q := by
  subst hz; subst hst; subst hAn
  intro p e R s m args below meth c H locs cells slots ls E
  have E' := E
  obtain ⟨C, B, A, L, S, hb⟩ := E'
  have hts := C.2.2.2.2.2.1
  have hmet := go_met hM.2.2.2.1 (cat_r (x := b) hcat) (by simpa using hAl) hC
  rw [hret] at hmet
  have hg := good_ws hM
  rw [hret] at hg
  exact go_after E hk hj (va_runI (As := As) ⟨C.1, C.2.1, C.2.2.2.1, C.2.2.2.2.1, hts⟩ hmet ⟨callB_of As.length hts hg rfl rfl rfl (hts _ hM.2.1) (hts _ hw.1) hM.2.2.1 ⟨by show D' + 1 ≤ R.frames; omega, by show 8 + (Y'.2.2.1 + 11) + 32 * D' ≤ R.locals; have := hM.2.2.2.2; omega⟩, hw.2.2, hts _ hw.2.1⟩ ⟨abs_blind, fun U hU hW => ⟨rfl, by rw [hU]; exact A.moved hW.alike, by rw [hU]; exact Nat.le_trans hb S.1, C.2.2.2.2.2.2.2.2.warm hW⟩⟩ rfl rfl (L.1) rfl (lv_room (rest_cat hr)) hd ⟨by omega, by omega⟩) K
theorem go_callIN {Y' : AM} {host : String} {D' k' j' idx b nP : Nat} {rest : List Value} {Q' : QP} (As : List Value) (hd : decode Y.2.1 pc = .ok (.invokespecial idx, 3)) (hz : pc + 3 = z) (hM : MLink Y' nP) (hret : Y'.2.2.2 = none)
    (hw : (∀ U, Ex U → va_Nw (.methodLinkNest Y.1.cls idx Y'.1 host) U) ∧ Cond.instanceMethod Y'.1 ∈ lw_gd ∧ Y'.1.name = "<init>") (hst : st = As.reverse ++ .ref b :: rest) (hAn : As.length = nP) (hAl : nP + 1 ≤ Y'.2.2.1) (hcat : catOk As) (hr : rest.length ≤ 4) (hD : D' + 1 ≤ D) (hk : k' ≤ k) (hj : j' ≤ j)
    (hC : Go l G Y' D' k' j' 0 (lentry (.ref b :: As) Y'.2.2.1) [] n i r Q') (K : ∀ v n2 i2 r2, Q' v n2 i2 r2 → Go l G Y D (k - k') (j - j') z lo (v.toList ++ rest) n2 i2 r2 Q) : Go l G Y D k j pc lo st n i r Q := by
  subst hz; subst hst; subst hAn
  intro p e R s m args below meth c H locs cells slots ls E
  have E' := E
  obtain ⟨C, B, A, L, S, hb⟩ := E'
  have hts := C.2.2.2.2.2.1
  have hmet := go_met hM.2.2.2.1 (cat_r (x := b) hcat) (by simpa using hAl) hC
  rw [hret] at hmet
  have hg := good_ws hM
  rw [hret] at hg
  exact go_after E hk hj (va_runIN (As := As) ⟨C.1, C.2.1, C.2.2.2.1, C.2.2.2.2.1, hts⟩ hmet ⟨va_cnB As.length hts hg rfl rfl rfl (hw.1 _ C.2.2.2.2.2.2.2.2) (hts _ hM.2.1) hM.2.2.1 ⟨by show D' + 1 ≤ R.frames; omega, by show 8 + (Y'.2.2.1 + 11) + 32 * D' ≤ R.locals; have := hM.2.2.2.2; omega⟩, hw.2.2, hts _ hw.2.1⟩ ⟨abs_blind, fun U hU hW => ⟨rfl, by rw [hU]; exact A.moved hW.alike, by rw [hU]; exact Nat.le_trans hb S.1, C.2.2.2.2.2.2.2.2.warm hW⟩⟩ rfl rfl (L.1) rfl (lv_room (rest_cat hr)) hd ⟨by omega, by omega⟩) K
theorem go_objinit {idx a : Nat} (hd : decode Y.2.1 pc = .ok (.invokespecial idx, 3)) (hz : pc + 3 = z) (hw : Cond.methodLink Y.1.cls idx Lib.objectInit ∈ lw_gd) (hr : st.length ≤ 4) (hD : 1 ≤ D) (K : Go l G Y D k j z lo st n i r Q) : Go l G Y D k j pc lo (.ref a :: st) n i r Q := by
  subst hz
  intro p e R s m args below meth c H locs cells slots ls E
  have KK := K p e R s m args below meth c H locs cells slots ls E
  obtain ⟨C, B, A, L, S, hb⟩ := E
  have hts := C.2.2.2.2.2.1
  have h8 := lv_room (m := m) (pc := pc) (ls := ls) (rest := .ref a :: st) (rest_cat hr)
  exact W.objInit C.1 C.2.1 C.2.2.2.2.1 (hts _ hw) (hts _ (lw_in (by decide +kernel) rfl)) (hts _ (lw_in (by decide +kernel) rfl)) rfl (L.1.trans C.2.2.2.1.symm) rfl hd (by omega) (by omega) KK
theorem go_max {idx : Nat} {x y v : Int32} (hd : decode Y.2.1 pc = .ok (.invokestatic idx, 3)) (hz : pc + 3 = z) (hw : Cond.methodLink Y.1.cls idx Lib.Math.max.name ∈ lw_gd) (hr : st.length ≤ 4) (hD : 1 ≤ D) (hv : (if x < y then y else x) = v) (K : Go l G Y D k j z lo (.int v :: st) n i r Q) : Go l G Y D k j pc lo (.int y :: .int x :: st) n i r Q := by
  subst hz; subst hv
  intro p e R s m args below meth c H locs cells slots ls E
  have KK := K p e R s m args below meth c H locs cells slots ls E
  obtain ⟨C, B, A, L, S, hb⟩ := E
  have hts := C.2.2.2.2.2.1
  have h8 := rest_cat hr
  exact va_mmax C.1 C.2.1 (C.2.2.2.1.trans L.1.symm) C.2.2.2.2.1 (hts _ hw) (hts _ (lw_in (by decide +kernel) rfl)) (hts _ (lw_in (by decide +kernel) rfl)) (hts _ (lw_in (by decide +kernel) rfl)) (by omega) (by omega) (by omega) (by omega) hd KK
end GOMAKE
end
section
theorem fX1_17 : FLink RX1 17 1 0 := ⟨by decide, by decide, lw_in (List.mem_of_getElem? (i := 82) (by decide +kernel)) rfl, rfl⟩
theorem fX4_152 : FLink RX4 152 1 0 := ⟨by decide, by decide, lw_in (List.mem_of_getElem? (i := 83) (by decide +kernel)) rfl, rfl⟩
theorem fX1_21 : FLink RX1 21 1 1 := ⟨by decide, by decide, lw_in (List.mem_of_getElem? (i := 84) (by decide +kernel)) rfl, rfl⟩
theorem fX4_158 : FLink RX4 158 1 1 := ⟨by decide, by decide, lw_in (List.mem_of_getElem? (i := 85) (by decide +kernel)) rfl, rfl⟩
theorem fX1_25 : FLink RX1 25 1 2 := ⟨by decide, by decide, lw_in (List.mem_of_getElem? (i := 86) (by decide +kernel)) rfl, rfl⟩
theorem fX4_183 : FLink RX4 183 1 2 := ⟨by decide, by decide, lw_in (List.mem_of_getElem? (i := 87) (by decide +kernel)) rfl, rfl⟩
theorem fX1_28 : FLink RX1 28 1 3 := ⟨by decide, by decide, lw_in (List.mem_of_getElem? (i := 88) (by decide +kernel)) rfl, rfl⟩
theorem fX4_163 : FLink RX4 163 1 3 := ⟨by decide, by decide, lw_in (List.mem_of_getElem? (i := 89) (by decide +kernel)) rfl, rfl⟩
theorem fX1_31 : FLink RX1 31 1 4 := ⟨by decide, by decide, lw_in (List.mem_of_getElem? (i := 90) (by decide +kernel)) rfl, rfl⟩
theorem fX4_140 : FLink RX4 140 1 4 := ⟨by decide, by decide, lw_in (List.mem_of_getElem? (i := 91) (by decide +kernel)) rfl, rfl⟩
theorem fX1_34 : FLink RX1 34 1 5 := ⟨by decide, by decide, lw_in (List.mem_of_getElem? (i := 92) (by decide +kernel)) rfl, rfl⟩
theorem fX4_137 : FLink RX4 137 1 5 := ⟨by decide, by decide, lw_in (List.mem_of_getElem? (i := 93) (by decide +kernel)) rfl, rfl⟩
theorem fX1_37 : FLink RX1 37 1 6 := ⟨by decide, by decide, lw_in (List.mem_of_getElem? (i := 94) (by decide +kernel)) rfl, rfl⟩
theorem fX1_40 : FLink RX1 40 1 7 := ⟨by decide, by decide, lw_in (List.mem_of_getElem? (i := 95) (by decide +kernel)) rfl, rfl⟩
theorem fX4_177 : FLink RX4 177 1 7 := ⟨by decide, by decide, lw_in (List.mem_of_getElem? (i := 96) (by decide +kernel)) rfl, rfl⟩
theorem fX1_43 : FLink RX1 43 1 8 := ⟨by decide, by decide, lw_in (List.mem_of_getElem? (i := 97) (by decide +kernel)) rfl, rfl⟩
theorem fX4_170 : FLink RX4 170 1 8 := ⟨by decide, by decide, lw_in (List.mem_of_getElem? (i := 98) (by decide +kernel)) rfl, rfl⟩
theorem fX1_46 : FLink RX1 46 1 9 := ⟨by decide, by decide, lw_in (List.mem_of_getElem? (i := 99) (by decide +kernel)) rfl, rfl⟩
theorem fX4_186 : FLink RX4 186 1 9 := ⟨by decide, by decide, lw_in (List.mem_of_getElem? (i := 100) (by decide +kernel)) rfl, rfl⟩
theorem fX1_11 : FLink RX1 11 1 10 := ⟨by decide, by decide, lw_in (List.mem_of_getElem? (i := 101) (by decide +kernel)) rfl, rfl⟩
theorem fX2_9 : FLink RX2 9 2 0 := ⟨by decide, by decide, lw_in (List.mem_of_getElem? (i := 131) (by decide +kernel)) rfl, rfl⟩
theorem fX4_104 : FLink RX4 104 2 0 := ⟨by decide, by decide, lw_in (List.mem_of_getElem? (i := 132) (by decide +kernel)) rfl, rfl⟩
theorem fX2_15 : FLink RX2 15 2 1 := ⟨by decide, by decide, lw_in (List.mem_of_getElem? (i := 133) (by decide +kernel)) rfl, rfl⟩
theorem fX4_107 : FLink RX4 107 2 1 := ⟨by decide, by decide, lw_in (List.mem_of_getElem? (i := 134) (by decide +kernel)) rfl, rfl⟩
theorem fX2_18 : FLink RX2 18 2 2 := ⟨by decide, by decide, lw_in (List.mem_of_getElem? (i := 135) (by decide +kernel)) rfl, rfl⟩
theorem fX4_110 : FLink RX4 110 2 2 := ⟨by decide, by decide, lw_in (List.mem_of_getElem? (i := 136) (by decide +kernel)) rfl, rfl⟩
theorem fX2_21 : FLink RX2 21 2 3 := ⟨by decide, by decide, lw_in (List.mem_of_getElem? (i := 137) (by decide +kernel)) rfl, rfl⟩
theorem fX4_113 : FLink RX4 113 2 3 := ⟨by decide, by decide, lw_in (List.mem_of_getElem? (i := 138) (by decide +kernel)) rfl, rfl⟩
theorem fX2_24 : FLink RX2 24 2 4 := ⟨by decide, by decide, lw_in (List.mem_of_getElem? (i := 139) (by decide +kernel)) rfl, rfl⟩
theorem fX4_116 : FLink RX4 116 2 4 := ⟨by decide, by decide, lw_in (List.mem_of_getElem? (i := 140) (by decide +kernel)) rfl, rfl⟩
theorem fX2_27 : FLink RX2 27 2 5 := ⟨by decide, by decide, lw_in (List.mem_of_getElem? (i := 141) (by decide +kernel)) rfl, rfl⟩
theorem fX4_119 : FLink RX4 119 2 5 := ⟨by decide, by decide, lw_in (List.mem_of_getElem? (i := 142) (by decide +kernel)) rfl, rfl⟩
theorem fX4_40 : FLink RX4 40 4 0 := ⟨by decide, by decide, lw_in (List.mem_of_getElem? (i := 156) (by decide +kernel)) rfl, rfl⟩
theorem fX5_80 : FLink RX5 80 4 0 := ⟨by decide, by decide, lw_in (List.mem_of_getElem? (i := 157) (by decide +kernel)) rfl, rfl⟩
theorem fX4_9 : FLink RX4 9 4 1 := ⟨by decide, by decide, lw_in (List.mem_of_getElem? (i := 158) (by decide +kernel)) rfl, rfl⟩
theorem fX5_151 : FLink RX5 151 4 1 := ⟨by decide, by decide, lw_in (List.mem_of_getElem? (i := 159) (by decide +kernel)) rfl, rfl⟩
theorem fX4_15 : FLink RX4 15 4 2 := ⟨by decide, by decide, lw_in (List.mem_of_getElem? (i := 160) (by decide +kernel)) rfl, rfl⟩
theorem fX5_154 : FLink RX5 154 4 2 := ⟨by decide, by decide, lw_in (List.mem_of_getElem? (i := 161) (by decide +kernel)) rfl, rfl⟩
theorem fX4_18 : FLink RX4 18 4 3 := ⟨by decide, by decide, lw_in (List.mem_of_getElem? (i := 162) (by decide +kernel)) rfl, rfl⟩
theorem fX4_24 : FLink RX4 24 4 4 := ⟨by decide, by decide, lw_in (List.mem_of_getElem? (i := 163) (by decide +kernel)) rfl, rfl⟩
theorem fX5_114 : FLink RX5 114 4 4 := ⟨by decide, by decide, lw_in (List.mem_of_getElem? (i := 164) (by decide +kernel)) rfl, rfl⟩
theorem fX4_30 : FLink RX4 30 4 5 := ⟨by decide, by decide, lw_in (List.mem_of_getElem? (i := 165) (by decide +kernel)) rfl, rfl⟩
theorem fX5_130 : FLink RX5 130 4 5 := ⟨by decide, by decide, lw_in (List.mem_of_getElem? (i := 166) (by decide +kernel)) rfl, rfl⟩
theorem fX4_51 : FLink RX4 51 4 6 := ⟨by decide, by decide, lw_in (List.mem_of_getElem? (i := 167) (by decide +kernel)) rfl, rfl⟩
theorem fX4_57 : FLink RX4 57 4 7 := ⟨by decide, by decide, lw_in (List.mem_of_getElem? (i := 168) (by decide +kernel)) rfl, rfl⟩
theorem fX4_60 : FLink RX4 60 4 8 := ⟨by decide, by decide, lw_in (List.mem_of_getElem? (i := 169) (by decide +kernel)) rfl, rfl⟩
theorem fX4_63 : FLink RX4 63 4 9 := ⟨by decide, by decide, lw_in (List.mem_of_getElem? (i := 170) (by decide +kernel)) rfl, rfl⟩
theorem fX4_66 : FLink RX4 66 4 10 := ⟨by decide, by decide, lw_in (List.mem_of_getElem? (i := 171) (by decide +kernel)) rfl, rfl⟩
theorem fX4_69 : FLink RX4 69 4 11 := ⟨by decide, by decide, lw_in (List.mem_of_getElem? (i := 172) (by decide +kernel)) rfl, rfl⟩
theorem fX4_72 : FLink RX4 72 4 12 := ⟨by decide, by decide, lw_in (List.mem_of_getElem? (i := 173) (by decide +kernel)) rfl, rfl⟩
theorem fX4_75 : FLink RX4 75 4 13 := ⟨by decide, by decide, lw_in (List.mem_of_getElem? (i := 174) (by decide +kernel)) rfl, rfl⟩
theorem fX5_93 : FLink RX5 93 4 13 := ⟨by decide, by decide, lw_in (List.mem_of_getElem? (i := 175) (by decide +kernel)) rfl, rfl⟩
theorem fX3_11 : FLink RX3 11 3 0 := ⟨by decide, by decide, lw_in (List.mem_of_getElem? (i := 213) (by decide +kernel)) rfl, rfl⟩
theorem fX4_87 : FLink RX4 87 3 0 := ⟨by decide, by decide, lw_in (List.mem_of_getElem? (i := 214) (by decide +kernel)) rfl, rfl⟩
theorem fX3_20 : FLink RX3 20 3 1 := ⟨by decide, by decide, lw_in (List.mem_of_getElem? (i := 215) (by decide +kernel)) rfl, rfl⟩
theorem fX5_77 : FLink RX5 77 3 1 := ⟨by decide, by decide, lw_in (List.mem_of_getElem? (i := 216) (by decide +kernel)) rfl, rfl⟩
theorem fX4_82 : FLink RX4 82 3 1 := ⟨by decide, by decide, lw_in (List.mem_of_getElem? (i := 217) (by decide +kernel)) rfl, rfl⟩
theorem fX3_17 : FLink RX3 17 3 2 := ⟨by decide, by decide, lw_in (List.mem_of_getElem? (i := 218) (by decide +kernel)) rfl, rfl⟩
theorem fX3_24 : FLink RX3 24 3 3 := ⟨by decide, by decide, lw_in (List.mem_of_getElem? (i := 219) (by decide +kernel)) rfl, rfl⟩
theorem fX3_27 : FLink RX3 27 3 4 := ⟨by decide, by decide, lw_in (List.mem_of_getElem? (i := 220) (by decide +kernel)) rfl, rfl⟩
theorem fX3_30 : FLink RX3 30 3 5 := ⟨by decide, by decide, lw_in (List.mem_of_getElem? (i := 221) (by decide +kernel)) rfl, rfl⟩
theorem fX5_67 : FLink RX5 67 3 5 := ⟨by decide, by decide, lw_in (List.mem_of_getElem? (i := 222) (by decide +kernel)) rfl, rfl⟩
theorem fX3_33 : FLink RX3 33 3 6 := ⟨by decide, by decide, lw_in (List.mem_of_getElem? (i := 223) (by decide +kernel)) rfl, rfl⟩
theorem fX3_36 : FLink RX3 36 3 7 := ⟨by decide, by decide, lw_in (List.mem_of_getElem? (i := 224) (by decide +kernel)) rfl, rfl⟩
theorem fX3_39 : FLink RX3 39 3 8 := ⟨by decide, by decide, lw_in (List.mem_of_getElem? (i := 225) (by decide +kernel)) rfl, rfl⟩
theorem fX5_12 : FLink RX5 12 5 0 := ⟨by decide, by decide, lw_in (List.mem_of_getElem? (i := 246) (by decide +kernel)) rfl, rfl⟩
theorem fX5_16 : FLink RX5 16 5 1 := ⟨by decide, by decide, lw_in (List.mem_of_getElem? (i := 247) (by decide +kernel)) rfl, rfl⟩
theorem fX5_19 : FLink RX5 19 5 2 := ⟨by decide, by decide, lw_in (List.mem_of_getElem? (i := 248) (by decide +kernel)) rfl, rfl⟩
theorem fX5_22 : FLink RX5 22 5 3 := ⟨by decide, by decide, lw_in (List.mem_of_getElem? (i := 249) (by decide +kernel)) rfl, rfl⟩
theorem fX5_100 : FLink RX5 100 5 4 := ⟨by decide, by decide, lw_in (List.mem_of_getElem? (i := 250) (by decide +kernel)) rfl, rfl⟩
theorem fX5_107 : FLink RX5 107 5 5 := ⟨by decide, by decide, lw_in (List.mem_of_getElem? (i := 251) (by decide +kernel)) rfl, rfl⟩
theorem fX5_26 : FLink RX5 26 5 6 := ⟨by decide, by decide, lw_in (List.mem_of_getElem? (i := 252) (by decide +kernel)) rfl, rfl⟩
theorem fX5_55 : FLink RX5 55 5 7 := ⟨by decide, by decide, lw_in (List.mem_of_getElem? (i := 253) (by decide +kernel)) rfl, rfl⟩
theorem fX5_33 : FLink RX5 33 5 8 := ⟨by decide, by decide, lw_in (List.mem_of_getElem? (i := 254) (by decide +kernel)) rfl, rfl⟩
theorem fX0_15 : FLink RX0 15 0 0 := ⟨by decide, by decide, lw_in (List.mem_of_getElem? (i := 353) (by decide +kernel)) rfl, rfl⟩
theorem fX4_91 : FLink RX4 91 0 0 := ⟨by decide, by decide, lw_in (List.mem_of_getElem? (i := 354) (by decide +kernel)) rfl, rfl⟩
theorem fX0_31 : FLink RX0 31 0 1 := ⟨by decide, by decide, lw_in (List.mem_of_getElem? (i := 355) (by decide +kernel)) rfl, rfl⟩
theorem fX1_49 : FLink RX1 49 0 1 := ⟨by decide, by decide, lw_in (List.mem_of_getElem? (i := 356) (by decide +kernel)) rfl, rfl⟩
theorem fX2_36 : FLink RX2 36 0 1 := ⟨by decide, by decide, lw_in (List.mem_of_getElem? (i := 357) (by decide +kernel)) rfl, rfl⟩
theorem fX3_82 : FLink RX3 82 0 1 := ⟨by decide, by decide, lw_in (List.mem_of_getElem? (i := 358) (by decide +kernel)) rfl, rfl⟩
theorem fX0_28 : FLink RX0 28 0 2 := ⟨by decide, by decide, lw_in (List.mem_of_getElem? (i := 359) (by decide +kernel)) rfl, rfl⟩
theorem fX3_75 : FLink RX3 75 0 2 := ⟨by decide, by decide, lw_in (List.mem_of_getElem? (i := 360) (by decide +kernel)) rfl, rfl⟩
theorem fX0_9 : FLink RX0 9 0 3 := ⟨by decide, by decide, lw_in (List.mem_of_getElem? (i := 361) (by decide +kernel)) rfl, rfl⟩
theorem fX2_31 : FLink RX2 31 0 3 := ⟨by decide, by decide, lw_in (List.mem_of_getElem? (i := 362) (by decide +kernel)) rfl, rfl⟩
theorem fX3_81 : FLink RX3 81 0 3 := ⟨by decide, by decide, lw_in (List.mem_of_getElem? (i := 363) (by decide +kernel)) rfl, rfl⟩
theorem fX1_61 : FLink RX1 61 0 3 := ⟨by decide, by decide, lw_in (List.mem_of_getElem? (i := 364) (by decide +kernel)) rfl, rfl⟩
theorem fX0_22 : FLink RX0 22 0 4 := ⟨by decide, by decide, lw_in (List.mem_of_getElem? (i := 365) (by decide +kernel)) rfl, rfl⟩
theorem fX1_50 : FLink RX1 50 0 4 := ⟨by decide, by decide, lw_in (List.mem_of_getElem? (i := 366) (by decide +kernel)) rfl, rfl⟩
theorem fX0_18 : FLink RX0 18 0 5 := ⟨by decide, by decide, lw_in (List.mem_of_getElem? (i := 367) (by decide +kernel)) rfl, rfl⟩
theorem fX0_25 : FLink RX0 25 0 6 := ⟨by decide, by decide, lw_in (List.mem_of_getElem? (i := 368) (by decide +kernel)) rfl, rfl⟩
theorem fX1_58 : FLink RX1 58 0 6 := ⟨by decide, by decide, lw_in (List.mem_of_getElem? (i := 369) (by decide +kernel)) rfl, rfl⟩
theorem fX6_7 : FLink RX6 7 6 0 := ⟨by decide, by decide, lw_in (List.mem_of_getElem? (i := 657) (by decide +kernel)) rfl, rfl⟩
theorem fX6_13 : FLink RX6 13 6 1 := ⟨by decide, by decide, lw_in (List.mem_of_getElem? (i := 658) (by decide +kernel)) rfl, rfl⟩
theorem fX6_35 : FLink RX6 35 6 2 := ⟨by decide, by decide, lw_in (List.mem_of_getElem? (i := 659) (by decide +kernel)) rfl, rfl⟩
theorem fX6_16 : FLink RX6 16 6 3 := ⟨by decide, by decide, lw_in (List.mem_of_getElem? (i := 660) (by decide +kernel)) rfl, rfl⟩
theorem fX6_162 : FLink RX6 162 6 4 := ⟨by decide, by decide, lw_in (List.mem_of_getElem? (i := 661) (by decide +kernel)) rfl, rfl⟩
theorem fX6_19 : FLink RX6 19 6 5 := ⟨by decide, by decide, lw_in (List.mem_of_getElem? (i := 662) (by decide +kernel)) rfl, rfl⟩
theorem fX6_22 : FLink RX6 22 6 6 := ⟨by decide, by decide, lw_in (List.mem_of_getElem? (i := 663) (by decide +kernel)) rfl, rfl⟩
theorem fX6_110 : FLink RX6 110 6 7 := ⟨by decide, by decide, lw_in (List.mem_of_getElem? (i := 664) (by decide +kernel)) rfl, rfl⟩
theorem fX6_25 : FLink RX6 25 6 8 := ⟨by decide, by decide, lw_in (List.mem_of_getElem? (i := 665) (by decide +kernel)) rfl, rfl⟩
theorem fX6_122 : FLink RX6 122 6 9 := ⟨by decide, by decide, lw_in (List.mem_of_getElem? (i := 666) (by decide +kernel)) rfl, rfl⟩
theorem fX6_113 : FLink RX6 113 6 10 := ⟨by decide, by decide, lw_in (List.mem_of_getElem? (i := 667) (by decide +kernel)) rfl, rfl⟩
theorem fX6_125 : FLink RX6 125 6 11 := ⟨by decide, by decide, lw_in (List.mem_of_getElem? (i := 668) (by decide +kernel)) rfl, rfl⟩
theorem fX6_28 : FLink RX6 28 6 12 := ⟨by decide, by decide, lw_in (List.mem_of_getElem? (i := 669) (by decide +kernel)) rfl, rfl⟩
theorem mlX0_init : MLink mX0_init 1 := ⟨lw_in (List.mem_of_getElem? (i := 351) (by decide +kernel)) rfl, lw_in (List.mem_of_getElem? (i := 52) (by decide +kernel)) rfl, by decide +kernel, by decide +kernel, by decide⟩
theorem mlX0_addPart : MLink mX0_addPart 1 := ⟨lw_in (List.mem_of_getElem? (i := 392) (by decide +kernel)) rfl, lw_in (List.mem_of_getElem? (i := 52) (by decide +kernel)) rfl, by decide +kernel, by decide +kernel, by decide⟩
theorem mlX0_tell : MLink mX0_tell 1 := ⟨lw_in (List.mem_of_getElem? (i := 559) (by decide +kernel)) rfl, lw_in (List.mem_of_getElem? (i := 52) (by decide +kernel)) rfl, by decide +kernel, by decide +kernel, by decide⟩
theorem mlX1_init : MLink mX1_init 0 := ⟨lw_in (List.mem_of_getElem? (i := 78) (by decide +kernel)) rfl, lw_in (List.mem_of_getElem? (i := 48) (by decide +kernel)) rfl, by decide +kernel, by decide +kernel, by decide⟩
theorem mlX1_makeNew : MLink mX1_makeNew 0 := ⟨lw_in (List.mem_of_getElem? (i := 646) (by decide +kernel)) rfl, lw_in (List.mem_of_getElem? (i := 48) (by decide +kernel)) rfl, by decide +kernel, by decide +kernel, by decide⟩
theorem mlX1_copyFrom : MLink mX1_copyFrom 1 := ⟨lw_in (List.mem_of_getElem? (i := 307) (by decide +kernel)) rfl, lw_in (List.mem_of_getElem? (i := 48) (by decide +kernel)) rfl, by decide +kernel, by decide +kernel, by decide⟩
theorem mlX1_lineUp : MLink mX1_lineUp 1 := ⟨lw_in (List.mem_of_getElem? (i := 465) (by decide +kernel)) rfl, lw_in (List.mem_of_getElem? (i := 48) (by decide +kernel)) rfl, by decide +kernel, by decide +kernel, by decide⟩
theorem mlX1_takeIn : MLink mX1_takeIn 1 := ⟨lw_in (List.mem_of_getElem? (i := 461) (by decide +kernel)) rfl, lw_in (List.mem_of_getElem? (i := 48) (by decide +kernel)) rfl, by decide +kernel, by decide +kernel, by decide⟩
theorem mlX1_waitingAt : MLink mX1_waitingAt 1 := ⟨lw_in (List.mem_of_getElem? (i := 477) (by decide +kernel)) rfl, lw_in (List.mem_of_getElem? (i := 48) (by decide +kernel)) rfl, by decide +kernel, by decide +kernel, by decide⟩
theorem mlX1_removeFirst : MLink mX1_removeFirst 0 := ⟨lw_in (List.mem_of_getElem? (i := 481) (by decide +kernel)) rfl, lw_in (List.mem_of_getElem? (i := 48) (by decide +kernel)) rfl, by decide +kernel, by decide +kernel, by decide⟩
theorem mlX1_errandsWithin : MLink mX1_errandsWithin 0 := ⟨lw_in (List.mem_of_getElem? (i := 423) (by decide +kernel)) rfl, lw_in (List.mem_of_getElem? (i := 48) (by decide +kernel)) rfl, by decide +kernel, by decide +kernel, by decide⟩
theorem mlX1_isStuck : MLink mX1_isStuck 0 := ⟨lw_in (List.mem_of_getElem? (i := 618) (by decide +kernel)) rfl, lw_in (List.mem_of_getElem? (i := 48) (by decide +kernel)) rfl, by decide +kernel, by decide +kernel, by decide⟩
theorem mlX1_tell : MLink mX1_tell 1 := ⟨lw_in (List.mem_of_getElem? (i := 550) (by decide +kernel)) rfl, lw_in (List.mem_of_getElem? (i := 48) (by decide +kernel)) rfl, by decide +kernel, by decide +kernel, by decide⟩
theorem mlX2_init : MLink mX2_init 0 := ⟨lw_in (List.mem_of_getElem? (i := 129) (by decide +kernel)) rfl, lw_in (List.mem_of_getElem? (i := 49) (by decide +kernel)) rfl, by decide +kernel, by decide +kernel, by decide⟩
theorem mlX2_copyFrom : MLink mX2_copyFrom 1 := ⟨lw_in (List.mem_of_getElem? (i := 311) (by decide +kernel)) rfl, lw_in (List.mem_of_getElem? (i := 49) (by decide +kernel)) rfl, by decide +kernel, by decide +kernel, by decide⟩
theorem mlX2_errands : MLink mX2_errands 0 := ⟨lw_in (List.mem_of_getElem? (i := 427) (by decide +kernel)) rfl, lw_in (List.mem_of_getElem? (i := 49) (by decide +kernel)) rfl, by decide +kernel, by decide +kernel, by decide⟩
theorem mlX2_tell : MLink mX2_tell 2 := ⟨lw_in (List.mem_of_getElem? (i := 567) (by decide +kernel)) rfl, lw_in (List.mem_of_getElem? (i := 49) (by decide +kernel)) rfl, by decide +kernel, by decide +kernel, by decide⟩
theorem mlX3_init : MLink mX3_init 0 := ⟨lw_in (List.mem_of_getElem? (i := 210) (by decide +kernel)) rfl, lw_in (List.mem_of_getElem? (i := 50) (by decide +kernel)) rfl, by decide +kernel, by decide +kernel, by decide⟩
theorem mlX3_countWithin : MLink mX3_countWithin 0 := ⟨lw_in (List.mem_of_getElem? (i := 399) (by decide +kernel)) rfl, lw_in (List.mem_of_getElem? (i := 50) (by decide +kernel)) rfl, by decide +kernel, by decide +kernel, by decide⟩
theorem mlX3_putInPlace : MLink mX3_putInPlace 1 := ⟨lw_in (List.mem_of_getElem? (i := 388) (by decide +kernel)) rfl, lw_in (List.mem_of_getElem? (i := 50) (by decide +kernel)) rfl, by decide +kernel, by decide +kernel, by decide⟩
theorem mlX3_takeHouse : MLink mX3_takeHouse 1 := ⟨lw_in (List.mem_of_getElem? (i := 347) (by decide +kernel)) rfl, lw_in (List.mem_of_getElem? (i := 50) (by decide +kernel)) rfl, by decide +kernel, by decide +kernel, by decide⟩
theorem mlX3_takeDigit : MLink mX3_takeDigit 1 := ⟨lw_in (List.mem_of_getElem? (i := 403) (by decide +kernel)) rfl, lw_in (List.mem_of_getElem? (i := 50) (by decide +kernel)) rfl, by decide +kernel, by decide +kernel, by decide⟩
theorem mlX3_isWorkZero : MLink mX3_isWorkZero 0 := ⟨lw_in (List.mem_of_getElem? (i := 411) (by decide +kernel)) rfl, lw_in (List.mem_of_getElem? (i := 50) (by decide +kernel)) rfl, by decide +kernel, by decide +kernel, by decide⟩
theorem mlX3_takeAfter : MLink mX3_takeAfter 1 := ⟨lw_in (List.mem_of_getElem? (i := 415) (by decide +kernel)) rfl, lw_in (List.mem_of_getElem? (i := 50) (by decide +kernel)) rfl, by decide +kernel, by decide +kernel, by decide⟩
theorem mlX3_takeInWork : MLink mX3_takeInWork 1 := ⟨lw_in (List.mem_of_getElem? (i := 407) (by decide +kernel)) rfl, lw_in (List.mem_of_getElem? (i := 50) (by decide +kernel)) rfl, by decide +kernel, by decide +kernel, by decide⟩
theorem mlX3_take : MLink mX3_take 1 := ⟨lw_in (List.mem_of_getElem? (i := 343) (by decide +kernel)) rfl, lw_in (List.mem_of_getElem? (i := 50) (by decide +kernel)) rfl, by decide +kernel, by decide +kernel, by decide⟩
theorem mlX3_read : MLink mX3_read 2 := ⟨lw_in (List.mem_of_getElem? (i := 339) (by decide +kernel)) rfl, lw_in (List.mem_of_getElem? (i := 50) (by decide +kernel)) rfl, by decide +kernel, by decide +kernel, by decide⟩
theorem mlX3_tell : MLink mX3_tell 1 := ⟨lw_in (List.mem_of_getElem? (i := 630) (by decide +kernel)) rfl, lw_in (List.mem_of_getElem? (i := 50) (by decide +kernel)) rfl, by decide +kernel, by decide +kernel, by decide⟩
theorem mlX4_firstWay : MLink mX4_firstWay 2 := ⟨lw_in (List.mem_of_getElem? (i := 74) (by decide +kernel)) rfl, lw_in (List.mem_of_getElem? (i := 47) (by decide +kernel)) rfl, by decide +kernel, by decide +kernel, by decide⟩
theorem mlX4_init : MLink mX4_init 0 := ⟨lw_in (List.mem_of_getElem? (i := 66) (by decide +kernel)) rfl, lw_in (List.mem_of_getElem? (i := 47) (by decide +kernel)) rfl, by decide +kernel, by decide +kernel, by decide⟩
theorem mlX4_copyWays : MLink mX4_copyWays 1 := ⟨lw_in (List.mem_of_getElem? (i := 303) (by decide +kernel)) rfl, lw_in (List.mem_of_getElem? (i := 47) (by decide +kernel)) rfl, by decide +kernel, by decide +kernel, by decide⟩
theorem mlX4_copyFrom : MLink mX4_copyFrom 1 := ⟨lw_in (List.mem_of_getElem? (i := 299) (by decide +kernel)) rfl, lw_in (List.mem_of_getElem? (i := 47) (by decide +kernel)) rfl, by decide +kernel, by decide +kernel, by decide⟩
theorem mlX4_startAnew : MLink mX4_startAnew 2 := ⟨lw_in (List.mem_of_getElem? (i := 642) (by decide +kernel)) rfl, lw_in (List.mem_of_getElem? (i := 47) (by decide +kernel)) rfl, by decide +kernel, by decide +kernel, by decide⟩
theorem mlX4_way : MLink mX4_way 2 := ⟨lw_in (List.mem_of_getElem? (i := 291) (by decide +kernel)) rfl, lw_in (List.mem_of_getElem? (i := 47) (by decide +kernel)) rfl, by decide +kernel, by decide +kernel, by decide⟩
theorem mlX4_putWay : MLink mX4_putWay 3 := ⟨lw_in (List.mem_of_getElem? (i := 315) (by decide +kernel)) rfl, lw_in (List.mem_of_getElem? (i := 47) (by decide +kernel)) rfl, by decide +kernel, by decide +kernel, by decide⟩
theorem mlX4_mint : MLink mX4_mint 0 := ⟨lw_in (List.mem_of_getElem? (i := 435) (by decide +kernel)) rfl, lw_in (List.mem_of_getElem? (i := 47) (by decide +kernel)) rfl, by decide +kernel, by decide +kernel, by decide⟩
theorem mlX4_post : MLink mX4_post 5 := ⟨lw_in (List.mem_of_getElem? (i := 439) (by decide +kernel)) rfl, lw_in (List.mem_of_getElem? (i := 47) (by decide +kernel)) rfl, by decide +kernel, by decide +kernel, by decide⟩
theorem mlX4_startErrands : MLink mX4_startErrands 1 := ⟨lw_in (List.mem_of_getElem? (i := 431) (by decide +kernel)) rfl, lw_in (List.mem_of_getElem? (i := 47) (by decide +kernel)) rfl, by decide +kernel, by decide +kernel, by decide⟩
theorem mlX4_isOnItsWay : MLink mX4_isOnItsWay 1 := ⟨lw_in (List.mem_of_getElem? (i := 489) (by decide +kernel)) rfl, lw_in (List.mem_of_getElem? (i := 47) (by decide +kernel)) rfl, by decide +kernel, by decide +kernel, by decide⟩
theorem mlX4_takeOut : MLink mX4_takeOut 1 := ⟨lw_in (List.mem_of_getElem? (i := 485) (by decide +kernel)) rfl, lw_in (List.mem_of_getElem? (i := 47) (by decide +kernel)) rfl, by decide +kernel, by decide +kernel, by decide⟩
theorem mlX5_isHouse : MLink mX5_isHouse 1 := ⟨lw_in (List.mem_of_getElem? (i := 280) (by decide +kernel)) rfl, lw_in (List.mem_of_getElem? (i := 46) (by decide +kernel)) rfl, by decide +kernel, by decide +kernel, by decide⟩
theorem mlX4_loseAskOf : MLink mX4_loseAskOf 1 := ⟨lw_in (List.mem_of_getElem? (i := 506) (by decide +kernel)) rfl, lw_in (List.mem_of_getElem? (i := 47) (by decide +kernel)) rfl, by decide +kernel, by decide +kernel, by decide⟩
theorem mlX4_dropMessage : MLink mX4_dropMessage 1 := ⟨lw_in (List.mem_of_getElem? (i := 502) (by decide +kernel)) rfl, lw_in (List.mem_of_getElem? (i := 47) (by decide +kernel)) rfl, by decide +kernel, by decide +kernel, by decide⟩
theorem mlX4_sendFirst : MLink mX4_sendFirst 2 := ⟨lw_in (List.mem_of_getElem? (i := 473) (by decide +kernel)) rfl, lw_in (List.mem_of_getElem? (i := 47) (by decide +kernel)) rfl, by decide +kernel, by decide +kernel, by decide⟩
theorem mlX4_sendWhatItCan : MLink mX4_sendWhatItCan 1 := ⟨lw_in (List.mem_of_getElem? (i := 469) (by decide +kernel)) rfl, lw_in (List.mem_of_getElem? (i := 47) (by decide +kernel)) rfl, by decide +kernel, by decide +kernel, by decide⟩
theorem mlX4_replaceLost : MLink mX4_replaceLost 0 := ⟨lw_in (List.mem_of_getElem? (i := 514) (by decide +kernel)) rfl, lw_in (List.mem_of_getElem? (i := 47) (by decide +kernel)) rfl, by decide +kernel, by decide +kernel, by decide⟩
theorem mlX4_countArriving : MLink mX4_countArriving 0 := ⟨lw_in (List.mem_of_getElem? (i := 452) (by decide +kernel)) rfl, lw_in (List.mem_of_getElem? (i := 47) (by decide +kernel)) rfl, by decide +kernel, by decide +kernel, by decide⟩
theorem mlX4_arrive : MLink mX4_arrive 1 := ⟨lw_in (List.mem_of_getElem? (i := 456) (by decide +kernel)) rfl, lw_in (List.mem_of_getElem? (i := 47) (by decide +kernel)) rfl, by decide +kernel, by decide +kernel, by decide⟩
theorem mlX4_workIn : MLink mX4_workIn 1 := ⟨lw_in (List.mem_of_getElem? (i := 493) (by decide +kernel)) rfl, lw_in (List.mem_of_getElem? (i := 47) (by decide +kernel)) rfl, by decide +kernel, by decide +kernel, by decide⟩
theorem mlX4_tick : MLink mX4_tick 0 := ⟨lw_in (List.mem_of_getElem? (i := 448) (by decide +kernel)) rfl, lw_in (List.mem_of_getElem? (i := 47) (by decide +kernel)) rfl, by decide +kernel, by decide +kernel, by decide⟩
theorem mlX4_isQuiet : MLink mX4_isQuiet 0 := ⟨lw_in (List.mem_of_getElem? (i := 592) (by decide +kernel)) rfl, lw_in (List.mem_of_getElem? (i := 47) (by decide +kernel)) rfl, by decide +kernel, by decide +kernel, by decide⟩
theorem mlX4_busyHouses : MLink mX4_busyHouses 0 := ⟨lw_in (List.mem_of_getElem? (i := 588) (by decide +kernel)) rfl, lw_in (List.mem_of_getElem? (i := 47) (by decide +kernel)) rfl, by decide +kernel, by decide +kernel, by decide⟩
theorem mlX4_isMoreThanGrainsOnItsWay : MLink mX4_isMoreThanGrainsOnItsWay 0 := ⟨lw_in (List.mem_of_getElem? (i := 600) (by decide +kernel)) rfl, lw_in (List.mem_of_getElem? (i := 47) (by decide +kernel)) rfl, by decide +kernel, by decide +kernel, by decide⟩
theorem mlX4_isIdle : MLink mX4_isIdle 0 := ⟨lw_in (List.mem_of_getElem? (i := 596) (by decide +kernel)) rfl, lw_in (List.mem_of_getElem? (i := 47) (by decide +kernel)) rfl, by decide +kernel, by decide +kernel, by decide⟩
theorem mlX4_isStuck : MLink mX4_isStuck 0 := ⟨lw_in (List.mem_of_getElem? (i := 614) (by decide +kernel)) rfl, lw_in (List.mem_of_getElem? (i := 47) (by decide +kernel)) rfl, by decide +kernel, by decide +kernel, by decide⟩
theorem mlX4_hasAsked : MLink mX4_hasAsked 0 := ⟨lw_in (List.mem_of_getElem? (i := 650) (by decide +kernel)) rfl, lw_in (List.mem_of_getElem? (i := 47) (by decide +kernel)) rfl, by decide +kernel, by decide +kernel, by decide⟩
theorem mlX4_grainsInHouses : MLink mX4_grainsInHouses 0 := ⟨lw_in (List.mem_of_getElem? (i := 580) (by decide +kernel)) rfl, lw_in (List.mem_of_getElem? (i := 47) (by decide +kernel)) rfl, by decide +kernel, by decide +kernel, by decide⟩
theorem mlX4_grainsOnTheirWay : MLink mX4_grainsOnTheirWay 0 := ⟨lw_in (List.mem_of_getElem? (i := 584) (by decide +kernel)) rfl, lw_in (List.mem_of_getElem? (i := 47) (by decide +kernel)) rfl, by decide +kernel, by decide +kernel, by decide⟩
theorem mlX4_errandsInAll : MLink mX4_errandsInAll 0 := ⟨lw_in (List.mem_of_getElem? (i := 419) (by decide +kernel)) rfl, lw_in (List.mem_of_getElem? (i := 47) (by decide +kernel)) rfl, by decide +kernel, by decide +kernel, by decide⟩
theorem mlX4_tell : MLink mX4_tell 1 := ⟨lw_in (List.mem_of_getElem? (i := 576) (by decide +kernel)) rfl, lw_in (List.mem_of_getElem? (i := 47) (by decide +kernel)) rfl, by decide +kernel, by decide +kernel, by decide⟩
theorem mlX5_init : MLink mX5_init 0 := ⟨lw_in (List.mem_of_getElem? (i := 58) (by decide +kernel)) rfl, lw_in (List.mem_of_getElem? (i := 46) (by decide +kernel)) rfl, by decide +kernel, by decide +kernel, by decide⟩
theorem mlX5_isWay : MLink mX5_isWay 1 := ⟨lw_in (List.mem_of_getElem? (i := 283) (by decide +kernel)) rfl, lw_in (List.mem_of_getElem? (i := 46) (by decide +kernel)) rfl, by decide +kernel, by decide +kernel, by decide⟩
theorem mlX5_record : MLink mX5_record 0 := ⟨lw_in (List.mem_of_getElem? (i := 295) (by decide +kernel)) rfl, lw_in (List.mem_of_getElem? (i := 46) (by decide +kernel)) rfl, by decide +kernel, by decide +kernel, by decide⟩
theorem mlX5_changeWay : MLink mX5_changeWay 3 := ⟨lw_in (List.mem_of_getElem? (i := 287) (by decide +kernel)) rfl, lw_in (List.mem_of_getElem? (i := 46) (by decide +kernel)) rfl, by decide +kernel, by decide +kernel, by decide⟩
theorem mlX5_setTime : MLink mX5_setTime 3 := ⟨lw_in (List.mem_of_getElem? (i := 277) (by decide +kernel)) rfl, lw_in (List.mem_of_getElem? (i := 46) (by decide +kernel)) rfl, by decide +kernel, by decide +kernel, by decide⟩
theorem mlX5_setBankTime : MLink mX5_setBankTime 2 := ⟨lw_in (List.mem_of_getElem? (i := 319) (by decide +kernel)) rfl, lw_in (List.mem_of_getElem? (i := 46) (by decide +kernel)) rfl, by decide +kernel, by decide +kernel, by decide⟩
theorem mlX5_changePower : MLink mX5_changePower 1 := ⟨lw_in (List.mem_of_getElem? (i := 327) (by decide +kernel)) rfl, lw_in (List.mem_of_getElem? (i := 46) (by decide +kernel)) rfl, by decide +kernel, by decide +kernel, by decide⟩
theorem mlX5_changeLeastPart : MLink mX5_changeLeastPart 1 := ⟨lw_in (List.mem_of_getElem? (i := 331) (by decide +kernel)) rfl, lw_in (List.mem_of_getElem? (i := 46) (by decide +kernel)) rfl, by decide +kernel, by decide +kernel, by decide⟩
theorem mlX5_set : MLink mX5_set 2 := ⟨lw_in (List.mem_of_getElem? (i := 323) (by decide +kernel)) rfl, lw_in (List.mem_of_getElem? (i := 46) (by decide +kernel)) rfl, by decide +kernel, by decide +kernel, by decide⟩
theorem mlX5_launch : MLink mX5_launch 0 := ⟨lw_in (List.mem_of_getElem? (i := 335) (by decide +kernel)) rfl, lw_in (List.mem_of_getElem? (i := 46) (by decide +kernel)) rfl, by decide +kernel, by decide +kernel, by decide⟩
theorem mlX5_pass : MLink mX5_pass 1 := ⟨lw_in (List.mem_of_getElem? (i := 443) (by decide +kernel)) rfl, lw_in (List.mem_of_getElem? (i := 46) (by decide +kernel)) rfl, by decide +kernel, by decide +kernel, by decide⟩
theorem mlX5_lose : MLink mX5_lose 1 := ⟨lw_in (List.mem_of_getElem? (i := 497) (by decide +kernel)) rfl, lw_in (List.mem_of_getElem? (i := 46) (by decide +kernel)) rfl, by decide +kernel, by decide +kernel, by decide⟩
theorem mlX5_makeGood : MLink mX5_makeGood 0 := ⟨lw_in (List.mem_of_getElem? (i := 510) (by decide +kernel)) rfl, lw_in (List.mem_of_getElem? (i := 46) (by decide +kernel)) rfl, by decide +kernel, by decide +kernel, by decide⟩
theorem mlX5_type : MLink mX5_type 1 := ⟨lw_in (List.mem_of_getElem? (i := 518) (by decide +kernel)) rfl, lw_in (List.mem_of_getElem? (i := 46) (by decide +kernel)) rfl, by decide +kernel, by decide +kernel, by decide⟩
theorem mlX5_clearText : MLink mX5_clearText 0 := ⟨lw_in (List.mem_of_getElem? (i := 522) (by decide +kernel)) rfl, lw_in (List.mem_of_getElem? (i := 46) (by decide +kernel)) rfl, by decide +kernel, by decide +kernel, by decide⟩
theorem mlX5_undo : MLink mX5_undo 0 := ⟨lw_in (List.mem_of_getElem? (i := 526) (by decide +kernel)) rfl, lw_in (List.mem_of_getElem? (i := 46) (by decide +kernel)) rfl, by decide +kernel, by decide +kernel, by decide⟩
theorem mlX5_keep : MLink mX5_keep 0 := ⟨lw_in (List.mem_of_getElem? (i := 530) (by decide +kernel)) rfl, lw_in (List.mem_of_getElem? (i := 46) (by decide +kernel)) rfl, by decide +kernel, by decide +kernel, by decide⟩
theorem mlX5_restore : MLink mX5_restore 0 := ⟨lw_in (List.mem_of_getElem? (i := 534) (by decide +kernel)) rfl, lw_in (List.mem_of_getElem? (i := 46) (by decide +kernel)) rfl, by decide +kernel, by decide +kernel, by decide⟩
theorem mlX5_time : MLink mX5_time 2 := ⟨lw_in (List.mem_of_getElem? (i := 538) (by decide +kernel)) rfl, lw_in (List.mem_of_getElem? (i := 46) (by decide +kernel)) rfl, by decide +kernel, by decide +kernel, by decide⟩
theorem mlX5_bankTime : MLink mX5_bankTime 1 := ⟨lw_in (List.mem_of_getElem? (i := 542) (by decide +kernel)) rfl, lw_in (List.mem_of_getElem? (i := 46) (by decide +kernel)) rfl, by decide +kernel, by decide +kernel, by decide⟩
theorem mlX5_house : MLink mX5_house 2 := ⟨lw_in (List.mem_of_getElem? (i := 546) (by decide +kernel)) rfl, lw_in (List.mem_of_getElem? (i := 46) (by decide +kernel)) rfl, by decide +kernel, by decide +kernel, by decide⟩
theorem mlX5_waiting : MLink mX5_waiting 3 := ⟨lw_in (List.mem_of_getElem? (i := 554) (by decide +kernel)) rfl, lw_in (List.mem_of_getElem? (i := 46) (by decide +kernel)) rfl, by decide +kernel, by decide +kernel, by decide⟩
theorem mlX5_message : MLink mX5_message 2 := ⟨lw_in (List.mem_of_getElem? (i := 563) (by decide +kernel)) rfl, lw_in (List.mem_of_getElem? (i := 46) (by decide +kernel)) rfl, by decide +kernel, by decide +kernel, by decide⟩
theorem mlX5_total : MLink mX5_total 1 := ⟨lw_in (List.mem_of_getElem? (i := 572) (by decide +kernel)) rfl, lw_in (List.mem_of_getElem? (i := 46) (by decide +kernel)) rfl, by decide +kernel, by decide +kernel, by decide⟩
theorem mlX5_ticksUntil : MLink mX5_ticksUntil 1 := ⟨lw_in (List.mem_of_getElem? (i := 608) (by decide +kernel)) rfl, lw_in (List.mem_of_getElem? (i := 46) (by decide +kernel)) rfl, by decide +kernel, by decide +kernel, by decide⟩
theorem mlX5_quietIn : MLink mX5_quietIn 0 := ⟨lw_in (List.mem_of_getElem? (i := 604) (by decide +kernel)) rfl, lw_in (List.mem_of_getElem? (i := 46) (by decide +kernel)) rfl, by decide +kernel, by decide +kernel, by decide⟩
theorem mlX5_idleIn : MLink mX5_idleIn 0 := ⟨lw_in (List.mem_of_getElem? (i := 622) (by decide +kernel)) rfl, lw_in (List.mem_of_getElem? (i := 46) (by decide +kernel)) rfl, by decide +kernel, by decide +kernel, by decide⟩
theorem mlX5_planned : MLink mX5_planned 1 := ⟨lw_in (List.mem_of_getElem? (i := 626) (by decide +kernel)) rfl, lw_in (List.mem_of_getElem? (i := 46) (by decide +kernel)) rfl, by decide +kernel, by decide +kernel, by decide⟩
theorem mlX5_wouldAskWith : MLink mX5_wouldAskWith 1 := ⟨lw_in (List.mem_of_getElem? (i := 638) (by decide +kernel)) rfl, lw_in (List.mem_of_getElem? (i := 46) (by decide +kernel)) rfl, by decide +kernel, by decide +kernel, by decide⟩
theorem mlX5_leastCoin : MLink mX5_leastCoin 0 := ⟨lw_in (List.mem_of_getElem? (i := 634) (by decide +kernel)) rfl, lw_in (List.mem_of_getElem? (i := 46) (by decide +kernel)) rfl, by decide +kernel, by decide +kernel, by decide⟩
theorem mlX6_init : MLink mX6_init 0 := ⟨lw_in (List.mem_of_getElem? (i := 655) (by decide +kernel)) rfl, lw_in (List.mem_of_getElem? (i := 51) (by decide +kernel)) rfl, by decide +kernel, by decide +kernel, by decide⟩
theorem mlX6_in : MLink mX6_in 3 := ⟨lw_in (List.mem_of_getElem? (i := 706) (by decide +kernel)) rfl, lw_in (List.mem_of_getElem? (i := 51) (by decide +kernel)) rfl, by decide +kernel, by decide +kernel, by decide⟩
theorem mlX6_isHouse : MLink mX6_isHouse 1 := ⟨lw_in (List.mem_of_getElem? (i := 703) (by decide +kernel)) rfl, lw_in (List.mem_of_getElem? (i := 51) (by decide +kernel)) rfl, by decide +kernel, by decide +kernel, by decide⟩
theorem mlX6_copy : MLink mX6_copy 2 := ⟨lw_in (List.mem_of_getElem? (i := 870) (by decide +kernel)) rfl, lw_in (List.mem_of_getElem? (i := 51) (by decide +kernel)) rfl, by decide +kernel, by decide +kernel, by decide⟩
theorem mlX6_record : MLink mX6_record 0 := ⟨lw_in (List.mem_of_getElem? (i := 710) (by decide +kernel)) rfl, lw_in (List.mem_of_getElem? (i := 51) (by decide +kernel)) rfl, by decide +kernel, by decide +kernel, by decide⟩
theorem mlX6_ofHouse : MLink mX6_ofHouse 2 := ⟨lw_in (List.mem_of_getElem? (i := 835) (by decide +kernel)) rfl, lw_in (List.mem_of_getElem? (i := 51) (by decide +kernel)) rfl, by decide +kernel, by decide +kernel, by decide⟩
theorem mlX6_setHouse : MLink mX6_setHouse 3 := ⟨lw_in (List.mem_of_getElem? (i := 815) (by decide +kernel)) rfl, lw_in (List.mem_of_getElem? (i := 51) (by decide +kernel)) rfl, by decide +kernel, by decide +kernel, by decide⟩
theorem mlX6_addToHouse : MLink mX6_addToHouse 3 := ⟨lw_in (List.mem_of_getElem? (i := 819) (by decide +kernel)) rfl, lw_in (List.mem_of_getElem? (i := 51) (by decide +kernel)) rfl, by decide +kernel, by decide +kernel, by decide⟩
theorem mlX6_ofErrand : MLink mX6_ofErrand 2 := ⟨lw_in (List.mem_of_getElem? (i := 754) (by decide +kernel)) rfl, lw_in (List.mem_of_getElem? (i := 51) (by decide +kernel)) rfl, by decide +kernel, by decide +kernel, by decide⟩
theorem mlX6_setErrand : MLink mX6_setErrand 3 := ⟨lw_in (List.mem_of_getElem? (i := 766) (by decide +kernel)) rfl, lw_in (List.mem_of_getElem? (i := 51) (by decide +kernel)) rfl, by decide +kernel, by decide +kernel, by decide⟩
theorem mlX6_ofMessage : MLink mX6_ofMessage 2 := ⟨lw_in (List.mem_of_getElem? (i := 799) (by decide +kernel)) rfl, lw_in (List.mem_of_getElem? (i := 51) (by decide +kernel)) rfl, by decide +kernel, by decide +kernel, by decide⟩
theorem mlX6_first : MLink mX6_first 2 := ⟨lw_in (List.mem_of_getElem? (i := 823) (by decide +kernel)) rfl, lw_in (List.mem_of_getElem? (i := 51) (by decide +kernel)) rfl, by decide +kernel, by decide +kernel, by decide⟩
theorem mlX6_firstWaiting : MLink mX6_firstWaiting 1 := ⟨lw_in (List.mem_of_getElem? (i := 831) (by decide +kernel)) rfl, lw_in (List.mem_of_getElem? (i := 51) (by decide +kernel)) rfl, by decide +kernel, by decide +kernel, by decide⟩
theorem mlX6_count : MLink mX6_count 2 := ⟨lw_in (List.mem_of_getElem? (i := 890) (by decide +kernel)) rfl, lw_in (List.mem_of_getElem? (i := 51) (by decide +kernel)) rfl, by decide +kernel, by decide +kernel, by decide⟩
theorem mlX6_partsOf : MLink mX6_partsOf 1 := ⟨lw_in (List.mem_of_getElem? (i := 902) (by decide +kernel)) rfl, lw_in (List.mem_of_getElem? (i := 51) (by decide +kernel)) rfl, by decide +kernel, by decide +kernel, by decide⟩
theorem mlX6_isWithin : MLink mX6_isWithin 2 := ⟨lw_in (List.mem_of_getElem? (i := 855) (by decide +kernel)) rfl, lw_in (List.mem_of_getElem? (i := 51) (by decide +kernel)) rfl, by decide +kernel, by decide +kernel, by decide⟩
theorem mlX6_sizeOf : MLink mX6_sizeOf 1 := ⟨lw_in (List.mem_of_getElem? (i := 906) (by decide +kernel)) rfl, lw_in (List.mem_of_getElem? (i := 51) (by decide +kernel)) rfl, by decide +kernel, by decide +kernel, by decide⟩
theorem mlX6_underWay : MLink mX6_underWay 0 := ⟨lw_in (List.mem_of_getElem? (i := 750) (by decide +kernel)) rfl, lw_in (List.mem_of_getElem? (i := 51) (by decide +kernel)) rfl, by decide +kernel, by decide +kernel, by decide⟩
theorem mlX6_drop : MLink mX6_drop 1 := ⟨lw_in (List.mem_of_getElem? (i := 851) (by decide +kernel)) rfl, lw_in (List.mem_of_getElem? (i := 51) (by decide +kernel)) rfl, by decide +kernel, by decide +kernel, by decide⟩
theorem mlX6_add : MLink mX6_add 3 := ⟨lw_in (List.mem_of_getElem? (i := 762) (by decide +kernel)) rfl, lw_in (List.mem_of_getElem? (i := 51) (by decide +kernel)) rfl, by decide +kernel, by decide +kernel, by decide⟩
theorem mlX6_timeBetween : MLink mX6_timeBetween 2 := ⟨lw_in (List.mem_of_getElem? (i := 778) (by decide +kernel)) rfl, lw_in (List.mem_of_getElem? (i := 51) (by decide +kernel)) rfl, by decide +kernel, by decide +kernel, by decide⟩
theorem mlX6_send : MLink mX6_send 5 := ⟨lw_in (List.mem_of_getElem? (i := 774) (by decide +kernel)) rfl, lw_in (List.mem_of_getElem? (i := 51) (by decide +kernel)) rfl, by decide +kernel, by decide +kernel, by decide⟩
theorem mlX6_takeAway : MLink mX6_takeAway 1 := ⟨lw_in (List.mem_of_getElem? (i := 807) (by decide +kernel)) rfl, lw_in (List.mem_of_getElem? (i := 51) (by decide +kernel)) rfl, by decide +kernel, by decide +kernel, by decide⟩
theorem mlX6_ranked : MLink mX6_ranked 1 := ⟨lw_in (List.mem_of_getElem? (i := 847) (by decide +kernel)) rfl, lw_in (List.mem_of_getElem? (i := 51) (by decide +kernel)) rfl, by decide +kernel, by decide +kernel, by decide⟩
theorem mlX6_mint : MLink mX6_mint 0 := ⟨lw_in (List.mem_of_getElem? (i := 770) (by decide +kernel)) rfl, lw_in (List.mem_of_getElem? (i := 51) (by decide +kernel)) rfl, by decide +kernel, by decide +kernel, by decide⟩
theorem mlX6_sendWhatItCan : MLink mX6_sendWhatItCan 1 := ⟨lw_in (List.mem_of_getElem? (i := 827) (by decide +kernel)) rfl, lw_in (List.mem_of_getElem? (i := 51) (by decide +kernel)) rfl, by decide +kernel, by decide +kernel, by decide⟩
theorem mlX6_errandArrives : MLink mX6_errandArrives 3 := ⟨lw_in (List.mem_of_getElem? (i := 811) (by decide +kernel)) rfl, lw_in (List.mem_of_getElem? (i := 51) (by decide +kernel)) rfl, by decide +kernel, by decide +kernel, by decide⟩
theorem mlX6_arrive : MLink mX6_arrive 1 := ⟨lw_in (List.mem_of_getElem? (i := 803) (by decide +kernel)) rfl, lw_in (List.mem_of_getElem? (i := 51) (by decide +kernel)) rfl, by decide +kernel, by decide +kernel, by decide⟩
theorem mlX6_work : MLink mX6_work 1 := ⟨lw_in (List.mem_of_getElem? (i := 839) (by decide +kernel)) rfl, lw_in (List.mem_of_getElem? (i := 51) (by decide +kernel)) rfl, by decide +kernel, by decide +kernel, by decide⟩
theorem mlX6_tick : MLink mX6_tick 0 := ⟨lw_in (List.mem_of_getElem? (i := 795) (by decide +kernel)) rfl, lw_in (List.mem_of_getElem? (i := 51) (by decide +kernel)) rfl, by decide +kernel, by decide +kernel, by decide⟩
theorem mlX6_sumOfHouses : MLink mX6_sumOfHouses 1 := ⟨lw_in (List.mem_of_getElem? (i := 918) (by decide +kernel)) rfl, lw_in (List.mem_of_getElem? (i := 51) (by decide +kernel)) rfl, by decide +kernel, by decide +kernel, by decide⟩
theorem mlX6_grainsOnWay : MLink mX6_grainsOnWay 0 := ⟨lw_in (List.mem_of_getElem? (i := 922) (by decide +kernel)) rfl, lw_in (List.mem_of_getElem? (i := 51) (by decide +kernel)) rfl, by decide +kernel, by decide +kernel, by decide⟩
theorem mlX6_isQuiet : MLink mX6_isQuiet 0 := ⟨lw_in (List.mem_of_getElem? (i := 926) (by decide +kernel)) rfl, lw_in (List.mem_of_getElem? (i := 51) (by decide +kernel)) rfl, by decide +kernel, by decide +kernel, by decide⟩
theorem mlX6_isIdle : MLink mX6_isIdle 0 := ⟨lw_in (List.mem_of_getElem? (i := 930) (by decide +kernel)) rfl, lw_in (List.mem_of_getElem? (i := 51) (by decide +kernel)) rfl, by decide +kernel, by decide +kernel, by decide⟩
theorem mlX6_setTime : MLink mX6_setTime 3 := ⟨lw_in (List.mem_of_getElem? (i := 700) (by decide +kernel)) rfl, lw_in (List.mem_of_getElem? (i := 51) (by decide +kernel)) rfl, by decide +kernel, by decide +kernel, by decide⟩
theorem mlX6_setBankTime : MLink mX6_setBankTime 2 := ⟨lw_in (List.mem_of_getElem? (i := 714) (by decide +kernel)) rfl, lw_in (List.mem_of_getElem? (i := 51) (by decide +kernel)) rfl, by decide +kernel, by decide +kernel, by decide⟩
theorem mlX6_set : MLink mX6_set 2 := ⟨lw_in (List.mem_of_getElem? (i := 718) (by decide +kernel)) rfl, lw_in (List.mem_of_getElem? (i := 51) (by decide +kernel)) rfl, by decide +kernel, by decide +kernel, by decide⟩
theorem mlX6_type : MLink mX6_type 1 := ⟨lw_in (List.mem_of_getElem? (i := 722) (by decide +kernel)) rfl, lw_in (List.mem_of_getElem? (i := 51) (by decide +kernel)) rfl, by decide +kernel, by decide +kernel, by decide⟩
theorem mlX6_clearText : MLink mX6_clearText 0 := ⟨lw_in (List.mem_of_getElem? (i := 726) (by decide +kernel)) rfl, lw_in (List.mem_of_getElem? (i := 51) (by decide +kernel)) rfl, by decide +kernel, by decide +kernel, by decide⟩
theorem mlX6_isNext : MLink mX6_isNext 2 := ⟨lw_in (List.mem_of_getElem? (i := 742) (by decide +kernel)) rfl, lw_in (List.mem_of_getElem? (i := 51) (by decide +kernel)) rfl, by decide +kernel, by decide +kernel, by decide⟩
theorem mlX6_takes : MLink mX6_takes 1 := ⟨lw_in (List.mem_of_getElem? (i := 746) (by decide +kernel)) rfl, lw_in (List.mem_of_getElem? (i := 51) (by decide +kernel)) rfl, by decide +kernel, by decide +kernel, by decide⟩
theorem mlX6_readHead : MLink mX6_readHead 0 := ⟨lw_in (List.mem_of_getElem? (i := 738) (by decide +kernel)) rfl, lw_in (List.mem_of_getElem? (i := 51) (by decide +kernel)) rfl, by decide +kernel, by decide +kernel, by decide⟩
theorem mlX6_readText : MLink mX6_readText 0 := ⟨lw_in (List.mem_of_getElem? (i := 734) (by decide +kernel)) rfl, lw_in (List.mem_of_getElem? (i := 51) (by decide +kernel)) rfl, by decide +kernel, by decide +kernel, by decide⟩
theorem mlX6_launchAll : MLink mX6_launchAll 0 := ⟨lw_in (List.mem_of_getElem? (i := 758) (by decide +kernel)) rfl, lw_in (List.mem_of_getElem? (i := 51) (by decide +kernel)) rfl, by decide +kernel, by decide +kernel, by decide⟩
theorem mlX6_launch : MLink mX6_launch 0 := ⟨lw_in (List.mem_of_getElem? (i := 730) (by decide +kernel)) rfl, lw_in (List.mem_of_getElem? (i := 51) (by decide +kernel)) rfl, by decide +kernel, by decide +kernel, by decide⟩
theorem mlX6_partsOfRead : MLink mX6_partsOfRead 1 := ⟨lw_in (List.mem_of_getElem? (i := 786) (by decide +kernel)) rfl, lw_in (List.mem_of_getElem? (i := 51) (by decide +kernel)) rfl, by decide +kernel, by decide +kernel, by decide⟩
theorem mlX6_planned : MLink mX6_planned 1 := ⟨lw_in (List.mem_of_getElem? (i := 782) (by decide +kernel)) rfl, lw_in (List.mem_of_getElem? (i := 51) (by decide +kernel)) rfl, by decide +kernel, by decide +kernel, by decide⟩
theorem mlX6_pass : MLink mX6_pass 1 := ⟨lw_in (List.mem_of_getElem? (i := 790) (by decide +kernel)) rfl, lw_in (List.mem_of_getElem? (i := 51) (by decide +kernel)) rfl, by decide +kernel, by decide +kernel, by decide⟩
theorem mlX6_lose : MLink mX6_lose 1 := ⟨lw_in (List.mem_of_getElem? (i := 843) (by decide +kernel)) rfl, lw_in (List.mem_of_getElem? (i := 51) (by decide +kernel)) rfl, by decide +kernel, by decide +kernel, by decide⟩
theorem mlX6_makeGood : MLink mX6_makeGood 0 := ⟨lw_in (List.mem_of_getElem? (i := 859) (by decide +kernel)) rfl, lw_in (List.mem_of_getElem? (i := 51) (by decide +kernel)) rfl, by decide +kernel, by decide +kernel, by decide⟩
theorem mlX6_undo : MLink mX6_undo 0 := ⟨lw_in (List.mem_of_getElem? (i := 863) (by decide +kernel)) rfl, lw_in (List.mem_of_getElem? (i := 51) (by decide +kernel)) rfl, by decide +kernel, by decide +kernel, by decide⟩
theorem mlX6_keep : MLink mX6_keep 0 := ⟨lw_in (List.mem_of_getElem? (i := 867) (by decide +kernel)) rfl, lw_in (List.mem_of_getElem? (i := 51) (by decide +kernel)) rfl, by decide +kernel, by decide +kernel, by decide⟩
theorem mlX6_restore : MLink mX6_restore 0 := ⟨lw_in (List.mem_of_getElem? (i := 874) (by decide +kernel)) rfl, lw_in (List.mem_of_getElem? (i := 51) (by decide +kernel)) rfl, by decide +kernel, by decide +kernel, by decide⟩
theorem mlX6_time : MLink mX6_time 2 := ⟨lw_in (List.mem_of_getElem? (i := 878) (by decide +kernel)) rfl, lw_in (List.mem_of_getElem? (i := 51) (by decide +kernel)) rfl, by decide +kernel, by decide +kernel, by decide⟩
theorem mlX6_bankTime : MLink mX6_bankTime 1 := ⟨lw_in (List.mem_of_getElem? (i := 882) (by decide +kernel)) rfl, lw_in (List.mem_of_getElem? (i := 51) (by decide +kernel)) rfl, by decide +kernel, by decide +kernel, by decide⟩
theorem mlX6_house : MLink mX6_house 2 := ⟨lw_in (List.mem_of_getElem? (i := 886) (by decide +kernel)) rfl, lw_in (List.mem_of_getElem? (i := 51) (by decide +kernel)) rfl, by decide +kernel, by decide +kernel, by decide⟩
theorem mlX6_waitingAt : MLink mX6_waitingAt 2 := ⟨lw_in (List.mem_of_getElem? (i := 898) (by decide +kernel)) rfl, lw_in (List.mem_of_getElem? (i := 51) (by decide +kernel)) rfl, by decide +kernel, by decide +kernel, by decide⟩
theorem mlX6_waiting : MLink mX6_waiting 3 := ⟨lw_in (List.mem_of_getElem? (i := 894) (by decide +kernel)) rfl, lw_in (List.mem_of_getElem? (i := 51) (by decide +kernel)) rfl, by decide +kernel, by decide +kernel, by decide⟩
theorem mlX6_message : MLink mX6_message 2 := ⟨lw_in (List.mem_of_getElem? (i := 910) (by decide +kernel)) rfl, lw_in (List.mem_of_getElem? (i := 51) (by decide +kernel)) rfl, by decide +kernel, by decide +kernel, by decide⟩
theorem mlX6_total : MLink mX6_total 1 := ⟨lw_in (List.mem_of_getElem? (i := 914) (by decide +kernel)) rfl, lw_in (List.mem_of_getElem? (i := 51) (by decide +kernel)) rfl, by decide +kernel, by decide +kernel, by decide⟩
theorem mlX6_quietIn : MLink mX6_quietIn 0 := ⟨lw_in (List.mem_of_getElem? (i := 934) (by decide +kernel)) rfl, lw_in (List.mem_of_getElem? (i := 51) (by decide +kernel)) rfl, by decide +kernel, by decide +kernel, by decide⟩
theorem mlX6_idleIn : MLink mX6_idleIn 0 := ⟨lw_in (List.mem_of_getElem? (i := 938) (by decide +kernel)) rfl, lw_in (List.mem_of_getElem? (i := 51) (by decide +kernel)) rfl, by decide +kernel, by decide +kernel, by decide⟩
theorem mlX6_beginAnew : MLink mX6_beginAnew 1 := ⟨lw_in (List.mem_of_getElem? (i := 950) (by decide +kernel)) rfl, lw_in (List.mem_of_getElem? (i := 51) (by decide +kernel)) rfl, by decide +kernel, by decide +kernel, by decide⟩
theorem mlX6_isEnough : MLink mX6_isEnough 1 := ⟨lw_in (List.mem_of_getElem? (i := 946) (by decide +kernel)) rfl, lw_in (List.mem_of_getElem? (i := 51) (by decide +kernel)) rfl, by decide +kernel, by decide +kernel, by decide⟩
theorem mlX6_leastCoin : MLink mX6_leastCoin 0 := ⟨lw_in (List.mem_of_getElem? (i := 942) (by decide +kernel)) rfl, lw_in (List.mem_of_getElem? (i := 51) (by decide +kernel)) rfl, by decide +kernel, by decide +kernel, by decide⟩
theorem iL_9 : Cond.methodLink RL 9 yX5_init ∈ lw_gd ∧ Cond.instanceMethod yX5_init ∈ lw_gd ∧ yX5_init.name = "<init>" := ⟨lw_in (List.mem_of_getElem? (i := 56) (by decide +kernel)) rfl, lw_in (List.mem_of_getElem? (i := 57) (by decide +kernel)) rfl, rfl⟩
theorem oX5_3 : Cond.methodLink RX5 3 Lib.objectInit ∈ lw_gd := lw_in (List.mem_of_getElem? (i := 59) (by decide +kernel)) rfl
theorem iX5_11 : Cond.methodLink RX5 11 yX4_init ∈ lw_gd ∧ Cond.instanceMethod yX4_init ∈ lw_gd ∧ yX4_init.name = "<init>" := ⟨lw_in (List.mem_of_getElem? (i := 64) (by decide +kernel)) rfl, lw_in (List.mem_of_getElem? (i := 65) (by decide +kernel)) rfl, rfl⟩
theorem oX4_3 : Cond.methodLink RX4 3 Lib.objectInit ∈ lw_gd := lw_in (List.mem_of_getElem? (i := 67) (by decide +kernel)) rfl
theorem sX4_34 : Cond.methodLink RX4 34 yX4_firstWay ∈ lw_gd ∧ Cond.static yX4_firstWay ∈ lw_gd := ⟨lw_in (List.mem_of_getElem? (i := 72) (by decide +kernel)) rfl, lw_in (List.mem_of_getElem? (i := 73) (by decide +kernel)) rfl⟩
theorem oX1_3 : Cond.methodLink RX1 3 Lib.objectInit ∈ lw_gd := lw_in (List.mem_of_getElem? (i := 79) (by decide +kernel)) rfl
theorem oX2_3 : Cond.methodLink RX2 3 Lib.objectInit ∈ lw_gd := lw_in (List.mem_of_getElem? (i := 130) (by decide +kernel)) rfl
theorem oX3_3 : Cond.methodLink RX3 3 Lib.objectInit ∈ lw_gd := lw_in (List.mem_of_getElem? (i := 211) (by decide +kernel)) rfl
theorem vL_13 : Cond.methodLink RL 13 yX5_setTime ∈ lw_gd ∧ Cond.instanceMethod yX5_setTime ∈ lw_gd ∧ Cond.selects yX5_setTime.cls yX5_setTime yX5_setTime ∈ lw_gd := ⟨lw_in (List.mem_of_getElem? (i := 274) (by decide +kernel)) rfl, lw_in (List.mem_of_getElem? (i := 275) (by decide +kernel)) rfl, lw_in (List.mem_of_getElem? (i := 276) (by decide +kernel)) rfl⟩
theorem sX5_37 : Cond.methodLink RX5 37 yX5_isHouse ∈ lw_gd ∧ Cond.static yX5_isHouse ∈ lw_gd := ⟨lw_in (List.mem_of_getElem? (i := 278) (by decide +kernel)) rfl, lw_in (List.mem_of_getElem? (i := 279) (by decide +kernel)) rfl⟩
theorem sX5_41 : Cond.methodLink RX5 41 yX5_isWay ∈ lw_gd ∧ Cond.static yX5_isWay ∈ lw_gd := ⟨lw_in (List.mem_of_getElem? (i := 281) (by decide +kernel)) rfl, lw_in (List.mem_of_getElem? (i := 282) (by decide +kernel)) rfl⟩
theorem vX5_44 : Cond.methodLink RX5 44 yX5_changeWay ∈ lw_gd ∧ Cond.instanceMethod yX5_changeWay ∈ lw_gd ∧ Cond.selects yX5_changeWay.cls yX5_changeWay yX5_changeWay ∈ lw_gd := ⟨lw_in (List.mem_of_getElem? (i := 284) (by decide +kernel)) rfl, lw_in (List.mem_of_getElem? (i := 286) (by decide +kernel)) rfl, lw_in (List.mem_of_getElem? (i := 0) (by decide +kernel)) rfl⟩
theorem vX5_110 : Cond.methodLink RX5 110 yX4_way ∈ lw_gd ∧ Cond.instanceMethod yX4_way ∈ lw_gd ∧ Cond.selects yX4_way.cls yX4_way yX4_way ∈ lw_gd := ⟨lw_in (List.mem_of_getElem? (i := 288) (by decide +kernel)) rfl, lw_in (List.mem_of_getElem? (i := 289) (by decide +kernel)) rfl, lw_in (List.mem_of_getElem? (i := 290) (by decide +kernel)) rfl⟩
theorem vX5_70 : Cond.methodLink RX5 70 yX5_record ∈ lw_gd ∧ Cond.instanceMethod yX5_record ∈ lw_gd ∧ Cond.selects yX5_record.cls yX5_record yX5_record ∈ lw_gd := ⟨lw_in (List.mem_of_getElem? (i := 292) (by decide +kernel)) rfl, lw_in (List.mem_of_getElem? (i := 294) (by decide +kernel)) rfl, lw_in (List.mem_of_getElem? (i := 1) (by decide +kernel)) rfl⟩
theorem vX5_103 : Cond.methodLink RX5 103 yX4_copyFrom ∈ lw_gd ∧ Cond.instanceMethod yX4_copyFrom ∈ lw_gd ∧ Cond.selects yX4_copyFrom.cls yX4_copyFrom yX4_copyFrom ∈ lw_gd := ⟨lw_in (List.mem_of_getElem? (i := 296) (by decide +kernel)) rfl, lw_in (List.mem_of_getElem? (i := 297) (by decide +kernel)) rfl, lw_in (List.mem_of_getElem? (i := 298) (by decide +kernel)) rfl⟩
theorem vX4_43 : Cond.methodLink RX4 43 yX4_copyWays ∈ lw_gd ∧ Cond.instanceMethod yX4_copyWays ∈ lw_gd ∧ Cond.selects yX4_copyWays.cls yX4_copyWays yX4_copyWays ∈ lw_gd := ⟨lw_in (List.mem_of_getElem? (i := 300) (by decide +kernel)) rfl, lw_in (List.mem_of_getElem? (i := 301) (by decide +kernel)) rfl, lw_in (List.mem_of_getElem? (i := 302) (by decide +kernel)) rfl⟩
theorem vX4_47 : Cond.methodLink RX4 47 yX1_copyFrom ∈ lw_gd ∧ Cond.instanceMethod yX1_copyFrom ∈ lw_gd ∧ Cond.selects yX1_copyFrom.cls yX1_copyFrom yX1_copyFrom ∈ lw_gd := ⟨lw_in (List.mem_of_getElem? (i := 304) (by decide +kernel)) rfl, lw_in (List.mem_of_getElem? (i := 305) (by decide +kernel)) rfl, lw_in (List.mem_of_getElem? (i := 306) (by decide +kernel)) rfl⟩
theorem vX4_54 : Cond.methodLink RX4 54 yX2_copyFrom ∈ lw_gd ∧ Cond.instanceMethod yX2_copyFrom ∈ lw_gd ∧ Cond.selects yX2_copyFrom.cls yX2_copyFrom yX2_copyFrom ∈ lw_gd := ⟨lw_in (List.mem_of_getElem? (i := 308) (by decide +kernel)) rfl, lw_in (List.mem_of_getElem? (i := 309) (by decide +kernel)) rfl, lw_in (List.mem_of_getElem? (i := 310) (by decide +kernel)) rfl⟩
theorem vX5_147 : Cond.methodLink RX5 147 yX4_putWay ∈ lw_gd ∧ Cond.instanceMethod yX4_putWay ∈ lw_gd ∧ Cond.selects yX4_putWay.cls yX4_putWay yX4_putWay ∈ lw_gd := ⟨lw_in (List.mem_of_getElem? (i := 312) (by decide +kernel)) rfl, lw_in (List.mem_of_getElem? (i := 313) (by decide +kernel)) rfl, lw_in (List.mem_of_getElem? (i := 314) (by decide +kernel)) rfl⟩
theorem vL_18 : Cond.methodLink RL 18 yX5_setBankTime ∈ lw_gd ∧ Cond.instanceMethod yX5_setBankTime ∈ lw_gd ∧ Cond.selects yX5_setBankTime.cls yX5_setBankTime yX5_setBankTime ∈ lw_gd := ⟨lw_in (List.mem_of_getElem? (i := 316) (by decide +kernel)) rfl, lw_in (List.mem_of_getElem? (i := 317) (by decide +kernel)) rfl, lw_in (List.mem_of_getElem? (i := 318) (by decide +kernel)) rfl⟩
theorem vL_23 : Cond.methodLink RL 23 yX5_set ∈ lw_gd ∧ Cond.instanceMethod yX5_set ∈ lw_gd ∧ Cond.selects yX5_set.cls yX5_set yX5_set ∈ lw_gd := ⟨lw_in (List.mem_of_getElem? (i := 320) (by decide +kernel)) rfl, lw_in (List.mem_of_getElem? (i := 321) (by decide +kernel)) rfl, lw_in (List.mem_of_getElem? (i := 322) (by decide +kernel)) rfl⟩
theorem vX5_48 : Cond.methodLink RX5 48 yX5_changePower ∈ lw_gd ∧ Cond.instanceMethod yX5_changePower ∈ lw_gd ∧ Cond.selects yX5_changePower.cls yX5_changePower yX5_changePower ∈ lw_gd := ⟨lw_in (List.mem_of_getElem? (i := 324) (by decide +kernel)) rfl, lw_in (List.mem_of_getElem? (i := 326) (by decide +kernel)) rfl, lw_in (List.mem_of_getElem? (i := 2) (by decide +kernel)) rfl⟩
theorem vX5_52 : Cond.methodLink RX5 52 yX5_changeLeastPart ∈ lw_gd ∧ Cond.instanceMethod yX5_changeLeastPart ∈ lw_gd ∧ Cond.selects yX5_changeLeastPart.cls yX5_changeLeastPart yX5_changeLeastPart ∈ lw_gd := ⟨lw_in (List.mem_of_getElem? (i := 328) (by decide +kernel)) rfl, lw_in (List.mem_of_getElem? (i := 330) (by decide +kernel)) rfl, lw_in (List.mem_of_getElem? (i := 3) (by decide +kernel)) rfl⟩
theorem vL_27 : Cond.methodLink RL 27 yX5_launch ∈ lw_gd ∧ Cond.instanceMethod yX5_launch ∈ lw_gd ∧ Cond.selects yX5_launch.cls yX5_launch yX5_launch ∈ lw_gd := ⟨lw_in (List.mem_of_getElem? (i := 332) (by decide +kernel)) rfl, lw_in (List.mem_of_getElem? (i := 333) (by decide +kernel)) rfl, lw_in (List.mem_of_getElem? (i := 334) (by decide +kernel)) rfl⟩
theorem vX5_59 : Cond.methodLink RX5 59 yX3_read ∈ lw_gd ∧ Cond.instanceMethod yX3_read ∈ lw_gd ∧ Cond.selects yX3_read.cls yX3_read yX3_read ∈ lw_gd := ⟨lw_in (List.mem_of_getElem? (i := 336) (by decide +kernel)) rfl, lw_in (List.mem_of_getElem? (i := 337) (by decide +kernel)) rfl, lw_in (List.mem_of_getElem? (i := 338) (by decide +kernel)) rfl⟩
theorem vX3_42 : Cond.methodLink RX3 42 yX3_take ∈ lw_gd ∧ Cond.instanceMethod yX3_take ∈ lw_gd ∧ Cond.selects yX3_take.cls yX3_take yX3_take ∈ lw_gd := ⟨lw_in (List.mem_of_getElem? (i := 340) (by decide +kernel)) rfl, lw_in (List.mem_of_getElem? (i := 341) (by decide +kernel)) rfl, lw_in (List.mem_of_getElem? (i := 342) (by decide +kernel)) rfl⟩
theorem vX3_46 : Cond.methodLink RX3 46 yX3_takeHouse ∈ lw_gd ∧ Cond.instanceMethod yX3_takeHouse ∈ lw_gd ∧ Cond.selects yX3_takeHouse.cls yX3_takeHouse yX3_takeHouse ∈ lw_gd := ⟨lw_in (List.mem_of_getElem? (i := 344) (by decide +kernel)) rfl, lw_in (List.mem_of_getElem? (i := 345) (by decide +kernel)) rfl, lw_in (List.mem_of_getElem? (i := 346) (by decide +kernel)) rfl⟩
theorem iX3_58 : Cond.methodLink RX3 58 yX0_init ∈ lw_gd ∧ Cond.instanceMethod yX0_init ∈ lw_gd ∧ yX0_init.name = "<init>" := ⟨lw_in (List.mem_of_getElem? (i := 349) (by decide +kernel)) rfl, lw_in (List.mem_of_getElem? (i := 350) (by decide +kernel)) rfl, rfl⟩
theorem oX0_3 : Cond.methodLink RX0 3 Lib.objectInit ∈ lw_gd := lw_in (List.mem_of_getElem? (i := 352) (by decide +kernel)) rfl
theorem vX3_61 : Cond.methodLink RX3 61 yX3_putInPlace ∈ lw_gd ∧ Cond.instanceMethod yX3_putInPlace ∈ lw_gd ∧ Cond.selects yX3_putInPlace.cls yX3_putInPlace yX3_putInPlace ∈ lw_gd := ⟨lw_in (List.mem_of_getElem? (i := 385) (by decide +kernel)) rfl, lw_in (List.mem_of_getElem? (i := 386) (by decide +kernel)) rfl, lw_in (List.mem_of_getElem? (i := 387) (by decide +kernel)) rfl⟩
theorem vX3_71 : Cond.methodLink RX3 71 yX0_addPart ∈ lw_gd ∧ Cond.instanceMethod yX0_addPart ∈ lw_gd ∧ Cond.selects yX0_addPart.cls yX0_addPart yX0_addPart ∈ lw_gd := ⟨lw_in (List.mem_of_getElem? (i := 389) (by decide +kernel)) rfl, lw_in (List.mem_of_getElem? (i := 390) (by decide +kernel)) rfl, lw_in (List.mem_of_getElem? (i := 391) (by decide +kernel)) rfl⟩
theorem xX3_65 : Cond.methodLink RX3 65 Lib.Math.max.name ∈ lw_gd := lw_in (List.mem_of_getElem? (i := 393) (by decide +kernel)) rfl
theorem vX3_78 : Cond.methodLink RX3 78 yX3_countWithin ∈ lw_gd ∧ Cond.instanceMethod yX3_countWithin ∈ lw_gd ∧ Cond.selects yX3_countWithin.cls yX3_countWithin yX3_countWithin ∈ lw_gd := ⟨lw_in (List.mem_of_getElem? (i := 396) (by decide +kernel)) rfl, lw_in (List.mem_of_getElem? (i := 397) (by decide +kernel)) rfl, lw_in (List.mem_of_getElem? (i := 398) (by decide +kernel)) rfl⟩
theorem vX3_49 : Cond.methodLink RX3 49 yX3_takeDigit ∈ lw_gd ∧ Cond.instanceMethod yX3_takeDigit ∈ lw_gd ∧ Cond.selects yX3_takeDigit.cls yX3_takeDigit yX3_takeDigit ∈ lw_gd := ⟨lw_in (List.mem_of_getElem? (i := 400) (by decide +kernel)) rfl, lw_in (List.mem_of_getElem? (i := 401) (by decide +kernel)) rfl, lw_in (List.mem_of_getElem? (i := 402) (by decide +kernel)) rfl⟩
theorem vX3_52 : Cond.methodLink RX3 52 yX3_takeInWork ∈ lw_gd ∧ Cond.instanceMethod yX3_takeInWork ∈ lw_gd ∧ Cond.selects yX3_takeInWork.cls yX3_takeInWork yX3_takeInWork ∈ lw_gd := ⟨lw_in (List.mem_of_getElem? (i := 404) (by decide +kernel)) rfl, lw_in (List.mem_of_getElem? (i := 405) (by decide +kernel)) rfl, lw_in (List.mem_of_getElem? (i := 406) (by decide +kernel)) rfl⟩
theorem vX3_85 : Cond.methodLink RX3 85 yX3_isWorkZero ∈ lw_gd ∧ Cond.instanceMethod yX3_isWorkZero ∈ lw_gd ∧ Cond.selects yX3_isWorkZero.cls yX3_isWorkZero yX3_isWorkZero ∈ lw_gd := ⟨lw_in (List.mem_of_getElem? (i := 408) (by decide +kernel)) rfl, lw_in (List.mem_of_getElem? (i := 409) (by decide +kernel)) rfl, lw_in (List.mem_of_getElem? (i := 410) (by decide +kernel)) rfl⟩
theorem vX3_55 : Cond.methodLink RX3 55 yX3_takeAfter ∈ lw_gd ∧ Cond.instanceMethod yX3_takeAfter ∈ lw_gd ∧ Cond.selects yX3_takeAfter.cls yX3_takeAfter yX3_takeAfter ∈ lw_gd := ⟨lw_in (List.mem_of_getElem? (i := 412) (by decide +kernel)) rfl, lw_in (List.mem_of_getElem? (i := 413) (by decide +kernel)) rfl, lw_in (List.mem_of_getElem? (i := 414) (by decide +kernel)) rfl⟩
theorem vX5_63 : Cond.methodLink RX5 63 yX4_errandsInAll ∈ lw_gd ∧ Cond.instanceMethod yX4_errandsInAll ∈ lw_gd ∧ Cond.selects yX4_errandsInAll.cls yX4_errandsInAll yX4_errandsInAll ∈ lw_gd := ⟨lw_in (List.mem_of_getElem? (i := 416) (by decide +kernel)) rfl, lw_in (List.mem_of_getElem? (i := 417) (by decide +kernel)) rfl, lw_in (List.mem_of_getElem? (i := 418) (by decide +kernel)) rfl⟩
theorem vX4_199 : Cond.methodLink RX4 199 yX1_errandsWithin ∈ lw_gd ∧ Cond.instanceMethod yX1_errandsWithin ∈ lw_gd ∧ Cond.selects yX1_errandsWithin.cls yX1_errandsWithin yX1_errandsWithin ∈ lw_gd := ⟨lw_in (List.mem_of_getElem? (i := 420) (by decide +kernel)) rfl, lw_in (List.mem_of_getElem? (i := 421) (by decide +kernel)) rfl, lw_in (List.mem_of_getElem? (i := 422) (by decide +kernel)) rfl⟩
theorem vX4_202 : Cond.methodLink RX4 202 yX2_errands ∈ lw_gd ∧ Cond.instanceMethod yX2_errands ∈ lw_gd ∧ Cond.selects yX2_errands.cls yX2_errands yX2_errands ∈ lw_gd := ⟨lw_in (List.mem_of_getElem? (i := 424) (by decide +kernel)) rfl, lw_in (List.mem_of_getElem? (i := 425) (by decide +kernel)) rfl, lw_in (List.mem_of_getElem? (i := 426) (by decide +kernel)) rfl⟩
theorem vX5_73 : Cond.methodLink RX5 73 yX4_startErrands ∈ lw_gd ∧ Cond.instanceMethod yX4_startErrands ∈ lw_gd ∧ Cond.selects yX4_startErrands.cls yX4_startErrands yX4_startErrands ∈ lw_gd := ⟨lw_in (List.mem_of_getElem? (i := 428) (by decide +kernel)) rfl, lw_in (List.mem_of_getElem? (i := 429) (by decide +kernel)) rfl, lw_in (List.mem_of_getElem? (i := 430) (by decide +kernel)) rfl⟩
theorem vX4_96 : Cond.methodLink RX4 96 yX4_mint ∈ lw_gd ∧ Cond.instanceMethod yX4_mint ∈ lw_gd ∧ Cond.selects yX4_mint.cls yX4_mint yX4_mint ∈ lw_gd := ⟨lw_in (List.mem_of_getElem? (i := 432) (by decide +kernel)) rfl, lw_in (List.mem_of_getElem? (i := 433) (by decide +kernel)) rfl, lw_in (List.mem_of_getElem? (i := 434) (by decide +kernel)) rfl⟩
theorem vX4_100 : Cond.methodLink RX4 100 yX4_post ∈ lw_gd ∧ Cond.instanceMethod yX4_post ∈ lw_gd ∧ Cond.selects yX4_post.cls yX4_post yX4_post ∈ lw_gd := ⟨lw_in (List.mem_of_getElem? (i := 436) (by decide +kernel)) rfl, lw_in (List.mem_of_getElem? (i := 437) (by decide +kernel)) rfl, lw_in (List.mem_of_getElem? (i := 438) (by decide +kernel)) rfl⟩
theorem vL_32 : Cond.methodLink RL 32 yX5_pass ∈ lw_gd ∧ Cond.instanceMethod yX5_pass ∈ lw_gd ∧ Cond.selects yX5_pass.cls yX5_pass yX5_pass ∈ lw_gd := ⟨lw_in (List.mem_of_getElem? (i := 440) (by decide +kernel)) rfl, lw_in (List.mem_of_getElem? (i := 441) (by decide +kernel)) rfl, lw_in (List.mem_of_getElem? (i := 442) (by decide +kernel)) rfl⟩
theorem vX5_84 : Cond.methodLink RX5 84 yX4_tick ∈ lw_gd ∧ Cond.instanceMethod yX4_tick ∈ lw_gd ∧ Cond.selects yX4_tick.cls yX4_tick yX4_tick ∈ lw_gd := ⟨lw_in (List.mem_of_getElem? (i := 445) (by decide +kernel)) rfl, lw_in (List.mem_of_getElem? (i := 446) (by decide +kernel)) rfl, lw_in (List.mem_of_getElem? (i := 447) (by decide +kernel)) rfl⟩
theorem vX4_146 : Cond.methodLink RX4 146 yX4_countArriving ∈ lw_gd ∧ Cond.instanceMethod yX4_countArriving ∈ lw_gd ∧ Cond.selects yX4_countArriving.cls yX4_countArriving yX4_countArriving ∈ lw_gd := ⟨lw_in (List.mem_of_getElem? (i := 449) (by decide +kernel)) rfl, lw_in (List.mem_of_getElem? (i := 450) (by decide +kernel)) rfl, lw_in (List.mem_of_getElem? (i := 451) (by decide +kernel)) rfl⟩
theorem vX4_149 : Cond.methodLink RX4 149 yX4_arrive ∈ lw_gd ∧ Cond.instanceMethod yX4_arrive ∈ lw_gd ∧ Cond.selects yX4_arrive.cls yX4_arrive yX4_arrive ∈ lw_gd := ⟨lw_in (List.mem_of_getElem? (i := 453) (by decide +kernel)) rfl, lw_in (List.mem_of_getElem? (i := 454) (by decide +kernel)) rfl, lw_in (List.mem_of_getElem? (i := 455) (by decide +kernel)) rfl⟩
theorem vX4_159 : Cond.methodLink RX4 159 yX1_takeIn ∈ lw_gd ∧ Cond.instanceMethod yX1_takeIn ∈ lw_gd ∧ Cond.selects yX1_takeIn.cls yX1_takeIn yX1_takeIn ∈ lw_gd := ⟨lw_in (List.mem_of_getElem? (i := 458) (by decide +kernel)) rfl, lw_in (List.mem_of_getElem? (i := 459) (by decide +kernel)) rfl, lw_in (List.mem_of_getElem? (i := 460) (by decide +kernel)) rfl⟩
theorem vX1_54 : Cond.methodLink RX1 54 yX1_lineUp ∈ lw_gd ∧ Cond.instanceMethod yX1_lineUp ∈ lw_gd ∧ Cond.selects yX1_lineUp.cls yX1_lineUp yX1_lineUp ∈ lw_gd := ⟨lw_in (List.mem_of_getElem? (i := 462) (by decide +kernel)) rfl, lw_in (List.mem_of_getElem? (i := 463) (by decide +kernel)) rfl, lw_in (List.mem_of_getElem? (i := 464) (by decide +kernel)) rfl⟩
theorem vX4_143 : Cond.methodLink RX4 143 yX4_sendWhatItCan ∈ lw_gd ∧ Cond.instanceMethod yX4_sendWhatItCan ∈ lw_gd ∧ Cond.selects yX4_sendWhatItCan.cls yX4_sendWhatItCan yX4_sendWhatItCan ∈ lw_gd := ⟨lw_in (List.mem_of_getElem? (i := 466) (by decide +kernel)) rfl, lw_in (List.mem_of_getElem? (i := 467) (by decide +kernel)) rfl, lw_in (List.mem_of_getElem? (i := 468) (by decide +kernel)) rfl⟩
theorem vX4_166 : Cond.methodLink RX4 166 yX4_sendFirst ∈ lw_gd ∧ Cond.instanceMethod yX4_sendFirst ∈ lw_gd ∧ Cond.selects yX4_sendFirst.cls yX4_sendFirst yX4_sendFirst ∈ lw_gd := ⟨lw_in (List.mem_of_getElem? (i := 470) (by decide +kernel)) rfl, lw_in (List.mem_of_getElem? (i := 471) (by decide +kernel)) rfl, lw_in (List.mem_of_getElem? (i := 472) (by decide +kernel)) rfl⟩
theorem vX4_173 : Cond.methodLink RX4 173 yX1_waitingAt ∈ lw_gd ∧ Cond.instanceMethod yX1_waitingAt ∈ lw_gd ∧ Cond.selects yX1_waitingAt.cls yX1_waitingAt yX1_waitingAt ∈ lw_gd := ⟨lw_in (List.mem_of_getElem? (i := 474) (by decide +kernel)) rfl, lw_in (List.mem_of_getElem? (i := 475) (by decide +kernel)) rfl, lw_in (List.mem_of_getElem? (i := 476) (by decide +kernel)) rfl⟩
theorem vX4_180 : Cond.methodLink RX4 180 yX1_removeFirst ∈ lw_gd ∧ Cond.instanceMethod yX1_removeFirst ∈ lw_gd ∧ Cond.selects yX1_removeFirst.cls yX1_removeFirst yX1_removeFirst ∈ lw_gd := ⟨lw_in (List.mem_of_getElem? (i := 478) (by decide +kernel)) rfl, lw_in (List.mem_of_getElem? (i := 479) (by decide +kernel)) rfl, lw_in (List.mem_of_getElem? (i := 480) (by decide +kernel)) rfl⟩
theorem vX4_131 : Cond.methodLink RX4 131 yX4_takeOut ∈ lw_gd ∧ Cond.instanceMethod yX4_takeOut ∈ lw_gd ∧ Cond.selects yX4_takeOut.cls yX4_takeOut yX4_takeOut ∈ lw_gd := ⟨lw_in (List.mem_of_getElem? (i := 482) (by decide +kernel)) rfl, lw_in (List.mem_of_getElem? (i := 483) (by decide +kernel)) rfl, lw_in (List.mem_of_getElem? (i := 484) (by decide +kernel)) rfl⟩
theorem vX4_123 : Cond.methodLink RX4 123 yX4_isOnItsWay ∈ lw_gd ∧ Cond.instanceMethod yX4_isOnItsWay ∈ lw_gd ∧ Cond.selects yX4_isOnItsWay.cls yX4_isOnItsWay yX4_isOnItsWay ∈ lw_gd := ⟨lw_in (List.mem_of_getElem? (i := 486) (by decide +kernel)) rfl, lw_in (List.mem_of_getElem? (i := 487) (by decide +kernel)) rfl, lw_in (List.mem_of_getElem? (i := 488) (by decide +kernel)) rfl⟩
theorem vX4_155 : Cond.methodLink RX4 155 yX4_workIn ∈ lw_gd ∧ Cond.instanceMethod yX4_workIn ∈ lw_gd ∧ Cond.selects yX4_workIn.cls yX4_workIn yX4_workIn ∈ lw_gd := ⟨lw_in (List.mem_of_getElem? (i := 490) (by decide +kernel)) rfl, lw_in (List.mem_of_getElem? (i := 491) (by decide +kernel)) rfl, lw_in (List.mem_of_getElem? (i := 492) (by decide +kernel)) rfl⟩
theorem vL_37 : Cond.methodLink RL 37 yX5_lose ∈ lw_gd ∧ Cond.instanceMethod yX5_lose ∈ lw_gd ∧ Cond.selects yX5_lose.cls yX5_lose yX5_lose ∈ lw_gd := ⟨lw_in (List.mem_of_getElem? (i := 494) (by decide +kernel)) rfl, lw_in (List.mem_of_getElem? (i := 495) (by decide +kernel)) rfl, lw_in (List.mem_of_getElem? (i := 496) (by decide +kernel)) rfl⟩
theorem vX5_87 : Cond.methodLink RX5 87 yX4_isOnItsWay ∈ lw_gd ∧ Cond.instanceMethod yX4_isOnItsWay ∈ lw_gd ∧ Cond.selects yX4_isOnItsWay.cls yX4_isOnItsWay yX4_isOnItsWay ∈ lw_gd := ⟨lw_in (List.mem_of_getElem? (i := 498) (by decide +kernel)) rfl, lw_in (List.mem_of_getElem? (i := 487) (by decide +kernel)) rfl, lw_in (List.mem_of_getElem? (i := 488) (by decide +kernel)) rfl⟩
theorem vX5_90 : Cond.methodLink RX5 90 yX4_dropMessage ∈ lw_gd ∧ Cond.instanceMethod yX4_dropMessage ∈ lw_gd ∧ Cond.selects yX4_dropMessage.cls yX4_dropMessage yX4_dropMessage ∈ lw_gd := ⟨lw_in (List.mem_of_getElem? (i := 499) (by decide +kernel)) rfl, lw_in (List.mem_of_getElem? (i := 500) (by decide +kernel)) rfl, lw_in (List.mem_of_getElem? (i := 501) (by decide +kernel)) rfl⟩
theorem vX4_127 : Cond.methodLink RX4 127 yX4_loseAskOf ∈ lw_gd ∧ Cond.instanceMethod yX4_loseAskOf ∈ lw_gd ∧ Cond.selects yX4_loseAskOf.cls yX4_loseAskOf yX4_loseAskOf ∈ lw_gd := ⟨lw_in (List.mem_of_getElem? (i := 503) (by decide +kernel)) rfl, lw_in (List.mem_of_getElem? (i := 504) (by decide +kernel)) rfl, lw_in (List.mem_of_getElem? (i := 505) (by decide +kernel)) rfl⟩
theorem vL_41 : Cond.methodLink RL 41 yX5_makeGood ∈ lw_gd ∧ Cond.instanceMethod yX5_makeGood ∈ lw_gd ∧ Cond.selects yX5_makeGood.cls yX5_makeGood yX5_makeGood ∈ lw_gd := ⟨lw_in (List.mem_of_getElem? (i := 507) (by decide +kernel)) rfl, lw_in (List.mem_of_getElem? (i := 508) (by decide +kernel)) rfl, lw_in (List.mem_of_getElem? (i := 509) (by decide +kernel)) rfl⟩
theorem vX5_97 : Cond.methodLink RX5 97 yX4_replaceLost ∈ lw_gd ∧ Cond.instanceMethod yX4_replaceLost ∈ lw_gd ∧ Cond.selects yX4_replaceLost.cls yX4_replaceLost yX4_replaceLost ∈ lw_gd := ⟨lw_in (List.mem_of_getElem? (i := 511) (by decide +kernel)) rfl, lw_in (List.mem_of_getElem? (i := 512) (by decide +kernel)) rfl, lw_in (List.mem_of_getElem? (i := 513) (by decide +kernel)) rfl⟩
theorem vL_45 : Cond.methodLink RL 45 yX5_type ∈ lw_gd ∧ Cond.instanceMethod yX5_type ∈ lw_gd ∧ Cond.selects yX5_type.cls yX5_type yX5_type ∈ lw_gd := ⟨lw_in (List.mem_of_getElem? (i := 515) (by decide +kernel)) rfl, lw_in (List.mem_of_getElem? (i := 516) (by decide +kernel)) rfl, lw_in (List.mem_of_getElem? (i := 517) (by decide +kernel)) rfl⟩
theorem vL_50 : Cond.methodLink RL 50 yX5_clearText ∈ lw_gd ∧ Cond.instanceMethod yX5_clearText ∈ lw_gd ∧ Cond.selects yX5_clearText.cls yX5_clearText yX5_clearText ∈ lw_gd := ⟨lw_in (List.mem_of_getElem? (i := 519) (by decide +kernel)) rfl, lw_in (List.mem_of_getElem? (i := 520) (by decide +kernel)) rfl, lw_in (List.mem_of_getElem? (i := 521) (by decide +kernel)) rfl⟩
theorem vL_54 : Cond.methodLink RL 54 yX5_undo ∈ lw_gd ∧ Cond.instanceMethod yX5_undo ∈ lw_gd ∧ Cond.selects yX5_undo.cls yX5_undo yX5_undo ∈ lw_gd := ⟨lw_in (List.mem_of_getElem? (i := 523) (by decide +kernel)) rfl, lw_in (List.mem_of_getElem? (i := 524) (by decide +kernel)) rfl, lw_in (List.mem_of_getElem? (i := 525) (by decide +kernel)) rfl⟩
theorem vL_58 : Cond.methodLink RL 58 yX5_keep ∈ lw_gd ∧ Cond.instanceMethod yX5_keep ∈ lw_gd ∧ Cond.selects yX5_keep.cls yX5_keep yX5_keep ∈ lw_gd := ⟨lw_in (List.mem_of_getElem? (i := 527) (by decide +kernel)) rfl, lw_in (List.mem_of_getElem? (i := 528) (by decide +kernel)) rfl, lw_in (List.mem_of_getElem? (i := 529) (by decide +kernel)) rfl⟩
theorem vL_62 : Cond.methodLink RL 62 yX5_restore ∈ lw_gd ∧ Cond.instanceMethod yX5_restore ∈ lw_gd ∧ Cond.selects yX5_restore.cls yX5_restore yX5_restore ∈ lw_gd := ⟨lw_in (List.mem_of_getElem? (i := 531) (by decide +kernel)) rfl, lw_in (List.mem_of_getElem? (i := 532) (by decide +kernel)) rfl, lw_in (List.mem_of_getElem? (i := 533) (by decide +kernel)) rfl⟩
theorem vL_66 : Cond.methodLink RL 66 yX5_time ∈ lw_gd ∧ Cond.instanceMethod yX5_time ∈ lw_gd ∧ Cond.selects yX5_time.cls yX5_time yX5_time ∈ lw_gd := ⟨lw_in (List.mem_of_getElem? (i := 535) (by decide +kernel)) rfl, lw_in (List.mem_of_getElem? (i := 536) (by decide +kernel)) rfl, lw_in (List.mem_of_getElem? (i := 537) (by decide +kernel)) rfl⟩
theorem vL_70 : Cond.methodLink RL 70 yX5_bankTime ∈ lw_gd ∧ Cond.instanceMethod yX5_bankTime ∈ lw_gd ∧ Cond.selects yX5_bankTime.cls yX5_bankTime yX5_bankTime ∈ lw_gd := ⟨lw_in (List.mem_of_getElem? (i := 539) (by decide +kernel)) rfl, lw_in (List.mem_of_getElem? (i := 540) (by decide +kernel)) rfl, lw_in (List.mem_of_getElem? (i := 541) (by decide +kernel)) rfl⟩
theorem vL_74 : Cond.methodLink RL 74 yX5_house ∈ lw_gd ∧ Cond.instanceMethod yX5_house ∈ lw_gd ∧ Cond.selects yX5_house.cls yX5_house yX5_house ∈ lw_gd := ⟨lw_in (List.mem_of_getElem? (i := 543) (by decide +kernel)) rfl, lw_in (List.mem_of_getElem? (i := 544) (by decide +kernel)) rfl, lw_in (List.mem_of_getElem? (i := 545) (by decide +kernel)) rfl⟩
theorem vX5_118 : Cond.methodLink RX5 118 yX1_tell ∈ lw_gd ∧ Cond.instanceMethod yX1_tell ∈ lw_gd ∧ Cond.selects yX1_tell.cls yX1_tell yX1_tell ∈ lw_gd := ⟨lw_in (List.mem_of_getElem? (i := 547) (by decide +kernel)) rfl, lw_in (List.mem_of_getElem? (i := 548) (by decide +kernel)) rfl, lw_in (List.mem_of_getElem? (i := 549) (by decide +kernel)) rfl⟩
theorem vL_78 : Cond.methodLink RL 78 yX5_waiting ∈ lw_gd ∧ Cond.instanceMethod yX5_waiting ∈ lw_gd ∧ Cond.selects yX5_waiting.cls yX5_waiting yX5_waiting ∈ lw_gd := ⟨lw_in (List.mem_of_getElem? (i := 551) (by decide +kernel)) rfl, lw_in (List.mem_of_getElem? (i := 552) (by decide +kernel)) rfl, lw_in (List.mem_of_getElem? (i := 553) (by decide +kernel)) rfl⟩
theorem vX5_123 : Cond.methodLink RX5 123 yX1_waitingAt ∈ lw_gd ∧ Cond.instanceMethod yX1_waitingAt ∈ lw_gd ∧ Cond.selects yX1_waitingAt.cls yX1_waitingAt yX1_waitingAt ∈ lw_gd := ⟨lw_in (List.mem_of_getElem? (i := 555) (by decide +kernel)) rfl, lw_in (List.mem_of_getElem? (i := 475) (by decide +kernel)) rfl, lw_in (List.mem_of_getElem? (i := 476) (by decide +kernel)) rfl⟩
theorem vX5_127 : Cond.methodLink RX5 127 yX0_tell ∈ lw_gd ∧ Cond.instanceMethod yX0_tell ∈ lw_gd ∧ Cond.selects yX0_tell.cls yX0_tell yX0_tell ∈ lw_gd := ⟨lw_in (List.mem_of_getElem? (i := 556) (by decide +kernel)) rfl, lw_in (List.mem_of_getElem? (i := 557) (by decide +kernel)) rfl, lw_in (List.mem_of_getElem? (i := 558) (by decide +kernel)) rfl⟩
theorem vL_82 : Cond.methodLink RL 82 yX5_message ∈ lw_gd ∧ Cond.instanceMethod yX5_message ∈ lw_gd ∧ Cond.selects yX5_message.cls yX5_message yX5_message ∈ lw_gd := ⟨lw_in (List.mem_of_getElem? (i := 560) (by decide +kernel)) rfl, lw_in (List.mem_of_getElem? (i := 561) (by decide +kernel)) rfl, lw_in (List.mem_of_getElem? (i := 562) (by decide +kernel)) rfl⟩
theorem vX5_134 : Cond.methodLink RX5 134 yX2_tell ∈ lw_gd ∧ Cond.instanceMethod yX2_tell ∈ lw_gd ∧ Cond.selects yX2_tell.cls yX2_tell yX2_tell ∈ lw_gd := ⟨lw_in (List.mem_of_getElem? (i := 564) (by decide +kernel)) rfl, lw_in (List.mem_of_getElem? (i := 565) (by decide +kernel)) rfl, lw_in (List.mem_of_getElem? (i := 566) (by decide +kernel)) rfl⟩
theorem vX2_39 : Cond.methodLink RX2 39 yX2_errands ∈ lw_gd ∧ Cond.instanceMethod yX2_errands ∈ lw_gd ∧ Cond.selects yX2_errands.cls yX2_errands yX2_errands ∈ lw_gd := ⟨lw_in (List.mem_of_getElem? (i := 568) (by decide +kernel)) rfl, lw_in (List.mem_of_getElem? (i := 425) (by decide +kernel)) rfl, lw_in (List.mem_of_getElem? (i := 426) (by decide +kernel)) rfl⟩
theorem vL_86 : Cond.methodLink RL 86 yX5_total ∈ lw_gd ∧ Cond.instanceMethod yX5_total ∈ lw_gd ∧ Cond.selects yX5_total.cls yX5_total yX5_total ∈ lw_gd := ⟨lw_in (List.mem_of_getElem? (i := 569) (by decide +kernel)) rfl, lw_in (List.mem_of_getElem? (i := 570) (by decide +kernel)) rfl, lw_in (List.mem_of_getElem? (i := 571) (by decide +kernel)) rfl⟩
theorem vX5_138 : Cond.methodLink RX5 138 yX4_tell ∈ lw_gd ∧ Cond.instanceMethod yX4_tell ∈ lw_gd ∧ Cond.selects yX4_tell.cls yX4_tell yX4_tell ∈ lw_gd := ⟨lw_in (List.mem_of_getElem? (i := 573) (by decide +kernel)) rfl, lw_in (List.mem_of_getElem? (i := 574) (by decide +kernel)) rfl, lw_in (List.mem_of_getElem? (i := 575) (by decide +kernel)) rfl⟩
theorem vX4_205 : Cond.methodLink RX4 205 yX4_grainsInHouses ∈ lw_gd ∧ Cond.instanceMethod yX4_grainsInHouses ∈ lw_gd ∧ Cond.selects yX4_grainsInHouses.cls yX4_grainsInHouses yX4_grainsInHouses ∈ lw_gd := ⟨lw_in (List.mem_of_getElem? (i := 577) (by decide +kernel)) rfl, lw_in (List.mem_of_getElem? (i := 578) (by decide +kernel)) rfl, lw_in (List.mem_of_getElem? (i := 579) (by decide +kernel)) rfl⟩
theorem vX4_208 : Cond.methodLink RX4 208 yX4_grainsOnTheirWay ∈ lw_gd ∧ Cond.instanceMethod yX4_grainsOnTheirWay ∈ lw_gd ∧ Cond.selects yX4_grainsOnTheirWay.cls yX4_grainsOnTheirWay yX4_grainsOnTheirWay ∈ lw_gd := ⟨lw_in (List.mem_of_getElem? (i := 581) (by decide +kernel)) rfl, lw_in (List.mem_of_getElem? (i := 582) (by decide +kernel)) rfl, lw_in (List.mem_of_getElem? (i := 583) (by decide +kernel)) rfl⟩
theorem vX4_189 : Cond.methodLink RX4 189 yX4_busyHouses ∈ lw_gd ∧ Cond.instanceMethod yX4_busyHouses ∈ lw_gd ∧ Cond.selects yX4_busyHouses.cls yX4_busyHouses yX4_busyHouses ∈ lw_gd := ⟨lw_in (List.mem_of_getElem? (i := 585) (by decide +kernel)) rfl, lw_in (List.mem_of_getElem? (i := 586) (by decide +kernel)) rfl, lw_in (List.mem_of_getElem? (i := 587) (by decide +kernel)) rfl⟩
theorem vX4_211 : Cond.methodLink RX4 211 yX4_isQuiet ∈ lw_gd ∧ Cond.instanceMethod yX4_isQuiet ∈ lw_gd ∧ Cond.selects yX4_isQuiet.cls yX4_isQuiet yX4_isQuiet ∈ lw_gd := ⟨lw_in (List.mem_of_getElem? (i := 589) (by decide +kernel)) rfl, lw_in (List.mem_of_getElem? (i := 590) (by decide +kernel)) rfl, lw_in (List.mem_of_getElem? (i := 591) (by decide +kernel)) rfl⟩
theorem vX4_214 : Cond.methodLink RX4 214 yX4_isIdle ∈ lw_gd ∧ Cond.instanceMethod yX4_isIdle ∈ lw_gd ∧ Cond.selects yX4_isIdle.cls yX4_isIdle yX4_isIdle ∈ lw_gd := ⟨lw_in (List.mem_of_getElem? (i := 593) (by decide +kernel)) rfl, lw_in (List.mem_of_getElem? (i := 594) (by decide +kernel)) rfl, lw_in (List.mem_of_getElem? (i := 595) (by decide +kernel)) rfl⟩
theorem vX4_192 : Cond.methodLink RX4 192 yX4_isMoreThanGrainsOnItsWay ∈ lw_gd ∧ Cond.instanceMethod yX4_isMoreThanGrainsOnItsWay ∈ lw_gd ∧ Cond.selects yX4_isMoreThanGrainsOnItsWay.cls yX4_isMoreThanGrainsOnItsWay yX4_isMoreThanGrainsOnItsWay ∈ lw_gd := ⟨lw_in (List.mem_of_getElem? (i := 597) (by decide +kernel)) rfl, lw_in (List.mem_of_getElem? (i := 598) (by decide +kernel)) rfl, lw_in (List.mem_of_getElem? (i := 599) (by decide +kernel)) rfl⟩
theorem vL_90 : Cond.methodLink RL 90 yX5_quietIn ∈ lw_gd ∧ Cond.instanceMethod yX5_quietIn ∈ lw_gd ∧ Cond.selects yX5_quietIn.cls yX5_quietIn yX5_quietIn ∈ lw_gd := ⟨lw_in (List.mem_of_getElem? (i := 601) (by decide +kernel)) rfl, lw_in (List.mem_of_getElem? (i := 602) (by decide +kernel)) rfl, lw_in (List.mem_of_getElem? (i := 603) (by decide +kernel)) rfl⟩
theorem vX5_139 : Cond.methodLink RX5 139 yX5_ticksUntil ∈ lw_gd ∧ Cond.instanceMethod yX5_ticksUntil ∈ lw_gd ∧ Cond.selects yX5_ticksUntil.cls yX5_ticksUntil yX5_ticksUntil ∈ lw_gd := ⟨lw_in (List.mem_of_getElem? (i := 605) (by decide +kernel)) rfl, lw_in (List.mem_of_getElem? (i := 607) (by decide +kernel)) rfl, lw_in (List.mem_of_getElem? (i := 4) (by decide +kernel)) rfl⟩
theorem vX5_157 : Cond.methodLink RX5 157 yX4_isQuiet ∈ lw_gd ∧ Cond.instanceMethod yX4_isQuiet ∈ lw_gd ∧ Cond.selects yX4_isQuiet.cls yX4_isQuiet yX4_isQuiet ∈ lw_gd := ⟨lw_in (List.mem_of_getElem? (i := 609) (by decide +kernel)) rfl, lw_in (List.mem_of_getElem? (i := 590) (by decide +kernel)) rfl, lw_in (List.mem_of_getElem? (i := 591) (by decide +kernel)) rfl⟩
theorem vX5_161 : Cond.methodLink RX5 161 yX4_isIdle ∈ lw_gd ∧ Cond.instanceMethod yX4_isIdle ∈ lw_gd ∧ Cond.selects yX4_isIdle.cls yX4_isIdle yX4_isIdle ∈ lw_gd := ⟨lw_in (List.mem_of_getElem? (i := 610) (by decide +kernel)) rfl, lw_in (List.mem_of_getElem? (i := 594) (by decide +kernel)) rfl, lw_in (List.mem_of_getElem? (i := 595) (by decide +kernel)) rfl⟩
theorem vX5_164 : Cond.methodLink RX5 164 yX4_isStuck ∈ lw_gd ∧ Cond.instanceMethod yX4_isStuck ∈ lw_gd ∧ Cond.selects yX4_isStuck.cls yX4_isStuck yX4_isStuck ∈ lw_gd := ⟨lw_in (List.mem_of_getElem? (i := 611) (by decide +kernel)) rfl, lw_in (List.mem_of_getElem? (i := 612) (by decide +kernel)) rfl, lw_in (List.mem_of_getElem? (i := 613) (by decide +kernel)) rfl⟩
theorem vX4_196 : Cond.methodLink RX4 196 yX1_isStuck ∈ lw_gd ∧ Cond.instanceMethod yX1_isStuck ∈ lw_gd ∧ Cond.selects yX1_isStuck.cls yX1_isStuck yX1_isStuck ∈ lw_gd := ⟨lw_in (List.mem_of_getElem? (i := 615) (by decide +kernel)) rfl, lw_in (List.mem_of_getElem? (i := 616) (by decide +kernel)) rfl, lw_in (List.mem_of_getElem? (i := 617) (by decide +kernel)) rfl⟩
theorem vL_94 : Cond.methodLink RL 94 yX5_idleIn ∈ lw_gd ∧ Cond.instanceMethod yX5_idleIn ∈ lw_gd ∧ Cond.selects yX5_idleIn.cls yX5_idleIn yX5_idleIn ∈ lw_gd := ⟨lw_in (List.mem_of_getElem? (i := 619) (by decide +kernel)) rfl, lw_in (List.mem_of_getElem? (i := 620) (by decide +kernel)) rfl, lw_in (List.mem_of_getElem? (i := 621) (by decide +kernel)) rfl⟩
theorem vL_98 : Cond.methodLink RL 98 yX5_planned ∈ lw_gd ∧ Cond.instanceMethod yX5_planned ∈ lw_gd ∧ Cond.selects yX5_planned.cls yX5_planned yX5_planned ∈ lw_gd := ⟨lw_in (List.mem_of_getElem? (i := 623) (by decide +kernel)) rfl, lw_in (List.mem_of_getElem? (i := 624) (by decide +kernel)) rfl, lw_in (List.mem_of_getElem? (i := 625) (by decide +kernel)) rfl⟩
theorem vX5_143 : Cond.methodLink RX5 143 yX3_tell ∈ lw_gd ∧ Cond.instanceMethod yX3_tell ∈ lw_gd ∧ Cond.selects yX3_tell.cls yX3_tell yX3_tell ∈ lw_gd := ⟨lw_in (List.mem_of_getElem? (i := 627) (by decide +kernel)) rfl, lw_in (List.mem_of_getElem? (i := 628) (by decide +kernel)) rfl, lw_in (List.mem_of_getElem? (i := 629) (by decide +kernel)) rfl⟩
theorem vL_102 : Cond.methodLink RL 102 yX5_leastCoin ∈ lw_gd ∧ Cond.instanceMethod yX5_leastCoin ∈ lw_gd ∧ Cond.selects yX5_leastCoin.cls yX5_leastCoin yX5_leastCoin ∈ lw_gd := ⟨lw_in (List.mem_of_getElem? (i := 631) (by decide +kernel)) rfl, lw_in (List.mem_of_getElem? (i := 632) (by decide +kernel)) rfl, lw_in (List.mem_of_getElem? (i := 633) (by decide +kernel)) rfl⟩
theorem vX5_144 : Cond.methodLink RX5 144 yX5_wouldAskWith ∈ lw_gd ∧ Cond.instanceMethod yX5_wouldAskWith ∈ lw_gd ∧ Cond.selects yX5_wouldAskWith.cls yX5_wouldAskWith yX5_wouldAskWith ∈ lw_gd := ⟨lw_in (List.mem_of_getElem? (i := 635) (by decide +kernel)) rfl, lw_in (List.mem_of_getElem? (i := 637) (by decide +kernel)) rfl, lw_in (List.mem_of_getElem? (i := 5) (by decide +kernel)) rfl⟩
theorem vX5_167 : Cond.methodLink RX5 167 yX4_startAnew ∈ lw_gd ∧ Cond.instanceMethod yX4_startAnew ∈ lw_gd ∧ Cond.selects yX4_startAnew.cls yX4_startAnew yX4_startAnew ∈ lw_gd := ⟨lw_in (List.mem_of_getElem? (i := 639) (by decide +kernel)) rfl, lw_in (List.mem_of_getElem? (i := 640) (by decide +kernel)) rfl, lw_in (List.mem_of_getElem? (i := 641) (by decide +kernel)) rfl⟩
theorem vX4_79 : Cond.methodLink RX4 79 yX1_makeNew ∈ lw_gd ∧ Cond.instanceMethod yX1_makeNew ∈ lw_gd ∧ Cond.selects yX1_makeNew.cls yX1_makeNew yX1_makeNew ∈ lw_gd := ⟨lw_in (List.mem_of_getElem? (i := 643) (by decide +kernel)) rfl, lw_in (List.mem_of_getElem? (i := 644) (by decide +kernel)) rfl, lw_in (List.mem_of_getElem? (i := 645) (by decide +kernel)) rfl⟩
theorem vX5_171 : Cond.methodLink RX5 171 yX4_hasAsked ∈ lw_gd ∧ Cond.instanceMethod yX4_hasAsked ∈ lw_gd ∧ Cond.selects yX4_hasAsked.cls yX4_hasAsked yX4_hasAsked ∈ lw_gd := ⟨lw_in (List.mem_of_getElem? (i := 647) (by decide +kernel)) rfl, lw_in (List.mem_of_getElem? (i := 648) (by decide +kernel)) rfl, lw_in (List.mem_of_getElem? (i := 649) (by decide +kernel)) rfl⟩
theorem iL_12 : Cond.methodLink RL 12 yX6_init ∈ lw_gd ∧ Cond.instanceMethod yX6_init ∈ lw_gd ∧ yX6_init.name = "<init>" := ⟨lw_in (List.mem_of_getElem? (i := 653) (by decide +kernel)) rfl, lw_in (List.mem_of_getElem? (i := 654) (by decide +kernel)) rfl, rfl⟩
theorem oX6_1 : Cond.methodLink RX6 1 Lib.objectInit ∈ lw_gd := lw_in (List.mem_of_getElem? (i := 656) (by decide +kernel)) rfl
theorem vL_17 : Cond.methodLink RL 17 yX6_setTime ∈ lw_gd ∧ Cond.instanceMethod yX6_setTime ∈ lw_gd ∧ Cond.selects yX6_setTime.cls yX6_setTime yX6_setTime ∈ lw_gd := ⟨lw_in (List.mem_of_getElem? (i := 697) (by decide +kernel)) rfl, lw_in (List.mem_of_getElem? (i := 698) (by decide +kernel)) rfl, lw_in (List.mem_of_getElem? (i := 699) (by decide +kernel)) rfl⟩
theorem sX6_103 : Cond.methodLink RX6 103 yX6_isHouse ∈ lw_gd ∧ Cond.static yX6_isHouse ∈ lw_gd := ⟨lw_in (List.mem_of_getElem? (i := 701) (by decide +kernel)) rfl, lw_in (List.mem_of_getElem? (i := 702) (by decide +kernel)) rfl⟩
theorem sX6_31 : Cond.methodLink RX6 31 yX6_in ∈ lw_gd ∧ Cond.static yX6_in ∈ lw_gd := ⟨lw_in (List.mem_of_getElem? (i := 704) (by decide +kernel)) rfl, lw_in (List.mem_of_getElem? (i := 705) (by decide +kernel)) rfl⟩
theorem vX6_107 : Cond.methodLink RX6 107 yX6_record ∈ lw_gd ∧ Cond.instanceMethod yX6_record ∈ lw_gd ∧ Cond.selects yX6_record.cls yX6_record yX6_record ∈ lw_gd := ⟨lw_in (List.mem_of_getElem? (i := 707) (by decide +kernel)) rfl, lw_in (List.mem_of_getElem? (i := 709) (by decide +kernel)) rfl, lw_in (List.mem_of_getElem? (i := 6) (by decide +kernel)) rfl⟩
theorem vL_22 : Cond.methodLink RL 22 yX6_setBankTime ∈ lw_gd ∧ Cond.instanceMethod yX6_setBankTime ∈ lw_gd ∧ Cond.selects yX6_setBankTime.cls yX6_setBankTime yX6_setBankTime ∈ lw_gd := ⟨lw_in (List.mem_of_getElem? (i := 711) (by decide +kernel)) rfl, lw_in (List.mem_of_getElem? (i := 712) (by decide +kernel)) rfl, lw_in (List.mem_of_getElem? (i := 713) (by decide +kernel)) rfl⟩
theorem vL_26 : Cond.methodLink RL 26 yX6_set ∈ lw_gd ∧ Cond.instanceMethod yX6_set ∈ lw_gd ∧ Cond.selects yX6_set.cls yX6_set yX6_set ∈ lw_gd := ⟨lw_in (List.mem_of_getElem? (i := 715) (by decide +kernel)) rfl, lw_in (List.mem_of_getElem? (i := 716) (by decide +kernel)) rfl, lw_in (List.mem_of_getElem? (i := 717) (by decide +kernel)) rfl⟩
theorem vL_49 : Cond.methodLink RL 49 yX6_type ∈ lw_gd ∧ Cond.instanceMethod yX6_type ∈ lw_gd ∧ Cond.selects yX6_type.cls yX6_type yX6_type ∈ lw_gd := ⟨lw_in (List.mem_of_getElem? (i := 719) (by decide +kernel)) rfl, lw_in (List.mem_of_getElem? (i := 720) (by decide +kernel)) rfl, lw_in (List.mem_of_getElem? (i := 721) (by decide +kernel)) rfl⟩
theorem vL_53 : Cond.methodLink RL 53 yX6_clearText ∈ lw_gd ∧ Cond.instanceMethod yX6_clearText ∈ lw_gd ∧ Cond.selects yX6_clearText.cls yX6_clearText yX6_clearText ∈ lw_gd := ⟨lw_in (List.mem_of_getElem? (i := 723) (by decide +kernel)) rfl, lw_in (List.mem_of_getElem? (i := 724) (by decide +kernel)) rfl, lw_in (List.mem_of_getElem? (i := 725) (by decide +kernel)) rfl⟩
theorem vL_31 : Cond.methodLink RL 31 yX6_launch ∈ lw_gd ∧ Cond.instanceMethod yX6_launch ∈ lw_gd ∧ Cond.selects yX6_launch.cls yX6_launch yX6_launch ∈ lw_gd := ⟨lw_in (List.mem_of_getElem? (i := 727) (by decide +kernel)) rfl, lw_in (List.mem_of_getElem? (i := 728) (by decide +kernel)) rfl, lw_in (List.mem_of_getElem? (i := 729) (by decide +kernel)) rfl⟩
theorem vX6_136 : Cond.methodLink RX6 136 yX6_readText ∈ lw_gd ∧ Cond.instanceMethod yX6_readText ∈ lw_gd ∧ Cond.selects yX6_readText.cls yX6_readText yX6_readText ∈ lw_gd := ⟨lw_in (List.mem_of_getElem? (i := 731) (by decide +kernel)) rfl, lw_in (List.mem_of_getElem? (i := 733) (by decide +kernel)) rfl, lw_in (List.mem_of_getElem? (i := 7) (by decide +kernel)) rfl⟩
theorem vX6_128 : Cond.methodLink RX6 128 yX6_readHead ∈ lw_gd ∧ Cond.instanceMethod yX6_readHead ∈ lw_gd ∧ Cond.selects yX6_readHead.cls yX6_readHead yX6_readHead ∈ lw_gd := ⟨lw_in (List.mem_of_getElem? (i := 735) (by decide +kernel)) rfl, lw_in (List.mem_of_getElem? (i := 737) (by decide +kernel)) rfl, lw_in (List.mem_of_getElem? (i := 8) (by decide +kernel)) rfl⟩
theorem vX6_116 : Cond.methodLink RX6 116 yX6_isNext ∈ lw_gd ∧ Cond.instanceMethod yX6_isNext ∈ lw_gd ∧ Cond.selects yX6_isNext.cls yX6_isNext yX6_isNext ∈ lw_gd := ⟨lw_in (List.mem_of_getElem? (i := 739) (by decide +kernel)) rfl, lw_in (List.mem_of_getElem? (i := 741) (by decide +kernel)) rfl, lw_in (List.mem_of_getElem? (i := 9) (by decide +kernel)) rfl⟩
theorem vX6_119 : Cond.methodLink RX6 119 yX6_takes ∈ lw_gd ∧ Cond.instanceMethod yX6_takes ∈ lw_gd ∧ Cond.selects yX6_takes.cls yX6_takes yX6_takes ∈ lw_gd := ⟨lw_in (List.mem_of_getElem? (i := 743) (by decide +kernel)) rfl, lw_in (List.mem_of_getElem? (i := 745) (by decide +kernel)) rfl, lw_in (List.mem_of_getElem? (i := 10) (by decide +kernel)) rfl⟩
theorem vX6_139 : Cond.methodLink RX6 139 yX6_underWay ∈ lw_gd ∧ Cond.instanceMethod yX6_underWay ∈ lw_gd ∧ Cond.selects yX6_underWay.cls yX6_underWay yX6_underWay ∈ lw_gd := ⟨lw_in (List.mem_of_getElem? (i := 747) (by decide +kernel)) rfl, lw_in (List.mem_of_getElem? (i := 749) (by decide +kernel)) rfl, lw_in (List.mem_of_getElem? (i := 11) (by decide +kernel)) rfl⟩
theorem vX6_39 : Cond.methodLink RX6 39 yX6_ofErrand ∈ lw_gd ∧ Cond.instanceMethod yX6_ofErrand ∈ lw_gd ∧ Cond.selects yX6_ofErrand.cls yX6_ofErrand yX6_ofErrand ∈ lw_gd := ⟨lw_in (List.mem_of_getElem? (i := 751) (by decide +kernel)) rfl, lw_in (List.mem_of_getElem? (i := 753) (by decide +kernel)) rfl, lw_in (List.mem_of_getElem? (i := 12) (by decide +kernel)) rfl⟩
theorem vX6_142 : Cond.methodLink RX6 142 yX6_launchAll ∈ lw_gd ∧ Cond.instanceMethod yX6_launchAll ∈ lw_gd ∧ Cond.selects yX6_launchAll.cls yX6_launchAll yX6_launchAll ∈ lw_gd := ⟨lw_in (List.mem_of_getElem? (i := 755) (by decide +kernel)) rfl, lw_in (List.mem_of_getElem? (i := 757) (by decide +kernel)) rfl, lw_in (List.mem_of_getElem? (i := 13) (by decide +kernel)) rfl⟩
theorem vX6_132 : Cond.methodLink RX6 132 yX6_add ∈ lw_gd ∧ Cond.instanceMethod yX6_add ∈ lw_gd ∧ Cond.selects yX6_add.cls yX6_add yX6_add ∈ lw_gd := ⟨lw_in (List.mem_of_getElem? (i := 759) (by decide +kernel)) rfl, lw_in (List.mem_of_getElem? (i := 761) (by decide +kernel)) rfl, lw_in (List.mem_of_getElem? (i := 14) (by decide +kernel)) rfl⟩
theorem vX6_53 : Cond.methodLink RX6 53 yX6_setErrand ∈ lw_gd ∧ Cond.instanceMethod yX6_setErrand ∈ lw_gd ∧ Cond.selects yX6_setErrand.cls yX6_setErrand yX6_setErrand ∈ lw_gd := ⟨lw_in (List.mem_of_getElem? (i := 763) (by decide +kernel)) rfl, lw_in (List.mem_of_getElem? (i := 765) (by decide +kernel)) rfl, lw_in (List.mem_of_getElem? (i := 15) (by decide +kernel)) rfl⟩
theorem vX6_90 : Cond.methodLink RX6 90 yX6_mint ∈ lw_gd ∧ Cond.instanceMethod yX6_mint ∈ lw_gd ∧ Cond.selects yX6_mint.cls yX6_mint yX6_mint ∈ lw_gd := ⟨lw_in (List.mem_of_getElem? (i := 767) (by decide +kernel)) rfl, lw_in (List.mem_of_getElem? (i := 769) (by decide +kernel)) rfl, lw_in (List.mem_of_getElem? (i := 16) (by decide +kernel)) rfl⟩
theorem vX6_73 : Cond.methodLink RX6 73 yX6_send ∈ lw_gd ∧ Cond.instanceMethod yX6_send ∈ lw_gd ∧ Cond.selects yX6_send.cls yX6_send yX6_send ∈ lw_gd := ⟨lw_in (List.mem_of_getElem? (i := 771) (by decide +kernel)) rfl, lw_in (List.mem_of_getElem? (i := 773) (by decide +kernel)) rfl, lw_in (List.mem_of_getElem? (i := 17) (by decide +kernel)) rfl⟩
theorem vX6_57 : Cond.methodLink RX6 57 yX6_timeBetween ∈ lw_gd ∧ Cond.instanceMethod yX6_timeBetween ∈ lw_gd ∧ Cond.selects yX6_timeBetween.cls yX6_timeBetween yX6_timeBetween ∈ lw_gd := ⟨lw_in (List.mem_of_getElem? (i := 775) (by decide +kernel)) rfl, lw_in (List.mem_of_getElem? (i := 777) (by decide +kernel)) rfl, lw_in (List.mem_of_getElem? (i := 18) (by decide +kernel)) rfl⟩
theorem vL_101 : Cond.methodLink RL 101 yX6_planned ∈ lw_gd ∧ Cond.instanceMethod yX6_planned ∈ lw_gd ∧ Cond.selects yX6_planned.cls yX6_planned yX6_planned ∈ lw_gd := ⟨lw_in (List.mem_of_getElem? (i := 779) (by decide +kernel)) rfl, lw_in (List.mem_of_getElem? (i := 780) (by decide +kernel)) rfl, lw_in (List.mem_of_getElem? (i := 781) (by decide +kernel)) rfl⟩
theorem vX6_145 : Cond.methodLink RX6 145 yX6_partsOfRead ∈ lw_gd ∧ Cond.instanceMethod yX6_partsOfRead ∈ lw_gd ∧ Cond.selects yX6_partsOfRead.cls yX6_partsOfRead yX6_partsOfRead ∈ lw_gd := ⟨lw_in (List.mem_of_getElem? (i := 783) (by decide +kernel)) rfl, lw_in (List.mem_of_getElem? (i := 785) (by decide +kernel)) rfl, lw_in (List.mem_of_getElem? (i := 19) (by decide +kernel)) rfl⟩
theorem vL_36 : Cond.methodLink RL 36 yX6_pass ∈ lw_gd ∧ Cond.instanceMethod yX6_pass ∈ lw_gd ∧ Cond.selects yX6_pass.cls yX6_pass yX6_pass ∈ lw_gd := ⟨lw_in (List.mem_of_getElem? (i := 787) (by decide +kernel)) rfl, lw_in (List.mem_of_getElem? (i := 788) (by decide +kernel)) rfl, lw_in (List.mem_of_getElem? (i := 789) (by decide +kernel)) rfl⟩
theorem vX6_149 : Cond.methodLink RX6 149 yX6_tick ∈ lw_gd ∧ Cond.instanceMethod yX6_tick ∈ lw_gd ∧ Cond.selects yX6_tick.cls yX6_tick yX6_tick ∈ lw_gd := ⟨lw_in (List.mem_of_getElem? (i := 792) (by decide +kernel)) rfl, lw_in (List.mem_of_getElem? (i := 794) (by decide +kernel)) rfl, lw_in (List.mem_of_getElem? (i := 20) (by decide +kernel)) rfl⟩
theorem vX6_60 : Cond.methodLink RX6 60 yX6_ofMessage ∈ lw_gd ∧ Cond.instanceMethod yX6_ofMessage ∈ lw_gd ∧ Cond.selects yX6_ofMessage.cls yX6_ofMessage yX6_ofMessage ∈ lw_gd := ⟨lw_in (List.mem_of_getElem? (i := 796) (by decide +kernel)) rfl, lw_in (List.mem_of_getElem? (i := 798) (by decide +kernel)) rfl, lw_in (List.mem_of_getElem? (i := 21) (by decide +kernel)) rfl⟩
theorem vX6_94 : Cond.methodLink RX6 94 yX6_arrive ∈ lw_gd ∧ Cond.instanceMethod yX6_arrive ∈ lw_gd ∧ Cond.selects yX6_arrive.cls yX6_arrive yX6_arrive ∈ lw_gd := ⟨lw_in (List.mem_of_getElem? (i := 800) (by decide +kernel)) rfl, lw_in (List.mem_of_getElem? (i := 802) (by decide +kernel)) rfl, lw_in (List.mem_of_getElem? (i := 22) (by decide +kernel)) rfl⟩
theorem vX6_84 : Cond.methodLink RX6 84 yX6_takeAway ∈ lw_gd ∧ Cond.instanceMethod yX6_takeAway ∈ lw_gd ∧ Cond.selects yX6_takeAway.cls yX6_takeAway yX6_takeAway ∈ lw_gd := ⟨lw_in (List.mem_of_getElem? (i := 804) (by decide +kernel)) rfl, lw_in (List.mem_of_getElem? (i := 806) (by decide +kernel)) rfl, lw_in (List.mem_of_getElem? (i := 23) (by decide +kernel)) rfl⟩
theorem vX6_87 : Cond.methodLink RX6 87 yX6_errandArrives ∈ lw_gd ∧ Cond.instanceMethod yX6_errandArrives ∈ lw_gd ∧ Cond.selects yX6_errandArrives.cls yX6_errandArrives yX6_errandArrives ∈ lw_gd := ⟨lw_in (List.mem_of_getElem? (i := 808) (by decide +kernel)) rfl, lw_in (List.mem_of_getElem? (i := 810) (by decide +kernel)) rfl, lw_in (List.mem_of_getElem? (i := 24) (by decide +kernel)) rfl⟩
theorem vX6_77 : Cond.methodLink RX6 77 yX6_setHouse ∈ lw_gd ∧ Cond.instanceMethod yX6_setHouse ∈ lw_gd ∧ Cond.selects yX6_setHouse.cls yX6_setHouse yX6_setHouse ∈ lw_gd := ⟨lw_in (List.mem_of_getElem? (i := 812) (by decide +kernel)) rfl, lw_in (List.mem_of_getElem? (i := 814) (by decide +kernel)) rfl, lw_in (List.mem_of_getElem? (i := 25) (by decide +kernel)) rfl⟩
theorem vX6_70 : Cond.methodLink RX6 70 yX6_addToHouse ∈ lw_gd ∧ Cond.instanceMethod yX6_addToHouse ∈ lw_gd ∧ Cond.selects yX6_addToHouse.cls yX6_addToHouse yX6_addToHouse ∈ lw_gd := ⟨lw_in (List.mem_of_getElem? (i := 816) (by decide +kernel)) rfl, lw_in (List.mem_of_getElem? (i := 818) (by decide +kernel)) rfl, lw_in (List.mem_of_getElem? (i := 26) (by decide +kernel)) rfl⟩
theorem vX6_43 : Cond.methodLink RX6 43 yX6_first ∈ lw_gd ∧ Cond.instanceMethod yX6_first ∈ lw_gd ∧ Cond.selects yX6_first.cls yX6_first yX6_first ∈ lw_gd := ⟨lw_in (List.mem_of_getElem? (i := 820) (by decide +kernel)) rfl, lw_in (List.mem_of_getElem? (i := 822) (by decide +kernel)) rfl, lw_in (List.mem_of_getElem? (i := 27) (by decide +kernel)) rfl⟩
theorem vX6_80 : Cond.methodLink RX6 80 yX6_sendWhatItCan ∈ lw_gd ∧ Cond.instanceMethod yX6_sendWhatItCan ∈ lw_gd ∧ Cond.selects yX6_sendWhatItCan.cls yX6_sendWhatItCan yX6_sendWhatItCan ∈ lw_gd := ⟨lw_in (List.mem_of_getElem? (i := 824) (by decide +kernel)) rfl, lw_in (List.mem_of_getElem? (i := 826) (by decide +kernel)) rfl, lw_in (List.mem_of_getElem? (i := 28) (by decide +kernel)) rfl⟩
theorem vX6_63 : Cond.methodLink RX6 63 yX6_firstWaiting ∈ lw_gd ∧ Cond.instanceMethod yX6_firstWaiting ∈ lw_gd ∧ Cond.selects yX6_firstWaiting.cls yX6_firstWaiting yX6_firstWaiting ∈ lw_gd := ⟨lw_in (List.mem_of_getElem? (i := 828) (by decide +kernel)) rfl, lw_in (List.mem_of_getElem? (i := 830) (by decide +kernel)) rfl, lw_in (List.mem_of_getElem? (i := 29) (by decide +kernel)) rfl⟩
theorem vX6_67 : Cond.methodLink RX6 67 yX6_ofHouse ∈ lw_gd ∧ Cond.instanceMethod yX6_ofHouse ∈ lw_gd ∧ Cond.selects yX6_ofHouse.cls yX6_ofHouse yX6_ofHouse ∈ lw_gd := ⟨lw_in (List.mem_of_getElem? (i := 832) (by decide +kernel)) rfl, lw_in (List.mem_of_getElem? (i := 834) (by decide +kernel)) rfl, lw_in (List.mem_of_getElem? (i := 30) (by decide +kernel)) rfl⟩
theorem vX6_97 : Cond.methodLink RX6 97 yX6_work ∈ lw_gd ∧ Cond.instanceMethod yX6_work ∈ lw_gd ∧ Cond.selects yX6_work.cls yX6_work yX6_work ∈ lw_gd := ⟨lw_in (List.mem_of_getElem? (i := 836) (by decide +kernel)) rfl, lw_in (List.mem_of_getElem? (i := 838) (by decide +kernel)) rfl, lw_in (List.mem_of_getElem? (i := 31) (by decide +kernel)) rfl⟩
theorem vL_40 : Cond.methodLink RL 40 yX6_lose ∈ lw_gd ∧ Cond.instanceMethod yX6_lose ∈ lw_gd ∧ Cond.selects yX6_lose.cls yX6_lose yX6_lose ∈ lw_gd := ⟨lw_in (List.mem_of_getElem? (i := 840) (by decide +kernel)) rfl, lw_in (List.mem_of_getElem? (i := 841) (by decide +kernel)) rfl, lw_in (List.mem_of_getElem? (i := 842) (by decide +kernel)) rfl⟩
theorem vX6_152 : Cond.methodLink RX6 152 yX6_ranked ∈ lw_gd ∧ Cond.instanceMethod yX6_ranked ∈ lw_gd ∧ Cond.selects yX6_ranked.cls yX6_ranked yX6_ranked ∈ lw_gd := ⟨lw_in (List.mem_of_getElem? (i := 844) (by decide +kernel)) rfl, lw_in (List.mem_of_getElem? (i := 846) (by decide +kernel)) rfl, lw_in (List.mem_of_getElem? (i := 32) (by decide +kernel)) rfl⟩
theorem vX6_155 : Cond.methodLink RX6 155 yX6_drop ∈ lw_gd ∧ Cond.instanceMethod yX6_drop ∈ lw_gd ∧ Cond.selects yX6_drop.cls yX6_drop yX6_drop ∈ lw_gd := ⟨lw_in (List.mem_of_getElem? (i := 848) (by decide +kernel)) rfl, lw_in (List.mem_of_getElem? (i := 850) (by decide +kernel)) rfl, lw_in (List.mem_of_getElem? (i := 33) (by decide +kernel)) rfl⟩
theorem vX6_49 : Cond.methodLink RX6 49 yX6_isWithin ∈ lw_gd ∧ Cond.instanceMethod yX6_isWithin ∈ lw_gd ∧ Cond.selects yX6_isWithin.cls yX6_isWithin yX6_isWithin ∈ lw_gd := ⟨lw_in (List.mem_of_getElem? (i := 852) (by decide +kernel)) rfl, lw_in (List.mem_of_getElem? (i := 854) (by decide +kernel)) rfl, lw_in (List.mem_of_getElem? (i := 34) (by decide +kernel)) rfl⟩
theorem vL_44 : Cond.methodLink RL 44 yX6_makeGood ∈ lw_gd ∧ Cond.instanceMethod yX6_makeGood ∈ lw_gd ∧ Cond.selects yX6_makeGood.cls yX6_makeGood yX6_makeGood ∈ lw_gd := ⟨lw_in (List.mem_of_getElem? (i := 856) (by decide +kernel)) rfl, lw_in (List.mem_of_getElem? (i := 857) (by decide +kernel)) rfl, lw_in (List.mem_of_getElem? (i := 858) (by decide +kernel)) rfl⟩
theorem vL_57 : Cond.methodLink RL 57 yX6_undo ∈ lw_gd ∧ Cond.instanceMethod yX6_undo ∈ lw_gd ∧ Cond.selects yX6_undo.cls yX6_undo yX6_undo ∈ lw_gd := ⟨lw_in (List.mem_of_getElem? (i := 860) (by decide +kernel)) rfl, lw_in (List.mem_of_getElem? (i := 861) (by decide +kernel)) rfl, lw_in (List.mem_of_getElem? (i := 862) (by decide +kernel)) rfl⟩
theorem vL_61 : Cond.methodLink RL 61 yX6_keep ∈ lw_gd ∧ Cond.instanceMethod yX6_keep ∈ lw_gd ∧ Cond.selects yX6_keep.cls yX6_keep yX6_keep ∈ lw_gd := ⟨lw_in (List.mem_of_getElem? (i := 864) (by decide +kernel)) rfl, lw_in (List.mem_of_getElem? (i := 865) (by decide +kernel)) rfl, lw_in (List.mem_of_getElem? (i := 866) (by decide +kernel)) rfl⟩
theorem sX6_158 : Cond.methodLink RX6 158 yX6_copy ∈ lw_gd ∧ Cond.static yX6_copy ∈ lw_gd := ⟨lw_in (List.mem_of_getElem? (i := 868) (by decide +kernel)) rfl, lw_in (List.mem_of_getElem? (i := 869) (by decide +kernel)) rfl⟩
theorem vL_65 : Cond.methodLink RL 65 yX6_restore ∈ lw_gd ∧ Cond.instanceMethod yX6_restore ∈ lw_gd ∧ Cond.selects yX6_restore.cls yX6_restore yX6_restore ∈ lw_gd := ⟨lw_in (List.mem_of_getElem? (i := 871) (by decide +kernel)) rfl, lw_in (List.mem_of_getElem? (i := 872) (by decide +kernel)) rfl, lw_in (List.mem_of_getElem? (i := 873) (by decide +kernel)) rfl⟩
theorem vL_69 : Cond.methodLink RL 69 yX6_time ∈ lw_gd ∧ Cond.instanceMethod yX6_time ∈ lw_gd ∧ Cond.selects yX6_time.cls yX6_time yX6_time ∈ lw_gd := ⟨lw_in (List.mem_of_getElem? (i := 875) (by decide +kernel)) rfl, lw_in (List.mem_of_getElem? (i := 876) (by decide +kernel)) rfl, lw_in (List.mem_of_getElem? (i := 877) (by decide +kernel)) rfl⟩
theorem vL_73 : Cond.methodLink RL 73 yX6_bankTime ∈ lw_gd ∧ Cond.instanceMethod yX6_bankTime ∈ lw_gd ∧ Cond.selects yX6_bankTime.cls yX6_bankTime yX6_bankTime ∈ lw_gd := ⟨lw_in (List.mem_of_getElem? (i := 879) (by decide +kernel)) rfl, lw_in (List.mem_of_getElem? (i := 880) (by decide +kernel)) rfl, lw_in (List.mem_of_getElem? (i := 881) (by decide +kernel)) rfl⟩
theorem vL_77 : Cond.methodLink RL 77 yX6_house ∈ lw_gd ∧ Cond.instanceMethod yX6_house ∈ lw_gd ∧ Cond.selects yX6_house.cls yX6_house yX6_house ∈ lw_gd := ⟨lw_in (List.mem_of_getElem? (i := 883) (by decide +kernel)) rfl, lw_in (List.mem_of_getElem? (i := 884) (by decide +kernel)) rfl, lw_in (List.mem_of_getElem? (i := 885) (by decide +kernel)) rfl⟩
theorem vX6_46 : Cond.methodLink RX6 46 yX6_count ∈ lw_gd ∧ Cond.instanceMethod yX6_count ∈ lw_gd ∧ Cond.selects yX6_count.cls yX6_count yX6_count ∈ lw_gd := ⟨lw_in (List.mem_of_getElem? (i := 887) (by decide +kernel)) rfl, lw_in (List.mem_of_getElem? (i := 889) (by decide +kernel)) rfl, lw_in (List.mem_of_getElem? (i := 35) (by decide +kernel)) rfl⟩
theorem vL_81 : Cond.methodLink RL 81 yX6_waiting ∈ lw_gd ∧ Cond.instanceMethod yX6_waiting ∈ lw_gd ∧ Cond.selects yX6_waiting.cls yX6_waiting yX6_waiting ∈ lw_gd := ⟨lw_in (List.mem_of_getElem? (i := 891) (by decide +kernel)) rfl, lw_in (List.mem_of_getElem? (i := 892) (by decide +kernel)) rfl, lw_in (List.mem_of_getElem? (i := 893) (by decide +kernel)) rfl⟩
theorem vX6_166 : Cond.methodLink RX6 166 yX6_waitingAt ∈ lw_gd ∧ Cond.instanceMethod yX6_waitingAt ∈ lw_gd ∧ Cond.selects yX6_waitingAt.cls yX6_waitingAt yX6_waitingAt ∈ lw_gd := ⟨lw_in (List.mem_of_getElem? (i := 895) (by decide +kernel)) rfl, lw_in (List.mem_of_getElem? (i := 897) (by decide +kernel)) rfl, lw_in (List.mem_of_getElem? (i := 36) (by decide +kernel)) rfl⟩
theorem vX6_169 : Cond.methodLink RX6 169 yX6_partsOf ∈ lw_gd ∧ Cond.instanceMethod yX6_partsOf ∈ lw_gd ∧ Cond.selects yX6_partsOf.cls yX6_partsOf yX6_partsOf ∈ lw_gd := ⟨lw_in (List.mem_of_getElem? (i := 899) (by decide +kernel)) rfl, lw_in (List.mem_of_getElem? (i := 901) (by decide +kernel)) rfl, lw_in (List.mem_of_getElem? (i := 37) (by decide +kernel)) rfl⟩
theorem vX6_172 : Cond.methodLink RX6 172 yX6_sizeOf ∈ lw_gd ∧ Cond.instanceMethod yX6_sizeOf ∈ lw_gd ∧ Cond.selects yX6_sizeOf.cls yX6_sizeOf yX6_sizeOf ∈ lw_gd := ⟨lw_in (List.mem_of_getElem? (i := 903) (by decide +kernel)) rfl, lw_in (List.mem_of_getElem? (i := 905) (by decide +kernel)) rfl, lw_in (List.mem_of_getElem? (i := 38) (by decide +kernel)) rfl⟩
theorem vL_85 : Cond.methodLink RL 85 yX6_message ∈ lw_gd ∧ Cond.instanceMethod yX6_message ∈ lw_gd ∧ Cond.selects yX6_message.cls yX6_message yX6_message ∈ lw_gd := ⟨lw_in (List.mem_of_getElem? (i := 907) (by decide +kernel)) rfl, lw_in (List.mem_of_getElem? (i := 908) (by decide +kernel)) rfl, lw_in (List.mem_of_getElem? (i := 909) (by decide +kernel)) rfl⟩
theorem vL_89 : Cond.methodLink RL 89 yX6_total ∈ lw_gd ∧ Cond.instanceMethod yX6_total ∈ lw_gd ∧ Cond.selects yX6_total.cls yX6_total yX6_total ∈ lw_gd := ⟨lw_in (List.mem_of_getElem? (i := 911) (by decide +kernel)) rfl, lw_in (List.mem_of_getElem? (i := 912) (by decide +kernel)) rfl, lw_in (List.mem_of_getElem? (i := 913) (by decide +kernel)) rfl⟩
theorem vX6_100 : Cond.methodLink RX6 100 yX6_sumOfHouses ∈ lw_gd ∧ Cond.instanceMethod yX6_sumOfHouses ∈ lw_gd ∧ Cond.selects yX6_sumOfHouses.cls yX6_sumOfHouses yX6_sumOfHouses ∈ lw_gd := ⟨lw_in (List.mem_of_getElem? (i := 915) (by decide +kernel)) rfl, lw_in (List.mem_of_getElem? (i := 917) (by decide +kernel)) rfl, lw_in (List.mem_of_getElem? (i := 39) (by decide +kernel)) rfl⟩
theorem vX6_175 : Cond.methodLink RX6 175 yX6_grainsOnWay ∈ lw_gd ∧ Cond.instanceMethod yX6_grainsOnWay ∈ lw_gd ∧ Cond.selects yX6_grainsOnWay.cls yX6_grainsOnWay yX6_grainsOnWay ∈ lw_gd := ⟨lw_in (List.mem_of_getElem? (i := 919) (by decide +kernel)) rfl, lw_in (List.mem_of_getElem? (i := 921) (by decide +kernel)) rfl, lw_in (List.mem_of_getElem? (i := 40) (by decide +kernel)) rfl⟩
theorem vX6_178 : Cond.methodLink RX6 178 yX6_isQuiet ∈ lw_gd ∧ Cond.instanceMethod yX6_isQuiet ∈ lw_gd ∧ Cond.selects yX6_isQuiet.cls yX6_isQuiet yX6_isQuiet ∈ lw_gd := ⟨lw_in (List.mem_of_getElem? (i := 923) (by decide +kernel)) rfl, lw_in (List.mem_of_getElem? (i := 925) (by decide +kernel)) rfl, lw_in (List.mem_of_getElem? (i := 41) (by decide +kernel)) rfl⟩
theorem vX6_181 : Cond.methodLink RX6 181 yX6_isIdle ∈ lw_gd ∧ Cond.instanceMethod yX6_isIdle ∈ lw_gd ∧ Cond.selects yX6_isIdle.cls yX6_isIdle yX6_isIdle ∈ lw_gd := ⟨lw_in (List.mem_of_getElem? (i := 927) (by decide +kernel)) rfl, lw_in (List.mem_of_getElem? (i := 929) (by decide +kernel)) rfl, lw_in (List.mem_of_getElem? (i := 42) (by decide +kernel)) rfl⟩
theorem vL_93 : Cond.methodLink RL 93 yX6_quietIn ∈ lw_gd ∧ Cond.instanceMethod yX6_quietIn ∈ lw_gd ∧ Cond.selects yX6_quietIn.cls yX6_quietIn yX6_quietIn ∈ lw_gd := ⟨lw_in (List.mem_of_getElem? (i := 931) (by decide +kernel)) rfl, lw_in (List.mem_of_getElem? (i := 932) (by decide +kernel)) rfl, lw_in (List.mem_of_getElem? (i := 933) (by decide +kernel)) rfl⟩
theorem vL_97 : Cond.methodLink RL 97 yX6_idleIn ∈ lw_gd ∧ Cond.instanceMethod yX6_idleIn ∈ lw_gd ∧ Cond.selects yX6_idleIn.cls yX6_idleIn yX6_idleIn ∈ lw_gd := ⟨lw_in (List.mem_of_getElem? (i := 935) (by decide +kernel)) rfl, lw_in (List.mem_of_getElem? (i := 936) (by decide +kernel)) rfl, lw_in (List.mem_of_getElem? (i := 937) (by decide +kernel)) rfl⟩
theorem vL_105 : Cond.methodLink RL 105 yX6_leastCoin ∈ lw_gd ∧ Cond.instanceMethod yX6_leastCoin ∈ lw_gd ∧ Cond.selects yX6_leastCoin.cls yX6_leastCoin yX6_leastCoin ∈ lw_gd := ⟨lw_in (List.mem_of_getElem? (i := 939) (by decide +kernel)) rfl, lw_in (List.mem_of_getElem? (i := 940) (by decide +kernel)) rfl, lw_in (List.mem_of_getElem? (i := 941) (by decide +kernel)) rfl⟩
theorem vX6_187 : Cond.methodLink RX6 187 yX6_isEnough ∈ lw_gd ∧ Cond.instanceMethod yX6_isEnough ∈ lw_gd ∧ Cond.selects yX6_isEnough.cls yX6_isEnough yX6_isEnough ∈ lw_gd := ⟨lw_in (List.mem_of_getElem? (i := 943) (by decide +kernel)) rfl, lw_in (List.mem_of_getElem? (i := 945) (by decide +kernel)) rfl, lw_in (List.mem_of_getElem? (i := 43) (by decide +kernel)) rfl⟩
theorem vX6_184 : Cond.methodLink RX6 184 yX6_beginAnew ∈ lw_gd ∧ Cond.instanceMethod yX6_beginAnew ∈ lw_gd ∧ Cond.selects yX6_beginAnew.cls yX6_beginAnew yX6_beginAnew ∈ lw_gd := ⟨lw_in (List.mem_of_getElem? (i := 947) (by decide +kernel)) rfl, lw_in (List.mem_of_getElem? (i := 949) (by decide +kernel)) rfl, lw_in (List.mem_of_getElem? (i := 44) (by decide +kernel)) rfl⟩
theorem iX4_38 : (∀ U, Ex U → va_Nw (.methodLinkNest RX4 38 yX1_init "CoinErrands") U) ∧ Cond.instanceMethod yX1_init ∈ lw_gd ∧ yX1_init.name = "<init>" := ⟨fun _ h => h.1, lw_in (List.mem_of_getElem? (i := 77) (by decide +kernel)) rfl, rfl⟩
theorem iX4_39 : (∀ U, Ex U → va_Nw (.methodLinkNest RX4 39 yX2_init "CoinErrands") U) ∧ Cond.instanceMethod yX2_init ∈ lw_gd ∧ yX2_init.name = "<init>" := ⟨fun _ h => h.2.1, lw_in (List.mem_of_getElem? (i := 128) (by decide +kernel)) rfl, rfl⟩
theorem iX5_32 : (∀ U, Ex U → va_Nw (.methodLinkNest RX5 32 yX3_init "CoinErrands") U) ∧ Cond.instanceMethod yX3_init ∈ lw_gd ∧ yX3_init.name = "<init>" := ⟨fun _ h => h.2.2.1, lw_in (List.mem_of_getElem? (i := 209) (by decide +kernel)) rfl, rfl⟩
theorem sX4_134 : (∀ U, Ex U → va_Nw (.methodLinkNest RX4 134 yX5_isHouse "CoinErrands") U) ∧ Cond.static yX5_isHouse ∈ lw_gd := ⟨fun _ h => h.2.2.2.1, lw_in (List.mem_of_getElem? (i := 279) (by decide +kernel)) rfl⟩
theorem cL_7 : Cond.classLink RL 7 RX5 ∈ lw_gd := lw_in (List.mem_of_getElem? (i := 54) (by decide +kernel)) rfl
theorem cX5_9 : Cond.classLink RX5 9 RX4 ∈ lw_gd := lw_in (List.mem_of_getElem? (i := 62) (by decide +kernel)) rfl
theorem cX4_22 : Cond.classLink RX4 22 RX1 ∈ lw_gd := lw_in (List.mem_of_getElem? (i := 68) (by decide +kernel)) rfl
theorem cX4_28 : Cond.classLink RX4 28 RX2 ∈ lw_gd := lw_in (List.mem_of_getElem? (i := 70) (by decide +kernel)) rfl
theorem cX1_9 : Cond.classLink RX1 9 RX0 ∈ lw_gd := lw_in (List.mem_of_getElem? (i := 80) (by decide +kernel)) rfl
theorem cX5_30 : Cond.classLink RX5 30 RX3 ∈ lw_gd := lw_in (List.mem_of_getElem? (i := 206) (by decide +kernel)) rfl
theorem cX3_9 : Cond.classLink RX3 9 RX0 ∈ lw_gd := lw_in (List.mem_of_getElem? (i := 212) (by decide +kernel)) rfl
theorem cL_10 : Cond.classLink RL 10 RX6 ∈ lw_gd := lw_in (List.mem_of_getElem? (i := 651) (by decide +kernel)) rfl
theorem ibX5 : Cond.instantiable RX5 9 ∈ lw_gd := lw_in (List.mem_of_getElem? (i := 55) (by decide +kernel)) rfl
theorem inX5z : Cond.initialized RX5 ∈ lw_gd := lw_in (List.mem_of_getElem? (i := 46) (by decide +kernel)) rfl
theorem ibX4 : Cond.instantiable RX4 14 ∈ lw_gd := lw_in (List.mem_of_getElem? (i := 63) (by decide +kernel)) rfl
theorem inX4z : Cond.initialized RX4 ∈ lw_gd := lw_in (List.mem_of_getElem? (i := 47) (by decide +kernel)) rfl
theorem ibX1 : Cond.instantiable RX1 11 ∈ lw_gd := lw_in (List.mem_of_getElem? (i := 75) (by decide +kernel)) rfl
theorem inX1z : Cond.initialized RX1 ∈ lw_gd := lw_in (List.mem_of_getElem? (i := 48) (by decide +kernel)) rfl
theorem ibX2 : Cond.instantiable RX2 6 ∈ lw_gd := lw_in (List.mem_of_getElem? (i := 126) (by decide +kernel)) rfl
theorem inX2z : Cond.initialized RX2 ∈ lw_gd := lw_in (List.mem_of_getElem? (i := 49) (by decide +kernel)) rfl
theorem ibX3 : Cond.instantiable RX3 9 ∈ lw_gd := lw_in (List.mem_of_getElem? (i := 207) (by decide +kernel)) rfl
theorem inX3z : Cond.initialized RX3 ∈ lw_gd := lw_in (List.mem_of_getElem? (i := 50) (by decide +kernel)) rfl
theorem ibX0 : Cond.instantiable RX0 7 ∈ lw_gd := lw_in (List.mem_of_getElem? (i := 348) (by decide +kernel)) rfl
theorem inX0z : Cond.initialized RX0 ∈ lw_gd := lw_in (List.mem_of_getElem? (i := 52) (by decide +kernel)) rfl
theorem ibX6 : Cond.instantiable RX6 13 ∈ lw_gd := lw_in (List.mem_of_getElem? (i := 652) (by decide +kernel)) rfl
theorem inX6z : Cond.initialized RX6 ∈ lw_gd := lw_in (List.mem_of_getElem? (i := 51) (by decide +kernel)) rfl
theorem ovX0 : ∀ U, Ex U → va_AO RX0 U := fun _ h => h.2.2.2.2.1
theorem ovX1 : ∀ U, Ex U → va_AO RX1 U := fun _ h => h.2.2.2.2.2.1
theorem ovX2 : ∀ U, Ex U → va_AO RX2 U := fun _ h => h.2.2.2.2.2.2.1
theorem ovX4 : ∀ U, Ex U → va_AO RX4 U := fun _ h => h.2.2.2.2.2.2.2
theorem ac_int : Cond.arrayClass (newarray.typeOf .int) ∈ lw_gd := lw_in (List.mem_of_getElem? (i := 125) (by decide +kernel)) rfl
theorem ac_char : Cond.arrayClass (newarray.typeOf .char) ∈ lw_gd := lw_in (List.mem_of_getElem? (i := 245) (by decide +kernel)) rfl
theorem kX5_83 : Cond.constant RX5 83 1000000 ∈ lw_gd := lw_in (List.mem_of_getElem? (i := 444) (by decide +kernel)) rfl
theorem kX6_148 : Cond.constant RX6 148 1000000 ∈ lw_gd := lw_in (List.mem_of_getElem? (i := 791) (by decide +kernel)) rfl
end
section
/-! WHAT A STATE IS: scalars by the place of the field, ways, houses by the place of the field, queues, messages (kind, from, to, grains, arrives; errand) -/
abbrev Mg : Type := (Nat → Int32) × Option Nat
abbrev MS : Type := (Nat → Int32) × (Nat → Int32) × (Nat → Nat → Int32) × (Nat → List Nat) × List Mg
abbrev mZ (m : MS) : Nat → Int32 := m.1
abbrev mW (m : MS) : Nat → Int32 := m.2.1
abbrev mH (m : MS) : Nat → Nat → Int32 := m.2.2.1
abbrev mQ (m : MS) : Nat → List Nat := m.2.2.2.1
abbrev mM (m : MS) : List Mg := m.2.2.2.2
def up1 {α : Type} (f : Nat → α) (k : Nat) (v : α) : Nat → α := fun j => if j = k then v else f j
theorem up1_s {α : Type} {f : Nat → α} {k : Nat} {v : α} : up1 f k v k = v := by simp [up1]
theorem up1_n {α : Type} {f : Nat → α} {k j : Nat} {v : α} (h : j ≠ k) : up1 f k v j = f j := by simp [up1, h]
def sZ (m : MS) (k : Nat) (x : Int32) : MS := (up1 m.1 k x, m.2)
def sW (m : MS) (k : Nat) (x : Int32) : MS := (m.1, up1 m.2.1 k x, m.2.2)
def sH (m : MS) (h f : Nat) (x : Int32) : MS := (m.1, m.2.1, ups m.2.2.1 h f x, m.2.2.2)
def sQ (m : MS) (h : Nat) (q : List Nat) : MS := (m.1, m.2.1, ups m.2.2.1 h 3 (nI q.length), up1 m.2.2.2.1 h q, m.2.2.2.2)
def sM (m : MS) (ms : List Mg) : MS := (m.1, m.2.1, m.2.2.1, m.2.2.2.1, ms)
/-! where it lies: 157 cells from S on -/
def StL (G : GG) (n S : Nat) : Prop := G.1 ≤ S ∧ S + 157 ≤ n ∧ (G.2.1 S).1 = 4 ∧ G.2.1 (S + 1) = (7, 49) ∧ G.2.1 (S + 2) = (10, 6) ∧ G.2.1 (S + 3) = (11, 141) ∧ (∀ h, h < 6 → (G.2.1 (S + 4 + 2 * h)).1 = 1 ∧ G.2.1 (S + 5 + 2 * h) = (9, 80)) ∧ ∀ a, S + 16 ≤ a → a < S + 157 → (G.2.1 a).1 = 2
section STL
variable {G : GG} {n S : Nat}
theorem StL.s (h : StL G n S) : Ok G n S 4 := ⟨h.1, by have := h.2.1; omega, h.2.2.1⟩
theorem StL.w (h : StL G n S) : OkA G n (S + 1) 7 49 := ⟨by have := h.1; omega, by have := h.2.1; omega, h.2.2.2.1⟩
theorem StL.hs (h : StL G n S) : OkA G n (S + 2) 10 6 := ⟨by have := h.1; omega, by have := h.2.1; omega, h.2.2.2.2.1⟩
theorem StL.ms (h : StL G n S) : OkA G n (S + 3) 11 141 := ⟨by have := h.1; omega, by have := h.2.1; omega, h.2.2.2.2.2.1⟩
theorem StL.ho (h : StL G n S) {q : Nat} (hq : q < 6) : Ok G n (S + 4 + 2 * q) 1 := ⟨by have := h.1; omega, by have := h.2.1; omega, (h.2.2.2.2.2.2.1 q hq).1⟩
theorem StL.li (h : StL G n S) {q : Nat} (hq : q < 6) : OkA G n (S + 5 + 2 * q) 9 80 := ⟨by have := h.1; omega, by have := h.2.1; omega, (h.2.2.2.2.2.2.1 q hq).2⟩
theorem StL.me (h : StL G n S) {a : Nat} (h1 : S + 16 ≤ a) (h2 : a < S + 157) : Ok G n a 2 := ⟨by have := h.1; omega, by have := h.2.1; omega, h.2.2.2.2.2.2.2 a h1 h2⟩
theorem StL.mono (h : StL G n S) {n' : Nat} (hn : n ≤ n') : StL G n' S := ⟨h.1, Nat.le_trans h.2.1 hn, h.2.2⟩
end STL
def RepL (S : Nat) (r : RP) : Prop := r S 3 = some (S + 1) ∧ r S 4 = some (S + 2) ∧ r S 5 = some (S + 3) ∧ ∀ h, h < 6 → r (S + 2) h = some (S + 4 + 2 * h) ∧ r (S + 4 + 2 * h) 10 = some (S + 5 + 2 * h)
def RepX (S : Nat) (r : RP) (mx : Nat → Nat) : Prop := (∀ j, j < 141 → r (S + 3) j = some (mx j) ∧ S + 16 ≤ mx j ∧ mx j < S + 157) ∧ ∀ j k, j < 141 → k < 141 → mx j = mx k → j = k
def RepZ (S : Nat) (z : Nat → Int32) (i : IP) : Prop := ∀ k, k < 3 ∨ (7 ≤ k ∧ k < 14) → i S k = z k
def RepW (S : Nat) (w : Nat → Int32) (i : IP) : Prop := ∀ k, k < 49 → i (S + 1) k = w k
def RepH (S : Nat) (H : Nat → Nat → Int32) (i : IP) : Prop := ∀ h, h < 6 → ∀ f, f < 10 → i (S + 4 + 2 * h) f = H h f
def RepQ (S : Nat) (H : Nat → Nat → Int32) (q : Nat → List Nat) (r : RP) : Prop := ∀ h, h < 6 → H h 3 = nI (q h).length ∧ (q h).length ≤ 80 ∧ ∀ c a, (q h)[c]? = some a → r (S + 5 + 2 * h) c = some a
def RepG (S : Nat) (ms : List Mg) (mx : Nat → Nat) (i : IP) (r : RP) : Prop := ms.length ≤ 141 ∧ i S 6 = nI ms.length ∧ ∀ j x, ms[j]? = some x → (∀ f, f < 5 → i (mx j) f = x.1 f) ∧ r (mx j) 5 = x.2
def Rep (S : Nat) (m : MS) (i : IP) (r : RP) : Prop := RepL S r ∧ RepZ S m.1 i ∧ RepW S m.2.1 i ∧ RepH S m.2.2.1 i ∧ RepQ S m.2.2.1 m.2.2.2.1 r ∧ ∃ mx, RepX S r mx ∧ RepG S m.2.2.2.2 mx i r
/-- nothing but the state's own cells has changed -/
def Out (S : Nat) (i : IP) (r : RP) (i' : IP) (r' : RP) : Prop := ∀ a, a < S ∨ S + 157 ≤ a → i' a = i a ∧ r' a = r a
theorem Out.rf {S : Nat} {i : IP} {r : RP} : Out S i r i r := fun _ _ => ⟨rfl, rfl⟩
theorem Out.tr {S : Nat} {i i1 i2 : IP} {r r1 r2 : RP} (h1 : Out S i r i1 r1) (h2 : Out S i1 r1 i2 r2) : Out S i r i2 r2 := fun a ha => ⟨(h2 a ha).1.trans (h1 a ha).1, (h2 a ha).2.trans (h1 a ha).2⟩
theorem Out.pi {S : Nat} {i : IP} {r : RP} {a k : Nat} {x : Int32} (h1 : S ≤ a) (h2 : a < S + 157) : Out S i r (ups i a k x) r := fun q hq => ⟨ups_row (by omega), rfl⟩
theorem Out.pr {S : Nat} {i : IP} {r : RP} {a k : Nat} {x : Option Nat} (h1 : S ≤ a) (h2 : a < S + 157) : Out S i r i (ups r a k x) := fun q hq => ⟨rfl, ups_row (by omega)⟩
theorem Rep.frame {S : Nat} {m : MS} {i i' : IP} {r r' : RP} (h : Rep S m i r) (ho : ∀ a, S ≤ a → a < S + 157 → i' a = i a ∧ r' a = r a) : Rep S m i' r' := by
  obtain ⟨h1, h2, h3, h4, h5, mx, h6, h7⟩ := h
  refine ⟨⟨?_, ?_, ?_, fun q hq => ⟨?_, ?_⟩⟩, fun k hk => ?_, fun k hk => ?_, fun q hq f hf => ?_, fun q hq => ⟨(h5 q hq).1, (h5 q hq).2.1, fun c a hc => ?_⟩, mx, ⟨fun j hj => ⟨?_, (h6.1 j hj).2⟩, h6.2⟩, h7.1, ?_, fun j x hx => ?_⟩
  · rw [(ho S (by omega) (by omega)).2]; exact h1.1
  · rw [(ho S (by omega) (by omega)).2]; exact h1.2.1
  · rw [(ho S (by omega) (by omega)).2]; exact h1.2.2.1
  · rw [(ho _ (by omega) (by omega)).2]; exact (h1.2.2.2 q hq).1
  · rw [(ho _ (by omega) (by omega)).2]; exact (h1.2.2.2 q hq).2
  · rw [(ho S (by omega) (by omega)).1]; exact h2 k hk
  · rw [(ho _ (by omega) (by omega)).1]; exact h3 k hk
  · rw [(ho _ (by omega) (by omega)).1]; exact h4 q hq f hf
  · rw [(ho _ (by omega) (by omega)).2]; exact (h5 q hq).2.2 c a hc
  · rw [(ho _ (by omega) (by omega)).2]; exact (h6.1 j hj).1
  · rw [(ho S (by omega) (by omega)).1]; exact h7.2.1
  · have hj : j < 141 := by
      have := (List.getElem?_eq_some_iff.mp hx).1
      have := h7.1
      omega
    obtain ⟨-, g1, g2⟩ := h6.1 j hj
    rw [(ho _ (by omega) (by omega)).1, (ho _ (by omega) (by omega)).2]
    exact h7.2.2 j x hx
/-- one cell of the state's ints is written -/
theorem Rep.putZ {S : Nat} {m : MS} {i : IP} {r : RP} (h : Rep S m i r) {k : Nat} (x : Int32) (hk : k < 3 ∨ (7 ≤ k ∧ k < 14)) : Rep S (sZ m k x) (ups i S k x) r := by
  obtain ⟨h1, h2, h3, h4, h5, mx, h6, h7⟩ := h
  refine ⟨h1, fun q hq => ?_, fun q hq => ?_, fun q hq f hf => ?_, h5, mx, h6, h7.1, ?_, fun j y hy => ?_⟩
  · by_cases e : q = k
    · subst e; rw [ups_s]; exact up1_s.symm
    · rw [ups_k e]; exact (h2 q hq).trans (up1_n e).symm
  · rw [ups_a (by omega)]; exact h3 q hq
  · rw [ups_a (by omega)]; exact h4 q hq f hf
  · rw [ups_k (by omega)]; exact h7.2.1
  · have hj : j < 141 := by
      have hy : m.2.2.2.2[j]? = some y := hy
      have := (List.getElem?_eq_some_iff.mp hy).1
      have := h7.1
      omega
    obtain ⟨-, g1, g2⟩ := h6.1 j hj
    exact ⟨fun f hf => by rw [ups_a (by omega)]; exact (h7.2.2 j y hy).1 f hf, (h7.2.2 j y hy).2⟩
theorem Rep.putW {S : Nat} {m : MS} {i : IP} {r : RP} (h : Rep S m i r) {k : Nat} (x : Int32) : Rep S (sW m k x) (ups i (S + 1) k x) r := by
  obtain ⟨h1, h2, h3, h4, h5, mx, h6, h7⟩ := h
  refine ⟨h1, fun q hq => ?_, fun q hq => ?_, fun q hq f hf => ?_, h5, mx, h6, h7.1, ?_, fun j y hy => ?_⟩
  · rw [ups_a (by omega)]; exact h2 q hq
  · by_cases e : q = k
    · subst e; rw [ups_s]; exact up1_s.symm
    · rw [ups_k e]; exact (h3 q hq).trans (up1_n e).symm
  · rw [ups_a (by omega)]; exact h4 q hq f hf
  · rw [ups_a (by omega)]; exact h7.2.1
  · have hj : j < 141 := by
      have hy : m.2.2.2.2[j]? = some y := hy
      have := (List.getElem?_eq_some_iff.mp hy).1
      have := h7.1
      omega
    obtain ⟨-, g1, g2⟩ := h6.1 j hj
    exact ⟨fun f hf => by rw [ups_a (by omega)]; exact (h7.2.2 j y hy).1 f hf, (h7.2.2 j y hy).2⟩
theorem Rep.putH {S : Nat} {m : MS} {i : IP} {r : RP} (h : Rep S m i r) {q k : Nat} (x : Int32) (hq : q < 6) (hk : k ≠ 3) : Rep S (sH m q k x) (ups i (S + 4 + 2 * q) k x) r := by
  obtain ⟨h1, h2, h3, h4, h5, mx, h6, h7⟩ := h
  refine ⟨h1, fun c hc => ?_, fun c hc => ?_, fun c hc f hf => ?_, fun c hc => ⟨?_, (h5 c hc).2⟩, mx, h6, h7.1, ?_, fun j y hy => ?_⟩
  · rw [ups_a (by omega)]; exact h2 c hc
  · rw [ups_a (by omega)]; exact h3 c hc
  · by_cases e : c = q
    · subst e
      by_cases e2 : f = k
      · subst e2; rw [ups_s]; exact ups_s.symm
      · rw [ups_k e2]; exact (h4 c hc f hf).trans (ups_k e2).symm
    · rw [ups_a (by omega)]; exact (h4 c hc f hf).trans (ups_a e).symm
  · exact (ups_k (by omega)).trans (h5 c hc).1
  · rw [ups_a (by omega)]; exact h7.2.1
  · have hj : j < 141 := by
      have hy : m.2.2.2.2[j]? = some y := hy
      have := (List.getElem?_eq_some_iff.mp hy).1
      have := h7.1
      omega
    obtain ⟨-, g1, g2⟩ := h6.1 j hj
    exact ⟨fun f hf => by rw [ups_a (by omega)]; exact (h7.2.2 j y hy).1 f hf, (h7.2.2 j y hy).2⟩
/-- an answer with an unchanged heap -/
def Ret (v0 : Option Value) (n0 : Nat) (i0 : IP) (r0 : RP) : QP := fun v n i r => v = v0 ∧ n = n0 ∧ i = i0 ∧ r = r0
theorem ret_ok {v : Option Value} {n : Nat} {i : IP} {r : RP} : Ret v n i r v n i r := ⟨rfl, rfl, rfl, rfl⟩
def RetI (x : Int32) (n0 : Nat) (i0 : IP) (r0 : RP) : QP := Ret (some (.int x)) n0 i0 r0
def b2i (b : Bool) : Int32 := if b = true then 1 else 0
/-- a change of one state's cells, no answer -/
def Chg (n0 S : Nat) (i0 : IP) (r0 : RP) (m : MS) : QP := fun v n i r => v = none ∧ n = n0 ∧ Rep S m i r ∧ Out S i0 r0 i r
def ChgI (x : Int32) (n0 S : Nat) (i0 : IP) (r0 : RP) (m : MS) : QP := fun v n i r => v = some (.int x) ∧ n = n0 ∧ Rep S m i r ∧ Out S i0 r0 i r
theorem go_lo {l : Launch} {G : GG} {Y : AM} {D k j pc : Nat} {lo lo' : List (Option Value)} {st : List Value} {n : Nat} {i : IP} {r : RP} {Q : QP} (h : lo = lo') (K : Go l G Y D k j pc lo' st n i r Q) : Go l G Y D k j pc lo st n i r Q := by subst h; exact K
theorem go_st {l : Launch} {G : GG} {Y : AM} {D k j pc : Nat} {lo : List (Option Value)} {st st' : List Value} {n : Nat} {i : IP} {r : RP} {Q : QP} (h : st = st') (K : Go l G Y D k j pc lo st' n i r Q) : Go l G Y D k j pc lo st n i r Q := by subst h; exact K
theorem ret_elim {P : Option Value → Nat → IP → RP → Prop} {v0 : Option Value} {n0 : Nat} {i0 : IP} {r0 : RP} (K : P v0 n0 i0 r0) : ∀ v n i r, Ret v0 n0 i0 r0 v n i r → P v n i r := by
  rintro v n i r ⟨h1, h2, h3, h4⟩
  rw [h1, h2, h3, h4]
  exact K
theorem chg_elim {P : Option Value → Nat → IP → RP → Prop} {n0 S : Nat} {i0 : IP} {r0 : RP} {m : MS} (K : ∀ i r, Rep S m i r → Out S i0 r0 i r → P none n0 i r) : ∀ v n i r, Chg n0 S i0 r0 m v n i r → P v n i r := by
  rintro v n i r ⟨h1, h2, h3, h4⟩
  rw [h1, h2]
  exact K i r h3 h4
theorem chgI_elim {P : Option Value → Nat → IP → RP → Prop} {x : Int32} {n0 S : Nat} {i0 : IP} {r0 : RP} {m : MS} (K : ∀ i r, Rep S m i r → Out S i0 r0 i r → P (some (.int x)) n0 i r) : ∀ v n i r, ChgI x n0 S i0 r0 m v n i r → P v n i r := by
  rintro v n i r ⟨h1, h2, h3, h4⟩
  rw [h1, h2]
  exact K i r h3 h4
end
section
/-! WHAT THE CALLS DO to a state. E: errands by their numbers: house, work, how many within, parts -/
abbrev EE : Type := (Nat → Nat) × (Nat → Int32) × (Nat → Nat) × (Nat → List Nat)
def mg (k f t g a : Int32) : Nat → Int32 := fun q => match q with
  | 0 => k
  | 1 => f
  | 2 => t
  | 3 => g
  | _ => a
def lA (ms : List Mg) (c : Nat) : Int32 := match ms[c]? with
  | some x => x.1 4
  | none => 0
def insPos (A : Nat → Int32) (y : Int32) : Nat → Nat
  | 0 => 0
  | c + 1 => if A c ≤ y then c + 1 else insPos A y c
def ins (x : Mg) (ms : List Mg) : List Mg := ms.take (insPos (lA ms) (x.1 4) ms.length) ++ x :: ms.drop (insPos (lA ms) (x.1 4) ms.length)
def coin (m : MS) : Int32 := (1 : Int32) <<< (m.1 1 &&& 31)
def mMint (m : MS) : MS := sZ (sZ m 7 (m.1 7 + coin m)) 11 (m.1 11 + 1)
def mPost (m : MS) (k : Int32) (f t : Nat) (g : Int32) (e : Option Nat) : MS := sM m (ins (mg k (nI f) (nI t) g (m.1 0 + m.2.1 (f * 7 + t)), e) m.2.2.2.2)
def mSendF (E : EE) (h : Nat) (m : MS) : MS := match m.2.2.2.1 h with
  | [] => m
  | a :: q => mPost (sQ (sH (sH m h 1 (m.2.2.1 h 1 - m.2.2.1 h 1 / 2)) h 7 (m.2.2.1 h 7 + 1)) h q) 0 h (E.1 a) (m.2.2.1 h 1 / 2) (some a)
def mSendL (E : EE) (h : Nat) : Nat → MS → MS
  | 0, m => m
  | c + 1, m => if 2 * m.1 2 ≤ m.2.2.1 h 1 then mSendL E h c (mSendF E h m) else m
def mAsk (h : Nat) (m : MS) : MS := if 0 < m.2.2.1 h 3 ∧ m.2.2.1 h 4 = 0 then mPost (sH (sH m h 4 1) h 8 (m.2.2.1 h 8 + 1)) 1 h 6 0 none else m
def mSend (E : EE) (h : Nat) (m : MS) : MS := mAsk h (mSendL E h (m.2.2.2.1 h).length m)
def mTake (E : EE) (h a : Nat) (m : MS) : MS := sQ (sH (sH (sH m h 0 1) h 6 (m.2.2.1 h 6 + 1)) h 2 (m.2.2.1 h 2 + E.2.1 a)) h (m.2.2.2.1 h ++ E.2.2.2 a)
def mArr (E : EE) (x : Mg) (m : MS) : MS :=
  if x.1 0 = 3 then sZ m 8 (m.1 8 + x.1 3)
  else if x.1 0 = 1 then mPost (mMint m) 2 6 (x.1 1).toNatClampNeg (coin m) none
  else if x.1 0 = 2 then mSend E (x.1 2).toNatClampNeg (sH (sH m (x.1 2).toNatClampNeg 1 (m.2.2.1 (x.1 2).toNatClampNeg 1 + x.1 3)) (x.1 2).toNatClampNeg 4 0)
  else match x.2 with
    | some a => mSend E (x.1 2).toNatClampNeg (mTake E (x.1 2).toNatClampNeg a (sH m (x.1 2).toNatClampNeg 1 (m.2.2.1 (x.1 2).toNatClampNeg 1 + x.1 3)))
    | none => mSend E (x.1 2).toNatClampNeg (sH m (x.1 2).toNatClampNeg 1 (m.2.2.1 (x.1 2).toNatClampNeg 1 + x.1 3))
def mOut (rank : Nat) (m : MS) : MS := sM m (m.2.2.2.2.eraseIdx rank)
def mStep (E : EE) (m : MS) : MS := match m.2.2.2.2 with
  | [] => m
  | x :: _ => mOut 0 (mArr E x m)
def mSteps (E : EE) : Nat → MS → MS
  | 0, m => m
  | c + 1, m => mSteps E c (mStep E m)
def mWork (h : Nat) (m0 : MS) : MS :=
  let m := if 0 < m0.2.2.1 h 2 then sH m0 h 2 (m0.2.2.1 h 2 - 1) else m0
  if 0 < m.2.2.1 h 2 ∨ 0 < m.2.2.1 h 3 ∨ ¬ m.2.2.1 h 4 = 0 then m
  else let m2 := sH (sH m h 0 0) h 9 (m.2.2.1 h 9 + 1)
    if 0 < m2.2.2.1 h 1 then sH (mPost m2 3 h 6 (m2.2.2.1 h 1) none) h 1 0 else m2
def mWorkB (h : Nat) (m : MS) : MS := if m.2.2.1 h 0 = 0 then m else mWork h m
def cntA (t : Int32) (ms : List Mg) : Nat := (ms.takeWhile (fun x => decide (x.1 4 ≤ t))).length
def mArrive (E : EE) (m : MS) : MS := mSteps E (cntA (m.1 0) m.2.2.2.2) m
def mWorks (m : MS) : MS := mWorkB 5 (mWorkB 4 (mWorkB 3 (mWorkB 2 (mWorkB 1 (mWorkB 0 m)))))
def mTick (E : EE) (m : MS) : MS := mWorks (mArrive E (sZ m 0 (m.1 0 + 1)))
def mTicks (E : EE) : Nat → MS → MS
  | 0, m => m
  | c + 1, m => mTicks E c (mTick E m)
def mDrop (rank : Nat) (x : Mg) (m : MS) : MS :=
  let m1 := if x.1 0 = 1 then sH m (x.1 1).toNatClampNeg 5 1 else m
  let m2 := if x.1 0 = 2 then sH m1 (x.1 2).toNatClampNeg 5 1 else m1
  mOut rank (sZ (sZ (sZ m2 9 (m2.1 9 + x.1 3)) 12 (m2.1 12 + 1)) 13 1)
def mGoodH (E : EE) (h : Nat) (m : MS) : MS := if m.2.2.1 h 5 = 0 then m else mSend E h (sH (sH m h 5 0) h 4 0)
def mGood (E : EE) (m : MS) : MS := mGoodH E 5 (mGoodH E 4 (mGoodH E 3 (mGoodH E 2 (mGoodH E 1 (mGoodH E 0 (sZ (sZ (sZ m 8 (m.1 8 + m.1 9)) 9 0) 13 0))))))
def mLaunch (E : EE) : List Nat → MS → MS
  | [], m => m
  | a :: q, m => mLaunch E q (mPost (mMint (sZ m 10 (m.1 10 + 1))) 0 6 (E.1 a) (coin m) (some a))
def mIdleM (ms : List Mg) : Bool := ms.all (fun x => decide (x.1 0 = 3))
def cntB (H : Nat → Nat → Int32) : Nat → Int32
  | 0 => 0
  | c + 1 => if H c 0 = 0 then cntB H c else cntB H c + 1
def sumH (H : Nat → Nat → Int32) (f : Nat) : Nat → Int32
  | 0 => 0
  | c + 1 => sumH H f c + H c f
def mQuiet (m : MS) : Bool := decide (m.1 7 = m.1 8)
def mIdle (m : MS) : Bool := decide (cntB m.2.2.1 6 = 0) && mIdleM m.2.2.2.2
def sumG : List Mg → Int32
  | [] => 0
  | x :: l => x.1 3 + sumG l
/-- what lies behind an errand's number: E as the heap has it; from F on -/
def Kid (r : RP) : Option Nat → List Nat → Prop
  | o, [] => o = none
  | o, b :: q => o = some b ∧ Kid r (r b 6) q
def RepE (G : GG) (n : Nat) (E : EE) (Gd : Nat → Prop) (i : IP) (r : RP) : Prop :=
  ∀ a, Gd a → Ok G n a 0 ∧ E.1 a < 6 ∧ i a 0 = nI (E.1 a) ∧ i a 1 = E.2.1 a ∧ i a 2 = nI (E.2.2.2 a).length ∧ i a 3 = nI (E.2.2.1 a) ∧ Kid r (r a 4) (E.2.2.2 a) ∧ (∀ b ∈ E.2.2.2 a, Gd b ∧ a < b) ∧ (E.2.2.2 a).length ≤ 15 ∧ E.2.2.1 a = 1 + ((E.2.2.2 a).map E.2.2.1).sum ∧ E.2.2.1 a ≤ 15
end
section
theorem go_tabS {l : Launch} {G : GG} {Y : AM} {D k j pc z : Nat} {lo : List (Option Value)} {st : List Value} {n : Nat} {i : IP} {r : RP} {Q : QP} {df a b : Int} {os : Array Int} {len : Nat} {x : Int32} (hd : decode Y.2.1 pc = .ok (.tableswitch df a b os, len)) (ht : (pc : Int) + df = (z : Int)) (K1 : x.toInt < a ∨ b < x.toInt → Go l G Y D k j z lo st n i r Q) (K2 : ∀ q : Int, x.toInt = q → a ≤ q → q ≤ b → Go l G Y D k j pc lo (.int x :: st) n i r Q) : Go l G Y D k j pc lo (.int x :: st) n i r Q := by
  by_cases h : x.toInt < a ∨ b < x.toInt
  · exact go_tabOut hd h ht (K1 h)
  · exact K2 _ rfl (by omega) (by omega)
theorem i32_le {x y : Int32} : x ≤ y ↔ x.toInt ≤ y.toInt := Int32.le_iff_toInt_le
theorem i32_lt {x y : Int32} : x < y ↔ x.toInt < y.toInt := Int32.lt_iff_toInt_lt
theorem i32_of {x : Int32} {q : Int} (h : x.toInt = q) : x = Int32.ofInt q := by rw [← h]; exact (Int32.ofInt_toInt x).symm
section LEAF
variable {l : Launch} {G : GG} {n : Nat} {i : IP} {r : RP}
theorem c_isHouse (x : Int32) : Go l G mX5_isHouse 0 0 0 0 (lentry [.int x] 1) [] n i r (RetI (b2i (decide (0 ≤ x) && decide (x < 6))) n i r) := by
  refine go_iload_n (z := 1) dX5_isHouse_0 rfl rfl ?_
  refine go_if_lt (z := 14) (z2 := 4) dX5_isHouse_1 rfl (by decide) (fun h1 => ?_) (fun h1 => ?_)
  · refine go_iconst (z := 15) (v := 0) dX5_isHouse_14 rfl (by decide) ?_
    refine go_zret dX5_isHouse_15 rfl (congrArg Value.int (by decide)) ?_
    first | (simp_all [RetI, Ret, b2i]; done) | (simp_all [RetI, Ret, b2i]; intro q; exact absurd q (Int32.not_le.mpr (by assumption)))
  · refine go_iload_n (z := 5) dX5_isHouse_4 rfl rfl ?_
    refine go_bipush (z := 7) (v := 6) dX5_isHouse_5 rfl (by decide) ?_
    refine go_icmp_ge (z := 14) (z2 := 10) dX5_isHouse_7 rfl (by decide) (fun h7 => ?_) (fun h7 => ?_)
    · refine go_iconst (z := 15) (v := 0) dX5_isHouse_14 rfl (by decide) ?_
      refine go_zret dX5_isHouse_15 rfl (congrArg Value.int (by decide)) ?_
      first | (simp_all [RetI, Ret, b2i]; done) | (simp_all [RetI, Ret, b2i]; intro q; exact absurd q (Int32.not_le.mpr (by assumption)))
    · refine go_iconst (z := 11) (v := 1) dX5_isHouse_10 rfl (by decide) ?_
      refine go_goto (z := 15) dX5_isHouse_11 (by decide) ?_
      refine go_zret dX5_isHouse_15 rfl (congrArg Value.int (by decide)) ?_
      first | (simp_all [RetI, Ret, b2i]; done) | (simp_all [RetI, Ret, b2i]; intro q; exact absurd q (Int32.not_le.mpr (by assumption)))
theorem c_isWay (x : Int32) : Go l G mX5_isWay 0 0 0 0 (lentry [.int x] 1) [] n i r (RetI (b2i (decide (1 ≤ x) && decide (x ≤ 9))) n i r) := by
  refine go_iload_n (z := 1) dX5_isWay_0 rfl rfl ?_
  refine go_iconst (z := 2) (v := 1) dX5_isWay_1 rfl (by decide) ?_
  refine go_icmp_lt (z := 15) (z2 := 5) dX5_isWay_2 rfl (by decide) (fun h2 => ?_) (fun h2 => ?_)
  · refine go_iconst (z := 16) (v := 0) dX5_isWay_15 rfl (by decide) ?_
    refine go_zret dX5_isWay_16 rfl (congrArg Value.int (by decide)) ?_
    first | (simp_all [RetI, Ret, b2i]; done) | (simp_all [RetI, Ret, b2i]; intro q; exact absurd q (Int32.not_le.mpr (by assumption)))
  · refine go_iload_n (z := 6) dX5_isWay_5 rfl rfl ?_
    refine go_bipush (z := 8) (v := 9) dX5_isWay_6 rfl (by decide) ?_
    refine go_icmp_gt (z := 15) (z2 := 11) dX5_isWay_8 rfl (by decide) (fun h8 => ?_) (fun h8 => ?_)
    · refine go_iconst (z := 16) (v := 0) dX5_isWay_15 rfl (by decide) ?_
      refine go_zret dX5_isWay_16 rfl (congrArg Value.int (by decide)) ?_
      first | (simp_all [RetI, Ret, b2i]; done) | (simp_all [RetI, Ret, b2i]; intro q; exact absurd q (Int32.not_le.mpr (by assumption)))
    · refine go_iconst (z := 12) (v := 1) dX5_isWay_11 rfl (by decide) ?_
      refine go_goto (z := 16) dX5_isWay_12 (by decide) ?_
      refine go_zret dX5_isWay_16 rfl (congrArg Value.int (by decide)) ?_
      first | (simp_all [RetI, Ret, b2i]; done) | (simp_all [RetI, Ret, b2i]; intro q; exact absurd q (Int32.not_le.mpr (by assumption)))
theorem c_way {S : Nat} {m : MS} (hL : StL G n S) (hR : Rep S m i r) {a b : Nat} (ha : a < 7) (hb : b < 7) : Go l G mX4_way 0 0 0 0 (lentry [.ref S, .int (nI a), .int (nI b)] 3) [] n i r (RetI (m.2.1 (a * 7 + b)) n i r) := by
  refine go_aload_n (z := 1) dX4_way_0 rfl rfl ?_
  refine go_getR (z := 4) dX4_way_1 rfl fX4_18 hL.s rfl hR.1.1 ?_
  refine go_iload_n (z := 5) dX4_way_4 rfl rfl ?_
  refine go_bipush (z := 7) (v := 7) dX4_way_5 rfl (by decide) ?_
  refine go_imul (z := 8) dX4_way_7 rfl ?_
  refine go_iload_n (z := 9) dX4_way_8 rfl rfl ?_
  refine go_iadd (z := 10) dX4_way_9 rfl ?_
  refine go_iald (z := 11) (a * 7 + b) hL.w (by decide) (by rw [← nI_add, ← pk_mul]; rfl) (by omega) dX4_way_10 rfl ?_
  refine go_iret dX4_way_11 rfl ?_
  exact ⟨by rw [hR.2.2.1 _ (by omega)], rfl, rfl, rfl⟩
theorem c_putWay {S : Nat} {m : MS} (hL : StL G n S) (hR : Rep S m i r) {a b : Nat} {x : Int32} (ha : a < 7) (hb : b < 7) : Go l G mX4_putWay 0 0 0 0 (lentry [.ref S, .int (nI a), .int (nI b), .int x] 4) [] n i r (Chg n S i r (sW (sW m (a * 7 + b) x) (b * 7 + a) x)) := by
  refine go_aload_n (z := 1) dX4_putWay_0 rfl rfl ?_
  refine go_getR (z := 4) dX4_putWay_1 rfl fX4_18 hL.s rfl hR.1.1 ?_
  refine go_iload_n (z := 5) dX4_putWay_4 rfl rfl ?_
  refine go_bipush (z := 7) (v := 7) dX4_putWay_5 rfl (by decide) ?_
  refine go_imul (z := 8) dX4_putWay_7 rfl ?_
  refine go_iload_n (z := 9) dX4_putWay_8 rfl rfl ?_
  refine go_iadd (z := 10) dX4_putWay_9 rfl ?_
  refine go_iload_n (z := 11) dX4_putWay_10 rfl rfl ?_
  refine go_iast (z := 12) (a * 7 + b) hL.w (by decide) (by rw [← nI_add, ← pk_mul]; rfl) (by omega) dX4_putWay_11 rfl ?_
  refine go_aload_n (z := 13) dX4_putWay_12 rfl rfl ?_
  refine go_getR (z := 16) dX4_putWay_13 rfl fX4_18 hL.s rfl hR.1.1 ?_
  refine go_iload_n (z := 17) dX4_putWay_16 rfl rfl ?_
  refine go_bipush (z := 19) (v := 7) dX4_putWay_17 rfl (by decide) ?_
  refine go_imul (z := 20) dX4_putWay_19 rfl ?_
  refine go_iload_n (z := 21) dX4_putWay_20 rfl rfl ?_
  refine go_iadd (z := 22) dX4_putWay_21 rfl ?_
  refine go_iload_n (z := 23) dX4_putWay_22 rfl rfl ?_
  refine go_iast (z := 24) (b * 7 + a) hL.w (by decide) (by rw [← nI_add, ← pk_mul]; rfl) (by omega) dX4_putWay_23 rfl ?_
  exact go_vret dX4_putWay_24 rfl ⟨rfl, rfl, (hR.putW _).putW _, (Out.pi (by omega) (by omega)).tr (Out.pi (by omega) (by omega))⟩
/-! Errand -/
theorem c_Errand_init {a : Nat} {x : Int32} (ha : Ok G n a 0) : Go l G mX0_init 1 0 0 0 (lentry [.ref a, .int x] 2) [] n i r (fun v n' i' r' => v = none ∧ n' = n ∧ i' = ups (ups i a 3 1) a 0 x ∧ r' = r) := by
  refine go_aload_n (z := 1) dX0_init_0 rfl rfl ?_
  refine go_objinit (z := 4) dX0_init_1 rfl oX0_3 (by decide) (by decide) ?_
  refine go_aload_n (z := 5) dX0_init_4 rfl rfl ?_
  refine go_iconst (z := 6) (v := 1) dX0_init_5 rfl (by decide) ?_
  refine go_putI (z := 9) dX0_init_6 rfl fX0_9 (by assumption) rfl (Or.inl rfl) rfl ?_
  refine go_aload_n (z := 10) dX0_init_9 rfl rfl ?_
  refine go_iload_n (z := 11) dX0_init_10 rfl rfl ?_
  refine go_putI (z := 14) dX0_init_11 rfl fX0_15 (by assumption) rfl (Or.inr ⟨rfl, rfl⟩) rfl ?_
  refine go_vret dX0_init_14 rfl ?_
  exact ⟨rfl, rfl, rfl, rfl⟩
def tell4 (a b c d x : Int32) : Int32 := if x.toInt = 0 then a else if x.toInt = 1 then b else if x.toInt = 2 then c else if x.toInt = 3 then d else -2
theorem c_Errand_tell {a : Nat} {x : Int32} (ha : Ok G n a 0) : Go l G mX0_tell 0 0 0 0 (lentry [.ref a, .int x] 2) [] n i r (RetI (tell4 (i a 0) (i a 1) (i a 2) (i a 3) x) n i r) := by
  refine go_iload_n (z := 1) dX0_tell_0 rfl rfl ?_
  refine go_tabS (z := 52) dX0_tell_1 (by decide) (fun h1 => ?_) (fun q1 h1 ha1 hb1 => ?_)
  · refine go_bipush (z := 54) (v := (-2)) dX0_tell_52 rfl (by decide) ?_
    refine go_iret dX0_tell_54 rfl ?_
    exact ⟨by unfold tell4; (repeat' split) <;> first | omega | rfl, rfl, rfl, rfl⟩
  · rcases (show q1 = 0 ∨ q1 = 1 ∨ q1 = 2 ∨ q1 = 3 by omega) with rfl | rfl | rfl | rfl
    · refine go_tabIn (z := 32) 0 dX0_tell_1 h1 (by decide) (by decide) rfl (by decide) ?_
      refine go_aload_n (z := 33) dX0_tell_32 rfl rfl ?_
      refine go_getI (z := 36) dX0_tell_33 rfl fX0_15 (by assumption) rfl ?_
      refine go_iret dX0_tell_36 rfl ?_
      exact ⟨by unfold tell4; (repeat' split) <;> first | omega | rfl, rfl, rfl, rfl⟩
    · refine go_tabIn (z := 37) 1 dX0_tell_1 h1 (by decide) (by decide) rfl (by decide) ?_
      refine go_aload_n (z := 38) dX0_tell_37 rfl rfl ?_
      refine go_getI (z := 41) dX0_tell_38 rfl fX0_31 (by assumption) rfl ?_
      refine go_iret dX0_tell_41 rfl ?_
      exact ⟨by unfold tell4; (repeat' split) <;> first | omega | rfl, rfl, rfl, rfl⟩
    · refine go_tabIn (z := 42) 2 dX0_tell_1 h1 (by decide) (by decide) rfl (by decide) ?_
      refine go_aload_n (z := 43) dX0_tell_42 rfl rfl ?_
      refine go_getI (z := 46) dX0_tell_43 rfl fX0_28 (by assumption) rfl ?_
      refine go_iret dX0_tell_46 rfl ?_
      exact ⟨by unfold tell4; (repeat' split) <;> first | omega | rfl, rfl, rfl, rfl⟩
    · refine go_tabIn (z := 47) 3 dX0_tell_1 h1 (by decide) (by decide) rfl (by decide) ?_
      refine go_aload_n (z := 48) dX0_tell_47 rfl rfl ?_
      refine go_getI (z := 51) dX0_tell_48 rfl fX0_9 (by assumption) rfl ?_
      refine go_iret dX0_tell_51 rfl ?_
      exact ⟨by unfold tell4; (repeat' split) <;> first | omega | rfl, rfl, rfl, rfl⟩
/-! Message -/
def eAll (E : EE) : Option Nat → Int32
  | none => 0
  | some b => nI (E.2.2.1 b)
def eWork (E : EE) : Option Nat → Int32
  | none => 0
  | some b => E.2.1 b
theorem nS_of {t : Nat × Nat} {q : Nat} (h : t.1 = q) (hq : q < 7) : nS t = (cT q).2.2 := by subst h; simp [nS, hq]
theorem go_nar {l : Launch} {G : GG} {Y : AM} {D k j pc : Nat} {lo : List (Option Value)} {st : List Value} {n : Nat} {i : IP} {r : RP} {Q : QP} {a t : Nat} (f : Nat) (ha : Ok G n a t) (ht : t < 7 ∧ f < (cT t).2.2) (hr : isR (fT t f) = false) (K : narrow (fT t f) (.int (i a f)) = .int (i a f) → Go l G Y D k j pc lo st n i r Q) : Go l G Y D k j pc lo st n i r Q :=
  go_narrow ha (by rw [nS_of ha.2.2 ht.1]; exact ht.2) hr K
theorem c_Message_init {a : Nat} : Go l G mX2_init 1 0 0 0 (lentry [.ref a] 1) [] n i r (fun v n' i' r' => v = none ∧ n' = n ∧ i' = i ∧ r' = r) := by
  refine go_aload_n (z := 1) dX2_init_0 rfl rfl ?_
  refine go_objinit (z := 4) dX2_init_1 rfl oX2_3 (by decide) (by decide) ?_
  refine go_vret dX2_init_4 rfl ?_
  exact ⟨rfl, rfl, rfl, rfl⟩
theorem c_Message_copyFrom {a b : Nat} (ha : Ok G n a 2) (hb : Ok G n b 2) (hab : a ≠ b) : Go l G mX2_copyFrom 0 0 0 0 (lentry [.ref a, .ref b] 2) [] n i r (fun v n' i' r' => v = none ∧ n' = n ∧ (∀ q, q ≠ a → i' q = i q ∧ r' q = r q) ∧ (∀ f, f < 5 → i' a f = i b f) ∧ r' a 5 = r b 5) := by
  have hba : b ≠ a := Ne.symm hab
  refine go_aload_n (z := 1) dX2_copyFrom_0 rfl rfl ?_
  refine go_aload_n (z := 2) dX2_copyFrom_1 rfl rfl ?_
  refine go_getI (z := 5) dX2_copyFrom_2 rfl fX2_9 (by assumption) rfl ?_
  refine go_putI (z := 8) dX2_copyFrom_5 rfl fX2_9 (by assumption) rfl (Or.inl rfl) rfl ?_
  refine go_aload_n (z := 9) dX2_copyFrom_8 rfl rfl ?_
  refine go_aload_n (z := 10) dX2_copyFrom_9 rfl rfl ?_
  refine go_getI (z := 13) dX2_copyFrom_10 rfl fX2_15 (by assumption) rfl ?_
  refine go_putI (z := 16) dX2_copyFrom_13 rfl fX2_15 (by assumption) rfl (Or.inl rfl) rfl ?_
  refine go_aload_n (z := 17) dX2_copyFrom_16 rfl rfl ?_
  refine go_aload_n (z := 18) dX2_copyFrom_17 rfl rfl ?_
  refine go_getI (z := 21) dX2_copyFrom_18 rfl fX2_18 (by assumption) rfl ?_
  refine go_putI (z := 24) dX2_copyFrom_21 rfl fX2_18 (by assumption) rfl (Or.inl rfl) rfl ?_
  refine go_aload_n (z := 25) dX2_copyFrom_24 rfl rfl ?_
  refine go_aload_n (z := 26) dX2_copyFrom_25 rfl rfl ?_
  refine go_getI (z := 29) dX2_copyFrom_26 rfl fX2_21 (by assumption) rfl ?_
  refine go_putI (z := 32) dX2_copyFrom_29 rfl fX2_21 (by assumption) rfl (Or.inl rfl) rfl ?_
  refine go_aload_n (z := 33) dX2_copyFrom_32 rfl rfl ?_
  refine go_aload_n (z := 34) dX2_copyFrom_33 rfl rfl ?_
  refine go_getI (z := 37) dX2_copyFrom_34 rfl fX2_24 (by assumption) rfl ?_
  refine go_putI (z := 40) dX2_copyFrom_37 rfl fX2_24 (by assumption) rfl (Or.inl rfl) rfl ?_
  refine go_aload_n (z := 41) dX2_copyFrom_40 rfl rfl ?_
  refine go_aload_n (z := 42) dX2_copyFrom_41 rfl rfl ?_
  refine go_getO (z := 45) dX2_copyFrom_42 rfl fX2_27 (by assumption) rfl ?_
  refine go_putO (z := 48) dX2_copyFrom_45 rfl fX2_27 (by assumption) rfl (Or.inl rfl) ?_
  refine go_vret dX2_copyFrom_48 rfl ?_
  refine ⟨rfl, rfl, fun q hq => ⟨?_, ups_row hq⟩, fun f hf => ?_, ups_s⟩
  · rw [ups_row hq, ups_row hq, ups_row hq, ups_row hq, ups_row hq]
  · simp only [ups_a hba]
    rcases (show f = 0 ∨ f = 1 ∨ f = 2 ∨ f = 3 ∨ f = 4 by omega) with rfl | rfl | rfl | rfl | rfl <;> simp [ups]
theorem c_Message_errands {a : Nat} {E : EE} {Gd : Nat → Prop} (ha : Ok G n a 2) (hE : RepE G n E Gd i r) {o : Option Nat} (ho : r a 5 = o) (hg : ∀ b, o = some b → Gd b) : Go l G mX2_errands 0 0 0 0 (lentry [.ref a] 1) [] n i r (RetI (eAll E o) n i r) := by
  subst ho
  refine go_aload_n (z := 1) dX2_errands_0 rfl rfl ?_
  refine go_getO (z := 4) dX2_errands_1 rfl fX2_27 (by assumption) rfl ?_
  refine go_ifnonnull (z := 11) (z2 := 7) dX2_errands_4 rfl (by decide) (fun b hb => ?_) (fun h0 => ?_)
  · have hG := hE b (hg b hb)
    have hok := hG.1
    refine go_aload_n (z := 12) dX2_errands_11 rfl rfl ?_
    refine go_getR (z := 15) dX2_errands_12 rfl fX2_27 (by assumption) rfl hb ?_
    refine go_getI (z := 18) dX2_errands_15 rfl fX2_31 (by assumption) rfl ?_
    refine go_iret dX2_errands_18 rfl ?_
    rw [hb]
    exact ⟨by rw [hG.2.2.2.2.2.1]; rfl, rfl, rfl, rfl⟩
  · refine go_iconst (z := 8) (v := 0) dX2_errands_7 rfl (by decide) ?_
    refine go_goto (z := 18) dX2_errands_8 (by decide) ?_
    refine go_iret dX2_errands_18 rfl ?_
    rw [h0]
    exact ⟨rfl, rfl, rfl, rfl⟩
/-! House -/
theorem c_House_isStuck {a : Nat} (ha : Ok G n a 1) : Go l G mX1_isStuck 0 0 0 0 (lentry [.ref a] 1) [] n i r (RetI (if i a 0 = 0 ∨ (i a 2 = 0 ∧ ¬ i a 4 = 0) then 1 else 0) n i r) := by
  refine go_aload_n (z := 1) dX1_isStuck_0 rfl rfl ?_
  refine go_getI (z := 4) dX1_isStuck_1 rfl fX1_17 (by assumption) rfl ?_
  refine go_if_eq (z := 21) (z2 := 7) dX1_isStuck_4 rfl (by decide) (fun h4 => ?_) (fun h4 => ?_)
  · refine go_iconst (z := 22) (v := 1) dX1_isStuck_21 rfl (by decide) ?_
    refine go_goto (z := 26) dX1_isStuck_22 (by decide) ?_
    refine go_zret dX1_isStuck_26 rfl (congrArg Value.int (by decide)) ?_
    exact ⟨by simp_all, rfl, rfl, rfl⟩
  · refine go_aload_n (z := 8) dX1_isStuck_7 rfl rfl ?_
    refine go_getI (z := 11) dX1_isStuck_8 rfl fX1_25 (by assumption) rfl ?_
    refine go_if_ne (z := 25) (z2 := 14) dX1_isStuck_11 rfl (by decide) (fun h11 => ?_) (fun h11 => ?_)
    · refine go_iconst (z := 26) (v := 0) dX1_isStuck_25 rfl (by decide) ?_
      refine go_zret dX1_isStuck_26 rfl (congrArg Value.int (by decide)) ?_
      exact ⟨by simp_all, rfl, rfl, rfl⟩
    · refine go_aload_n (z := 15) dX1_isStuck_14 rfl rfl ?_
      refine go_getI (z := 18) dX1_isStuck_15 rfl fX1_31 (by assumption) rfl ?_
      refine go_if_eq (z := 25) (z2 := 21) dX1_isStuck_18 rfl (by decide) (fun h18 => ?_) (fun h18 => ?_)
      · refine go_iconst (z := 26) (v := 0) dX1_isStuck_25 rfl (by decide) ?_
        refine go_zret dX1_isStuck_26 rfl (congrArg Value.int (by decide)) ?_
        exact ⟨by simp_all, rfl, rfl, rfl⟩
      · refine go_iconst (z := 22) (v := 1) dX1_isStuck_21 rfl (by decide) ?_
        refine go_goto (z := 26) dX1_isStuck_22 (by decide) ?_
        refine go_zret dX1_isStuck_26 rfl (congrArg Value.int (by decide)) ?_
        exact ⟨by simp_all, rfl, rfl, rfl⟩
def tellH (H : Nat → Int32) (x : Int32) : Int32 := if x.toInt = 0 then (if H 0 = 0 then 0 else 1) else if x.toInt = 1 then H 1 else if x.toInt = 2 then H 2 else if x.toInt = 3 then H 3 else if x.toInt = 4 then (if H 4 = 0 then 0 else 1) else if x.toInt = 5 then H 6 else if x.toInt = 6 then H 7 else if x.toInt = 7 then H 8 else if x.toInt = 8 then H 9 else -2
theorem c_House_tell {a : Nat} {x : Int32} (ha : Ok G n a 1) : Go l G mX1_tell 0 0 0 0 (lentry [.ref a, .int x] 2) [] n i r (RetI (tellH (i a) x) n i r) := by
  refine go_iload_n (z := 1) dX1_tell_0 rfl rfl ?_
  refine go_tabS (z := 113) dX1_tell_1 (by decide) (fun h1 => ?_) (fun q1 h1 ha1 hb1 => ?_)
  · refine go_bipush (z := 115) (v := (-2)) dX1_tell_113 rfl (by decide) ?_
    refine go_iret dX1_tell_115 rfl ?_
    exact ⟨by unfold tellH; (repeat' split) <;> first | omega | rfl | (exfalso; simp_all; done), rfl, rfl, rfl⟩
  · rcases (show q1 = 0 ∨ q1 = 1 ∨ q1 = 2 ∨ q1 = 3 ∨ q1 = 4 ∨ q1 = 5 ∨ q1 = 6 ∨ q1 = 7 ∨ q1 = 8 by omega) with rfl | rfl | rfl | rfl | rfl | rfl | rfl | rfl | rfl
    · refine go_tabIn (z := 52) 0 dX1_tell_1 h1 (by decide) (by decide) rfl (by decide) ?_
      refine go_aload_n (z := 53) dX1_tell_52 rfl rfl ?_
      refine go_getI (z := 56) dX1_tell_53 rfl fX1_17 (by assumption) rfl ?_
      refine go_if_eq (z := 63) (z2 := 59) dX1_tell_56 rfl (by decide) (fun h56 => ?_) (fun h56 => ?_)
      · refine go_iconst (z := 64) (v := 0) dX1_tell_63 rfl (by decide) ?_
        refine go_iret dX1_tell_64 rfl ?_
        exact ⟨by unfold tellH; (repeat' split) <;> first | omega | rfl | (exfalso; simp_all; done), rfl, rfl, rfl⟩
      · refine go_iconst (z := 60) (v := 1) dX1_tell_59 rfl (by decide) ?_
        refine go_goto (z := 64) dX1_tell_60 (by decide) ?_
        refine go_iret dX1_tell_64 rfl ?_
        exact ⟨by unfold tellH; (repeat' split) <;> first | omega | rfl | (exfalso; simp_all; done), rfl, rfl, rfl⟩
    · refine go_tabIn (z := 65) 1 dX1_tell_1 h1 (by decide) (by decide) rfl (by decide) ?_
      refine go_aload_n (z := 66) dX1_tell_65 rfl rfl ?_
      refine go_getI (z := 69) dX1_tell_66 rfl fX1_21 (by assumption) rfl ?_
      refine go_iret dX1_tell_69 rfl ?_
      exact ⟨by unfold tellH; (repeat' split) <;> first | omega | rfl | (exfalso; simp_all; done), rfl, rfl, rfl⟩
    · refine go_tabIn (z := 70) 2 dX1_tell_1 h1 (by decide) (by decide) rfl (by decide) ?_
      refine go_aload_n (z := 71) dX1_tell_70 rfl rfl ?_
      refine go_getI (z := 74) dX1_tell_71 rfl fX1_25 (by assumption) rfl ?_
      refine go_iret dX1_tell_74 rfl ?_
      exact ⟨by unfold tellH; (repeat' split) <;> first | omega | rfl | (exfalso; simp_all; done), rfl, rfl, rfl⟩
    · refine go_tabIn (z := 75) 3 dX1_tell_1 h1 (by decide) (by decide) rfl (by decide) ?_
      refine go_aload_n (z := 76) dX1_tell_75 rfl rfl ?_
      refine go_getI (z := 79) dX1_tell_76 rfl fX1_28 (by assumption) rfl ?_
      refine go_iret dX1_tell_79 rfl ?_
      exact ⟨by unfold tellH; (repeat' split) <;> first | omega | rfl | (exfalso; simp_all; done), rfl, rfl, rfl⟩
    · refine go_tabIn (z := 80) 4 dX1_tell_1 h1 (by decide) (by decide) rfl (by decide) ?_
      refine go_aload_n (z := 81) dX1_tell_80 rfl rfl ?_
      refine go_getI (z := 84) dX1_tell_81 rfl fX1_31 (by assumption) rfl ?_
      refine go_if_eq (z := 91) (z2 := 87) dX1_tell_84 rfl (by decide) (fun h84 => ?_) (fun h84 => ?_)
      · refine go_iconst (z := 92) (v := 0) dX1_tell_91 rfl (by decide) ?_
        refine go_iret dX1_tell_92 rfl ?_
        exact ⟨by unfold tellH; (repeat' split) <;> first | omega | rfl | (exfalso; simp_all; done), rfl, rfl, rfl⟩
      · refine go_iconst (z := 88) (v := 1) dX1_tell_87 rfl (by decide) ?_
        refine go_goto (z := 92) dX1_tell_88 (by decide) ?_
        refine go_iret dX1_tell_92 rfl ?_
        exact ⟨by unfold tellH; (repeat' split) <;> first | omega | rfl | (exfalso; simp_all; done), rfl, rfl, rfl⟩
    · refine go_tabIn (z := 93) 5 dX1_tell_1 h1 (by decide) (by decide) rfl (by decide) ?_
      refine go_aload_n (z := 94) dX1_tell_93 rfl rfl ?_
      refine go_getI (z := 97) dX1_tell_94 rfl fX1_37 (by assumption) rfl ?_
      refine go_iret dX1_tell_97 rfl ?_
      exact ⟨by unfold tellH; (repeat' split) <;> first | omega | rfl | (exfalso; simp_all; done), rfl, rfl, rfl⟩
    · refine go_tabIn (z := 98) 6 dX1_tell_1 h1 (by decide) (by decide) rfl (by decide) ?_
      refine go_aload_n (z := 99) dX1_tell_98 rfl rfl ?_
      refine go_getI (z := 102) dX1_tell_99 rfl fX1_40 (by assumption) rfl ?_
      refine go_iret dX1_tell_102 rfl ?_
      exact ⟨by unfold tellH; (repeat' split) <;> first | omega | rfl | (exfalso; simp_all; done), rfl, rfl, rfl⟩
    · refine go_tabIn (z := 103) 7 dX1_tell_1 h1 (by decide) (by decide) rfl (by decide) ?_
      refine go_aload_n (z := 104) dX1_tell_103 rfl rfl ?_
      refine go_getI (z := 107) dX1_tell_104 rfl fX1_43 (by assumption) rfl ?_
      refine go_iret dX1_tell_107 rfl ?_
      exact ⟨by unfold tellH; (repeat' split) <;> first | omega | rfl | (exfalso; simp_all; done), rfl, rfl, rfl⟩
    · refine go_tabIn (z := 108) 8 dX1_tell_1 h1 (by decide) (by decide) rfl (by decide) ?_
      refine go_aload_n (z := 109) dX1_tell_108 rfl rfl ?_
      refine go_getI (z := 112) dX1_tell_109 rfl fX1_46 (by assumption) rfl ?_
      refine go_iret dX1_tell_112 rfl ?_
      exact ⟨by unfold tellH; (repeat' split) <;> first | omega | rfl | (exfalso; simp_all; done), rfl, rfl, rfl⟩
theorem c_House_makeNew {a : Nat} (ha : Ok G n a 1) : Go l G mX1_makeNew 0 0 0 0 (lentry [.ref a] 1) [] n i r (fun v n' i' r' => v = none ∧ n' = n ∧ r' = r ∧ (∀ q, q ≠ a → i' q = i q) ∧ (∀ f, f < 10 → i' a f = 0)) := by
  refine go_aload_n (z := 1) dX1_makeNew_0 rfl rfl ?_
  refine go_iconst (z := 2) (v := 0) dX1_makeNew_1 rfl (by decide) ?_
  refine go_putI (z := 5) dX1_makeNew_2 rfl fX1_17 (by assumption) rfl (Or.inl rfl) (congrArg Value.int (by decide)) ?_
  refine go_aload_n (z := 6) dX1_makeNew_5 rfl rfl ?_
  refine go_iconst (z := 7) (v := 0) dX1_makeNew_6 rfl (by decide) ?_
  refine go_putI (z := 10) dX1_makeNew_7 rfl fX1_21 (by assumption) rfl (Or.inl rfl) rfl ?_
  refine go_aload_n (z := 11) dX1_makeNew_10 rfl rfl ?_
  refine go_iconst (z := 12) (v := 0) dX1_makeNew_11 rfl (by decide) ?_
  refine go_putI (z := 15) dX1_makeNew_12 rfl fX1_25 (by assumption) rfl (Or.inl rfl) rfl ?_
  refine go_aload_n (z := 16) dX1_makeNew_15 rfl rfl ?_
  refine go_iconst (z := 17) (v := 0) dX1_makeNew_16 rfl (by decide) ?_
  refine go_putI (z := 20) dX1_makeNew_17 rfl fX1_28 (by assumption) rfl (Or.inl rfl) rfl ?_
  refine go_aload_n (z := 21) dX1_makeNew_20 rfl rfl ?_
  refine go_iconst (z := 22) (v := 0) dX1_makeNew_21 rfl (by decide) ?_
  refine go_putI (z := 25) dX1_makeNew_22 rfl fX1_31 (by assumption) rfl (Or.inl rfl) (congrArg Value.int (by decide)) ?_
  refine go_aload_n (z := 26) dX1_makeNew_25 rfl rfl ?_
  refine go_iconst (z := 27) (v := 0) dX1_makeNew_26 rfl (by decide) ?_
  refine go_putI (z := 30) dX1_makeNew_27 rfl fX1_34 (by assumption) rfl (Or.inl rfl) (congrArg Value.int (by decide)) ?_
  refine go_aload_n (z := 31) dX1_makeNew_30 rfl rfl ?_
  refine go_iconst (z := 32) (v := 0) dX1_makeNew_31 rfl (by decide) ?_
  refine go_putI (z := 35) dX1_makeNew_32 rfl fX1_37 (by assumption) rfl (Or.inl rfl) rfl ?_
  refine go_aload_n (z := 36) dX1_makeNew_35 rfl rfl ?_
  refine go_iconst (z := 37) (v := 0) dX1_makeNew_36 rfl (by decide) ?_
  refine go_putI (z := 40) dX1_makeNew_37 rfl fX1_40 (by assumption) rfl (Or.inl rfl) rfl ?_
  refine go_aload_n (z := 41) dX1_makeNew_40 rfl rfl ?_
  refine go_iconst (z := 42) (v := 0) dX1_makeNew_41 rfl (by decide) ?_
  refine go_putI (z := 45) dX1_makeNew_42 rfl fX1_43 (by assumption) rfl (Or.inl rfl) rfl ?_
  refine go_aload_n (z := 46) dX1_makeNew_45 rfl rfl ?_
  refine go_iconst (z := 47) (v := 0) dX1_makeNew_46 rfl (by decide) ?_
  refine go_putI (z := 50) dX1_makeNew_47 rfl fX1_46 (by assumption) rfl (Or.inl rfl) rfl ?_
  refine go_vret dX1_makeNew_50 rfl ?_
  refine ⟨rfl, rfl, rfl, fun q hq => ?_, fun f hf => ?_⟩
  · simp only [ups_row hq]
  · rcases (show f = 0 ∨ f = 1 ∨ f = 2 ∨ f = 3 ∨ f = 4 ∨ f = 5 ∨ f = 6 ∨ f = 7 ∨ f = 8 ∨ f = 9 by omega) with rfl | rfl | rfl | rfl | rfl | rfl | rfl | rfl | rfl | rfl <;> simp [ups]
/-- a line of errands: the house, its line -/
theorem c_House_lineUp {a b c : Nat} {e : Nat} (ha : Ok G n a 1) (hb : OkA G n b 9 80) (hl : r a 10 = some b) (hc : i a 3 = nI c) (hc8 : c < 80) (he : Ok G n e 0) : Go l G mX1_lineUp 0 0 0 0 (lentry [.ref a, .ref e] 2) [] n i r (fun v n' i' r' => v = none ∧ n' = n ∧ i' = ups i a 3 (nI (c + 1)) ∧ r' = ups r b c (some e)) := by
  refine go_aload_n (z := 1) dX1_lineUp_0 rfl rfl ?_
  refine go_getI (z := 4) dX1_lineUp_1 rfl fX1_28 (by assumption) rfl ?_
  refine go_aload_n (z := 5) dX1_lineUp_4 rfl rfl ?_
  refine go_getR (z := 8) dX1_lineUp_5 rfl fX1_11 (by assumption) rfl (by assumption) ?_
  refine go_alen (z := 9) (by assumption) (by decide) dX1_lineUp_8 rfl ?_
  refine go_icmp_ge (z := 32) (z2 := 12) dX1_lineUp_9 rfl (by decide) (fun h => ?_) (fun h => ?_)
  · exact absurd h (by rw [hc]; exact nI_ge hc8 (by omega))
  · refine go_aload_n (z := 13) dX1_lineUp_12 rfl rfl ?_
    refine go_getR (z := 16) dX1_lineUp_13 rfl fX1_11 (by assumption) rfl (by assumption) ?_
    refine go_aload_n (z := 17) dX1_lineUp_16 rfl rfl ?_
    refine go_getI (z := 20) dX1_lineUp_17 rfl fX1_28 (by assumption) rfl ?_
    refine go_aload_n (z := 21) dX1_lineUp_20 rfl rfl ?_
    refine go_aastR (z := 22) c (by assumption) ⟨by decide, by decide⟩ (by decide) hc hc8 (by assumption) (by decide) rfl dX1_lineUp_21 rfl ?_
    refine go_aload_n (z := 23) dX1_lineUp_22 rfl rfl ?_
    refine go_dup (z := 24) dX1_lineUp_23 rfl rfl ?_
    refine go_getI (z := 27) dX1_lineUp_24 rfl fX1_28 (by assumption) rfl ?_
    refine go_iconst (z := 28) (v := 1) dX1_lineUp_27 rfl (by decide) ?_
    refine go_iadd (z := 29) dX1_lineUp_28 rfl ?_
    refine go_putI (z := 32) dX1_lineUp_29 rfl fX1_28 (by assumption) rfl (Or.inl rfl) rfl ?_
    exact go_vret dX1_lineUp_32 rfl ⟨rfl, rfl, by rw [hc]; exact congrArg _ (nI_1 c), rfl⟩
theorem c_House_waitingAt {a b c : Nat} {x : Int32} (ha : Ok G n a 1) (hb : OkA G n b 9 80) (hl : r a 10 = some b) (hc : i a 3 = nI c) (hc8 : c ≤ 80) : Go l G mX1_waitingAt 0 0 0 0 (lentry [.ref a, .int x] 2) [] n i r (Ret (some (va_rf (if 0 ≤ x ∧ x < nI c then r b x.toNatClampNeg else none))) n i r) := by
  refine go_iload_n (z := 1) dX1_waitingAt_0 rfl rfl ?_
  refine go_if_lt (z := 30) (z2 := 4) dX1_waitingAt_1 rfl (by decide) (fun h => ?_) (fun h => ?_)
  · refine go_null (z := 31) dX1_waitingAt_30 rfl ?_
    refine go_aret (o := none) dX1_waitingAt_31 rfl ?_
    rw [if_neg (fun q => absurd h (Int32.not_lt.mpr q.1))]
    exact ret_ok
  · refine go_iload_n (z := 5) dX1_waitingAt_4 rfl rfl ?_
    refine go_aload_n (z := 6) dX1_waitingAt_5 rfl rfl ?_
    refine go_getI (z := 9) dX1_waitingAt_6 rfl fX1_28 (by assumption) rfl ?_
    refine go_icmp_ge (z := 30) (z2 := 12) dX1_waitingAt_9 rfl (by decide) (fun h2 => ?_) (fun h2 => ?_)
    · refine go_null (z := 31) dX1_waitingAt_30 rfl ?_
      refine go_aret (o := none) dX1_waitingAt_31 rfl ?_
      rw [hc] at h2
      rw [if_neg (fun q => absurd q.2 (Int32.not_lt.mpr h2))]
      exact ret_ok
    · obtain ⟨q, hq, rfl⟩ := nI_of h
      rw [hc] at h2
      have hqc : q < c := by
        rcases Nat.lt_or_ge q c with w | w
        · exact w
        · exact absurd (nI_le w hq) h2
      refine go_iload_n (z := 13) dX1_waitingAt_12 rfl rfl ?_
      refine go_aload_n (z := 14) dX1_waitingAt_13 rfl rfl ?_
      refine go_getR (z := 17) dX1_waitingAt_14 rfl fX1_11 (by assumption) rfl (by assumption) ?_
      refine go_alen (z := 18) (by assumption) (by decide) dX1_waitingAt_17 rfl ?_
      refine go_icmp_ge (z := 30) (z2 := 21) dX1_waitingAt_18 rfl (by decide) (fun h3 => ?_) (fun h3 => ?_)
      · exact absurd h3 (nI_ge (by omega) (by omega))
      · refine go_aload_n (z := 22) dX1_waitingAt_21 rfl rfl ?_
        refine go_getR (z := 25) dX1_waitingAt_22 rfl fX1_11 (by assumption) rfl (by assumption) ?_
        refine go_iload_n (z := 26) dX1_waitingAt_25 rfl rfl ?_
        refine go_aald (z := 27) _ (by assumption) ⟨by decide, by decide⟩ (by decide) rfl (by omega) rfl dX1_waitingAt_26 rfl ?_
        refine go_goto (z := 31) dX1_waitingAt_27 (by decide) ?_
        refine go_aret dX1_waitingAt_31 rfl ?_
        rw [if_pos ⟨nI_pos' hq, nI_lt hqc (by omega)⟩, nI_clamp hq]
        exact ret_ok
end LEAF
end
section
section HOUSE
variable {l : Launch} {G : GG} {n : Nat} {i : IP} {r : RP}
theorem tag_ne {G : GG} {n a b t q : Nat} (h : Ok G n a t) (h2 : Ok G n b q) (hn : t ≠ q) : a ≠ b := fun e => hn (by rw [← h.2.2, ← h2.2.2, e])
theorem OkA.ok {G : GG} {n a t len : Nat} (h : OkA G n a t len) : Ok G n a t := ⟨h.1, h.2.1, by rw [h.2.2]⟩
theorem c_House_removeFirst {a b c : Nat} (ha : Ok G n a 1) (hb : OkA G n b 9 80) (hl : r a 10 = some b) (hc : i a 3 = nI c) (hc1 : 1 ≤ c) (hc8 : c ≤ 80) (he : ∀ k, k < c → ∃ e, r b k = some e ∧ Ok G n e 0) : Go l G mX1_removeFirst 0 0 0 0 (lentry [.ref a] 2) [] n i r (fun v n' i' r' => v = none ∧ n' = n ∧ i' = ups i a 3 (nI (c - 1)) ∧ (∀ q, q ≠ b → r' q = r q) ∧ ∀ k, k + 1 < c → r' b k = r b (k + 1)) := by
  have hab : a ≠ b := tag_ne ha hb.ok (by decide)
  refine go_iconst (z := 1) (v := 0) dX1_removeFirst_0 rfl (by decide) ?_
  refine go_istore_n (z := 2) dX1_removeFirst_1 rfl (by decide) ?_
  have loop : ∀ d k (r1 : RP), k + 1 + d = c → (∀ q, q ≠ b → r1 q = r q) → (∀ j, j < k → r1 b j = r b (j + 1)) → (∀ j, k ≤ j → r1 b j = r b j) → Go l G mX1_removeFirst 0 0 0 2 [some (.ref a), some (.int (nI k))] [] n i r1 (fun v n' i' r' => v = none ∧ n' = n ∧ i' = ups i a 3 (nI (c - 1)) ∧ (∀ q, q ≠ b → r' q = r q) ∧ ∀ k, k + 1 < c → r' b k = r b (k + 1)) := by
    intro d
    induction d with
    | zero =>
      intro k r1 hk h1 h2 h3
      refine go_iload_n (z := 3) dX1_removeFirst_2 rfl rfl ?_
      refine go_iconst (z := 4) (v := 1) dX1_removeFirst_3 rfl (by decide) ?_
      refine go_iadd (z := 5) dX1_removeFirst_4 rfl ?_
      refine go_aload_n (z := 6) dX1_removeFirst_5 rfl rfl ?_
      refine go_getI (z := 9) dX1_removeFirst_6 rfl fX1_28 (by assumption) rfl ?_
      refine go_icmp_ge (z := 43) (z2 := 12) dX1_removeFirst_9 rfl (by decide) (fun h => ?_) (fun h => ?_)
      · refine go_aload_n (z := 44) dX1_removeFirst_43 rfl rfl ?_
        refine go_dup (z := 45) dX1_removeFirst_44 rfl rfl ?_
        refine go_getI (z := 48) dX1_removeFirst_45 rfl fX1_28 (by assumption) rfl ?_
        refine go_iconst (z := 49) (v := 1) dX1_removeFirst_48 rfl (by decide) ?_
        refine go_isub (z := 50) dX1_removeFirst_49 rfl ?_
        refine go_putI (z := 53) dX1_removeFirst_50 rfl fX1_28 (by assumption) rfl (Or.inl rfl) rfl ?_
        exact go_vret dX1_removeFirst_53 rfl ⟨rfl, rfl, by rw [hc]; exact congrArg _ (pk_sub hc1), h1, fun j hj => h2 j (by omega)⟩
      · exact absurd (by rw [hc, nI_1]; exact nI_le (by omega) (by omega)) h
    | succ d ih =>
      intro k r1 hk h1 h2 h3
      have hl1 : r1 a 10 = some b := by rw [h1 a hab]; exact hl
      obtain ⟨e, he1, he2⟩ := he (k + 1) (by omega)
      have he3 : r1 b (k + 1) = some e := by rw [h3 _ (by omega)]; exact he1
      refine go_iload_n (z := 3) dX1_removeFirst_2 rfl rfl ?_
      refine go_iconst (z := 4) (v := 1) dX1_removeFirst_3 rfl (by decide) ?_
      refine go_iadd (z := 5) dX1_removeFirst_4 rfl ?_
      refine go_aload_n (z := 6) dX1_removeFirst_5 rfl rfl ?_
      refine go_getI (z := 9) dX1_removeFirst_6 rfl fX1_28 (by assumption) rfl ?_
      refine go_icmp_ge (z := 43) (z2 := 12) dX1_removeFirst_9 rfl (by decide) (fun h => ?_) (fun h => ?_)
      · exact absurd h (by rw [hc, nI_1]; exact nI_ge (by omega) (by omega))
      · refine go_iload_n (z := 13) dX1_removeFirst_12 rfl rfl ?_
        refine go_iconst (z := 14) (v := 1) dX1_removeFirst_13 rfl (by decide) ?_
        refine go_iadd (z := 15) dX1_removeFirst_14 rfl ?_
        refine go_aload_n (z := 16) dX1_removeFirst_15 rfl rfl ?_
        refine go_getR (z := 19) dX1_removeFirst_16 rfl fX1_11 (by assumption) rfl (by assumption) ?_
        refine go_alen (z := 20) (by assumption) (by decide) dX1_removeFirst_19 rfl ?_
        refine go_icmp_ge (z := 43) (z2 := 23) dX1_removeFirst_20 rfl (by decide) (fun h => ?_) (fun h => ?_)
        · exact absurd h (by rw [nI_1]; exact nI_ge (by omega) (by omega))
        · refine go_aload_n (z := 24) dX1_removeFirst_23 rfl rfl ?_
          refine go_getR (z := 27) dX1_removeFirst_24 rfl fX1_11 (by assumption) rfl (by assumption) ?_
          refine go_iload_n (z := 28) dX1_removeFirst_27 rfl rfl ?_
          refine go_aload_n (z := 29) dX1_removeFirst_28 rfl rfl ?_
          refine go_getR (z := 32) dX1_removeFirst_29 rfl fX1_11 (by assumption) rfl (by assumption) ?_
          refine go_iload_n (z := 33) dX1_removeFirst_32 rfl rfl ?_
          refine go_iconst (z := 34) (v := 1) dX1_removeFirst_33 rfl (by decide) ?_
          refine go_iadd (z := 35) dX1_removeFirst_34 rfl ?_
          refine go_aaldR (z := 36) (k + 1) (by assumption) ⟨by decide, by decide⟩ (by decide) (nI_1 k) (by omega) (by assumption) dX1_removeFirst_35 rfl ?_
          refine go_aastR (z := 37) _ (by assumption) ⟨by decide, by decide⟩ (by decide) rfl (by omega) he2 (by decide) rfl dX1_removeFirst_36 rfl ?_
          refine go_iinc (z := 40) dX1_removeFirst_37 rfl rfl (nI_1 k) (by decide) ?_
          refine go_goto (z := 2) dX1_removeFirst_40 (by decide) ?_
          refine go_lo (lo' := [some (.ref a), some (.int (nI (k + 1)))]) rfl (ih (k + 1) _ (by omega) (fun q hq => (ups_row hq).trans (h1 q hq)) (fun j hj => ?_) (fun j hj => (ups_k (by omega)).trans (h3 j (by omega))))
          by_cases hjk : j = k
          · subst hjk; rw [ups_s]; exact he1.symm
          · exact (ups_k hjk).trans (h2 j (by omega))
  exact go_lo (lo' := [some (.ref a), some (.int (nI 0))]) rfl (loop (c - 1) 0 r (by omega) (fun _ _ => rfl) (fun j hj => absurd hj (Nat.not_lt_zero j)) (fun _ _ => rfl))
theorem c_House_copyFrom {a b la lb c : Nat} (ha : Ok G n a 1) (hb : Ok G n b 1) (hla : OkA G n la 9 80) (hlb : OkA G n lb 9 80) (h1 : r a 10 = some la) (h2 : r b 10 = some lb) (hab : a ≠ b) (hll : la ≠ lb) (hc : i b 3 = nI c) (hc8 : c ≤ 80) (he : ∀ k, k < c → ∃ e, r lb k = some e ∧ Ok G n e 0) : Go l G mX1_copyFrom 0 0 0 0 (lentry [.ref a, .ref b] 3) [] n i r (fun v n' i' r' => v = none ∧ n' = n ∧ (∀ q, q ≠ a → i' q = i q) ∧ (∀ q, q ≠ la → r' q = r q) ∧ (∀ f, f < 10 → i' a f = i b f) ∧ ∀ k, k < c → r' la k = r lb k) := by
  have hal : a ≠ la := tag_ne ha hla.ok (by decide)
  have hbl : b ≠ la := tag_ne hb hla.ok (by decide)
  have hba : b ≠ a := Ne.symm hab
  refine go_aload_n (z := 1) dX1_copyFrom_0 rfl rfl ?_
  refine go_aload_n (z := 2) dX1_copyFrom_1 rfl rfl ?_
  refine go_getI (z := 5) dX1_copyFrom_2 rfl fX1_17 (by assumption) rfl ?_
  refine go_nar 0 hb (by decide) rfl (fun hz => ?_)
  refine go_putI (z := 8) dX1_copyFrom_5 rfl fX1_17 (by assumption) rfl (Or.inl rfl) hz ?_
  refine go_aload_n (z := 9) dX1_copyFrom_8 rfl rfl ?_
  refine go_aload_n (z := 10) dX1_copyFrom_9 rfl rfl ?_
  refine go_getI (z := 13) dX1_copyFrom_10 rfl fX1_21 (by assumption) rfl ?_
  refine go_putI (z := 16) dX1_copyFrom_13 rfl fX1_21 (by assumption) rfl (Or.inl rfl) rfl ?_
  refine go_aload_n (z := 17) dX1_copyFrom_16 rfl rfl ?_
  refine go_aload_n (z := 18) dX1_copyFrom_17 rfl rfl ?_
  refine go_getI (z := 21) dX1_copyFrom_18 rfl fX1_25 (by assumption) rfl ?_
  refine go_putI (z := 24) dX1_copyFrom_21 rfl fX1_25 (by assumption) rfl (Or.inl rfl) rfl ?_
  refine go_aload_n (z := 25) dX1_copyFrom_24 rfl rfl ?_
  refine go_aload_n (z := 26) dX1_copyFrom_25 rfl rfl ?_
  refine go_getI (z := 29) dX1_copyFrom_26 rfl fX1_28 (by assumption) rfl ?_
  refine go_putI (z := 32) dX1_copyFrom_29 rfl fX1_28 (by assumption) rfl (Or.inl rfl) rfl ?_
  refine go_aload_n (z := 33) dX1_copyFrom_32 rfl rfl ?_
  refine go_aload_n (z := 34) dX1_copyFrom_33 rfl rfl ?_
  refine go_getI (z := 37) dX1_copyFrom_34 rfl fX1_31 (by assumption) rfl ?_
  refine go_nar 4 hb (by decide) rfl (fun hz => ?_)
  refine go_putI (z := 40) dX1_copyFrom_37 rfl fX1_31 (by assumption) rfl (Or.inl rfl) hz ?_
  refine go_aload_n (z := 41) dX1_copyFrom_40 rfl rfl ?_
  refine go_aload_n (z := 42) dX1_copyFrom_41 rfl rfl ?_
  refine go_getI (z := 45) dX1_copyFrom_42 rfl fX1_34 (by assumption) rfl ?_
  refine go_nar 5 hb (by decide) rfl (fun hz => ?_)
  refine go_putI (z := 48) dX1_copyFrom_45 rfl fX1_34 (by assumption) rfl (Or.inl rfl) hz ?_
  refine go_aload_n (z := 49) dX1_copyFrom_48 rfl rfl ?_
  refine go_aload_n (z := 50) dX1_copyFrom_49 rfl rfl ?_
  refine go_getI (z := 53) dX1_copyFrom_50 rfl fX1_37 (by assumption) rfl ?_
  refine go_putI (z := 56) dX1_copyFrom_53 rfl fX1_37 (by assumption) rfl (Or.inl rfl) rfl ?_
  refine go_aload_n (z := 57) dX1_copyFrom_56 rfl rfl ?_
  refine go_aload_n (z := 58) dX1_copyFrom_57 rfl rfl ?_
  refine go_getI (z := 61) dX1_copyFrom_58 rfl fX1_40 (by assumption) rfl ?_
  refine go_putI (z := 64) dX1_copyFrom_61 rfl fX1_40 (by assumption) rfl (Or.inl rfl) rfl ?_
  refine go_aload_n (z := 65) dX1_copyFrom_64 rfl rfl ?_
  refine go_aload_n (z := 66) dX1_copyFrom_65 rfl rfl ?_
  refine go_getI (z := 69) dX1_copyFrom_66 rfl fX1_43 (by assumption) rfl ?_
  refine go_putI (z := 72) dX1_copyFrom_69 rfl fX1_43 (by assumption) rfl (Or.inl rfl) rfl ?_
  refine go_aload_n (z := 73) dX1_copyFrom_72 rfl rfl ?_
  refine go_aload_n (z := 74) dX1_copyFrom_73 rfl rfl ?_
  refine go_getI (z := 77) dX1_copyFrom_74 rfl fX1_46 (by assumption) rfl ?_
  refine go_putI (z := 80) dX1_copyFrom_77 rfl fX1_46 (by assumption) rfl (Or.inl rfl) rfl ?_
  refine go_iconst (z := 81) (v := 0) dX1_copyFrom_80 rfl (by decide) ?_
  refine go_istore_n (z := 82) dX1_copyFrom_81 rfl (by decide) ?_
  generalize hI : ups (ups (ups _ _ _ _) _ _ _) _ _ _ = i1
  have hi1 : ∀ q, q ≠ a → i1 q = i q := fun q hq => by rw [← hI]; simp only [ups_row hq]
  have hi2 : ∀ f, f < 10 → i1 a f = i b f := fun f hf => by
    rw [← hI]
    simp only [ups_a hba]
    rcases (show f = 0 ∨ f = 1 ∨ f = 2 ∨ f = 3 ∨ f = 4 ∨ f = 5 ∨ f = 6 ∨ f = 7 ∨ f = 8 ∨ f = 9 by omega) with rfl | rfl | rfl | rfl | rfl | rfl | rfl | rfl | rfl | rfl <;> simp [ups]
  clear hI
  have hc2 : i1 a 3 = nI c := by rw [hi2 3 (by omega)]; exact hc
  have loop : ∀ d k (r1 : RP), k + d = c → (∀ q, q ≠ la → r1 q = r q) → (∀ j, j < k → r1 la j = r lb j) → Go l G mX1_copyFrom 0 0 0 82 [some (.ref a), some (.ref b), some (.int (nI k))] [] n i1 r1 (fun v n' i' r' => v = none ∧ n' = n ∧ (∀ q, q ≠ a → i' q = i q) ∧ (∀ q, q ≠ la → r' q = r q) ∧ (∀ f, f < 10 → i' a f = i b f) ∧ ∀ k, k < c → r' la k = r lb k) := by
    intro d
    induction d with
    | zero =>
      intro k r1 hk g1 g2
      refine go_iload_n (z := 83) dX1_copyFrom_82 rfl rfl ?_
      refine go_aload_n (z := 84) dX1_copyFrom_83 rfl rfl ?_
      refine go_getI (z := 87) dX1_copyFrom_84 rfl fX1_28 (by assumption) rfl ?_
      refine go_icmp_ge (z := 117) (z2 := 90) dX1_copyFrom_87 rfl (by decide) (fun h => ?_) (fun h => ?_)
      · exact go_vret dX1_copyFrom_117 rfl ⟨rfl, rfl, hi1, g1, hi2, fun j hj => g2 j (by omega)⟩
      · exact absurd (by rw [hc2]; exact nI_le (by omega) (by omega)) h
    | succ d ih =>
      intro k r1 hk g1 g2
      have e1 : r1 a 10 = some la := by rw [g1 a hal]; exact h1
      have e2 : r1 b 10 = some lb := by rw [g1 b hbl]; exact h2
      obtain ⟨e, he1, he2⟩ := he k (by omega)
      have he3 : r1 lb k = some e := by rw [g1 lb (Ne.symm hll)]; exact he1
      refine go_iload_n (z := 83) dX1_copyFrom_82 rfl rfl ?_
      refine go_aload_n (z := 84) dX1_copyFrom_83 rfl rfl ?_
      refine go_getI (z := 87) dX1_copyFrom_84 rfl fX1_28 (by assumption) rfl ?_
      refine go_icmp_ge (z := 117) (z2 := 90) dX1_copyFrom_87 rfl (by decide) (fun h => ?_) (fun h => ?_)
      · exact absurd h (by rw [hc2]; exact nI_ge (by omega) (by omega))
      · refine go_iload_n (z := 91) dX1_copyFrom_90 rfl rfl ?_
        refine go_aload_n (z := 92) dX1_copyFrom_91 rfl rfl ?_
        refine go_getR (z := 95) dX1_copyFrom_92 rfl fX1_11 (by assumption) rfl (by assumption) ?_
        refine go_alen (z := 96) (by assumption) (by decide) dX1_copyFrom_95 rfl ?_
        refine go_icmp_ge (z := 117) (z2 := 99) dX1_copyFrom_96 rfl (by decide) (fun h => ?_) (fun h => ?_)
        · exact absurd h (nI_ge (by omega) (by omega))
        · refine go_aload_n (z := 100) dX1_copyFrom_99 rfl rfl ?_
          refine go_getR (z := 103) dX1_copyFrom_100 rfl fX1_11 (by assumption) rfl (by assumption) ?_
          refine go_iload_n (z := 104) dX1_copyFrom_103 rfl rfl ?_
          refine go_aload_n (z := 105) dX1_copyFrom_104 rfl rfl ?_
          refine go_getR (z := 108) dX1_copyFrom_105 rfl fX1_11 (by assumption) rfl (by assumption) ?_
          refine go_iload_n (z := 109) dX1_copyFrom_108 rfl rfl ?_
          refine go_aaldR (z := 110) _ hlb ⟨by decide, by decide⟩ (by decide) rfl (by omega) (by assumption) dX1_copyFrom_109 rfl ?_
          refine go_aastR (z := 111) _ hla ⟨by decide, by decide⟩ (by decide) rfl (by omega) he2 (by decide) rfl dX1_copyFrom_110 rfl ?_
          refine go_iinc (z := 114) dX1_copyFrom_111 rfl rfl (nI_1 k) (by decide) ?_
          refine go_goto (z := 82) dX1_copyFrom_114 (by decide) ?_
          refine go_lo (lo' := [some (.ref a), some (.ref b), some (.int (nI (k + 1)))]) rfl (ih (k + 1) _ (by omega) (fun q hq => (ups_row hq).trans (g1 q hq)) (fun j hj => ?_))
          by_cases hjk : j = k
          · subst hjk; rw [ups_s]; exact he1.symm
          · exact (ups_k hjk).trans (g2 j (by omega))
  exact go_lo (lo' := [some (.ref a), some (.ref b), some (.int (nI 0))]) rfl (loop c 0 r (by omega) (fun _ _ => rfl) (fun j hj => absurd hj (Nat.not_lt_zero j)))
/-- the errands of a line, and how many are within -/
def Line (r : RP) (b : Nat) (q : List Nat) : Prop := ∀ (k e : Nat), q[k]? = some e → r b k = some e
theorem c_House_errandsWithin {a b : Nat} {q : List Nat} {E : EE} {Gd : Nat → Prop} (ha : Ok G n a 1) (hb : OkA G n b 9 80) (hl : r a 10 = some b) (hc : i a 3 = nI q.length) (hc8 : q.length ≤ 80) (hq : Line r b q) (hE : RepE G n E Gd i r) (hg : ∀ e ∈ q, Gd e) : Go l G mX1_errandsWithin 0 0 0 0 (lentry [.ref a] 3) [] n i r (RetI (nI (q.map E.2.2.1).sum) n i r) := by
  refine go_iconst (z := 1) (v := 0) dX1_errandsWithin_0 rfl (by decide) ?_
  refine go_istore_n (z := 2) dX1_errandsWithin_1 rfl (by decide) ?_
  refine go_iconst (z := 3) (v := 0) dX1_errandsWithin_2 rfl (by decide) ?_
  refine go_istore_n (z := 4) dX1_errandsWithin_3 rfl (by decide) ?_
  have loop : ∀ d k, k + d = q.length → Go l G mX1_errandsWithin 0 0 0 4 [some (.ref a), some (.int (nI ((q.take k).map E.2.2.1).sum)), some (.int (nI k))] [] n i r (RetI (nI (q.map E.2.2.1).sum) n i r) := by
    intro d
    induction d with
    | zero =>
      intro k hk
      refine go_iload_n (z := 5) dX1_errandsWithin_4 rfl rfl ?_
      refine go_aload_n (z := 6) dX1_errandsWithin_5 rfl rfl ?_
      refine go_getI (z := 9) dX1_errandsWithin_6 rfl fX1_28 (by assumption) rfl ?_
      refine go_icmp_ge (z := 52) (z2 := 12) dX1_errandsWithin_9 rfl (by decide) (fun h => ?_) (fun h => ?_)
      · refine go_iload_n (z := 53) dX1_errandsWithin_52 rfl rfl ?_
        refine go_iret dX1_errandsWithin_53 rfl ?_
        rw [List.take_of_length_le (by omega)]
        exact ret_ok
      · exact absurd (by rw [hc]; exact nI_le (by omega) (by omega)) h
    | succ d ih =>
      intro k hk
      obtain ⟨e, he⟩ : ∃ e, q[k]? = some e := ⟨q[k], List.getElem?_eq_getElem (by omega)⟩
      have he3 : r b k = some e := hq k e he
      have hG := hE e (hg e (List.mem_of_getElem? he))
      have hok := hG.1
      refine go_iload_n (z := 5) dX1_errandsWithin_4 rfl rfl ?_
      refine go_aload_n (z := 6) dX1_errandsWithin_5 rfl rfl ?_
      refine go_getI (z := 9) dX1_errandsWithin_6 rfl fX1_28 (by assumption) rfl ?_
      refine go_icmp_ge (z := 52) (z2 := 12) dX1_errandsWithin_9 rfl (by decide) (fun h => ?_) (fun h => ?_)
      · exact absurd h (by rw [hc]; exact nI_ge (by omega) (by omega))
      · refine go_iload_n (z := 13) dX1_errandsWithin_12 rfl rfl ?_
        refine go_aload_n (z := 14) dX1_errandsWithin_13 rfl rfl ?_
        refine go_getR (z := 17) dX1_errandsWithin_14 rfl fX1_11 (by assumption) rfl (by assumption) ?_
        refine go_alen (z := 18) (by assumption) (by decide) dX1_errandsWithin_17 rfl ?_
        refine go_icmp_ge (z := 52) (z2 := 21) dX1_errandsWithin_18 rfl (by decide) (fun h => ?_) (fun h => ?_)
        · exact absurd h (nI_ge (by omega) (by omega))
        · refine go_iload_n (z := 22) dX1_errandsWithin_21 rfl rfl ?_
          refine go_aload_n (z := 23) dX1_errandsWithin_22 rfl rfl ?_
          refine go_getR (z := 26) dX1_errandsWithin_23 rfl fX1_11 (by assumption) rfl (by assumption) ?_
          refine go_iload_n (z := 27) dX1_errandsWithin_26 rfl rfl ?_
          refine go_aald (z := 28) _ (by assumption) ⟨by decide, by decide⟩ (by decide) rfl (by omega) rfl dX1_errandsWithin_27 rfl ?_
          refine go_ifnonnull (z := 35) (z2 := 31) dX1_errandsWithin_28 rfl (by decide) (fun b2 hb2 => ?_) (fun h0 => ?_)
          · have hbe : b2 = e := Option.some.inj (hb2.symm.trans he3)
            subst hbe
            refine go_aload_n (z := 36) dX1_errandsWithin_35 rfl rfl ?_
            refine go_getR (z := 39) dX1_errandsWithin_36 rfl fX1_11 (by assumption) rfl (by assumption) ?_
            refine go_iload_n (z := 40) dX1_errandsWithin_39 rfl rfl ?_
            refine go_aaldR (z := 41) _ (by assumption) ⟨by decide, by decide⟩ (by decide) rfl (by omega) (by assumption) dX1_errandsWithin_40 rfl ?_
            refine go_getI (z := 44) dX1_errandsWithin_41 rfl fX1_61 hok rfl ?_
            refine go_iadd (z := 45) dX1_errandsWithin_44 rfl ?_
            refine go_istore_n (z := 46) dX1_errandsWithin_45 rfl (by decide) ?_
            refine go_iinc (z := 49) dX1_errandsWithin_46 rfl rfl (nI_1 k) (by decide) ?_
            refine go_goto (z := 4) dX1_errandsWithin_49 (by decide) ?_
            refine go_lo ?_ (ih (k + 1) (by omega))
            simp only [lset]
            rw [hG.2.2.2.2.2.1, nI_add, List.take_succ, he]
            simp
          · rw [he3] at h0; cases h0
  exact go_lo (lo' := [some (.ref a), some (.int (nI ((q.take 0).map E.2.2.1).sum)), some (.int (nI 0))]) rfl (loop q.length 0 (by omega))
/-- taking an errand in -/
theorem c_House_takeIn {a b e : Nat} {q kids : List Nat} {E : EE} {Gd : Nat → Prop} (ha : Ok G n a 1) (hb : OkA G n b 9 80) (hl : r a 10 = some b) (hc : i a 3 = nI q.length) (hE : RepE G n E Gd i r) (hg : Gd e) (hkids : E.2.2.2 e = kids) (hcap : q.length + kids.length ≤ 80) : Go l G mX1_takeIn 1 0 0 0 (lentry [.ref a, .ref e] 3) [] n i r (fun v n' i' r' => v = none ∧ n' = n ∧ (∀ p, p ≠ a → i' p = i p) ∧ (∀ p, p ≠ b → r' p = r p) ∧ (∀ f, i' a f = if f = 0 then 1 else if f = 6 then i a 6 + 1 else if f = 2 then i a 2 + E.2.1 e else if f = 3 then nI (q.length + kids.length) else i a f) ∧ (∀ k, k < q.length → r' b k = r b k) ∧ ∀ k c, kids[k]? = some c → r' b (q.length + k) = some c) := by
  have hGe := hE e hg
  have hoke := hGe.1
  have hab : a ≠ b := tag_ne ha hb.ok (by decide)
  have hea : e ≠ a := tag_ne hoke ha (by decide)
  refine go_aload_n (z := 1) dX1_takeIn_0 rfl rfl ?_
  refine go_iconst (z := 2) (v := 1) dX1_takeIn_1 rfl (by decide) ?_
  refine go_putI (z := 5) dX1_takeIn_2 rfl fX1_17 (by assumption) rfl (Or.inl rfl) (congrArg Value.int (by decide)) ?_
  refine go_aload_n (z := 6) dX1_takeIn_5 rfl rfl ?_
  refine go_dup (z := 7) dX1_takeIn_6 rfl rfl ?_
  refine go_getI (z := 10) dX1_takeIn_7 rfl fX1_37 (by assumption) rfl ?_
  refine go_iconst (z := 11) (v := 1) dX1_takeIn_10 rfl (by decide) ?_
  refine go_iadd (z := 12) dX1_takeIn_11 rfl ?_
  refine go_putI (z := 15) dX1_takeIn_12 rfl fX1_37 (by assumption) rfl (Or.inl rfl) rfl ?_
  refine go_aload_n (z := 16) dX1_takeIn_15 rfl rfl ?_
  refine go_dup (z := 17) dX1_takeIn_16 rfl rfl ?_
  refine go_getI (z := 20) dX1_takeIn_17 rfl fX1_25 (by assumption) rfl ?_
  refine go_aload_n (z := 21) dX1_takeIn_20 rfl rfl ?_
  refine go_getI (z := 24) dX1_takeIn_21 rfl fX1_49 hoke rfl ?_
  refine go_iadd (z := 25) dX1_takeIn_24 rfl ?_
  refine go_putI (z := 28) dX1_takeIn_25 rfl fX1_25 (by assumption) rfl (Or.inl rfl) rfl ?_
  generalize hI : ups (ups (ups _ _ _ _) _ _ _) _ _ _ = i1
  have hi1 : ∀ p, p ≠ a → i1 p = i p := fun p hp => by rw [← hI]; simp only [ups_row hp]
  have hi2 : ∀ f, i1 a f = if f = 0 then 1 else if f = 6 then i a 6 + 1 else if f = 2 then i a 2 + E.2.1 e else i a f := fun f => by
    rw [← hI]
    simp only [ups_a hea, hGe.2.2.2.1]
    by_cases f0 : f = 0
    · subst f0; simp [ups]
    · by_cases f6 : f = 6
      · subst f6; simp [ups]
      · by_cases f2 : f = 2
        · subst f2; simp [ups]
        · simp [ups, f0, f6, f2]
  clear hI
  have hE' := hE
  have loop : ∀ (rest dn : List Nat) (o : Option Nat) (i2 : IP) (r2 : RP), kids = dn ++ rest → Kid r o rest → (∀ p, p ≠ a → i2 p = i p) → (∀ f, f ≠ 3 → i2 a f = i1 a f) → i2 a 3 = nI (q.length + dn.length) → (∀ p, p ≠ b → r2 p = r p) → (∀ k, k < q.length → r2 b k = r b k) → (∀ k c, dn[k]? = some c → r2 b (q.length + k) = some c) →
      Go l G mX1_takeIn 1 0 0 33 [some (.ref a), some (.ref e), some (va_rf o)] [] n i2 r2 (fun v n' i' r' => v = none ∧ n' = n ∧ (∀ p, p ≠ a → i' p = i p) ∧ (∀ p, p ≠ b → r' p = r p) ∧ (∀ f, i' a f = if f = 0 then 1 else if f = 6 then i a 6 + 1 else if f = 2 then i a 2 + E.2.1 e else if f = 3 then nI (q.length + kids.length) else i a f) ∧ (∀ k, k < q.length → r' b k = r b k) ∧ ∀ k c, kids[k]? = some c → r' b (q.length + k) = some c) := by
    intro rest
    induction rest with
    | nil =>
      intro dn o i2 r2 h1 h2 h3 h4 h5 h6 h7 h8
      refine go_aload_nO (z := 34) dX1_takeIn_33 rfl rfl ?_
      refine go_ifnull (z := 50) (z2 := 37) dX1_takeIn_34 rfl (by decide) (fun h => ?_) (fun b2 h => ?_)
      · rw [List.append_nil] at h1
        subst h1
        refine go_vret dX1_takeIn_50 rfl ⟨rfl, rfl, h3, h6, fun f => ?_, h7, h8⟩
        by_cases f3 : f = 3
        · subst f3; rw [h5]; simp
        · rw [h4 f f3, hi2 f]; simp [f3]
      · rw [show o = none from h2] at h; cases h
    | cons c rest ih =>
      intro dn o i2 r2 h1 h2 h3 h4 h5 h6 h7 h8
      obtain ⟨ho, hk⟩ := h2
      subst ho
      have hcm : c ∈ E.2.2.2 e := by rw [hkids, h1]; simp
      have hokc := (hE c ((hGe.2.2.2.2.2.2.2.1 c hcm).1)).1
      have hcb : c ≠ b := tag_ne hokc hb.ok (by decide)
      have hlen : dn.length + (rest.length + 1) = kids.length := by rw [h1]; simp
      have hl2 : r2 a 10 = some b := by rw [h6 a hab]; exact hl
      refine go_aload_nO (z := 34) dX1_takeIn_33 rfl rfl ?_
      refine go_ifnull (z := 50) (z2 := 37) dX1_takeIn_34 rfl (by decide) (fun h => ?_) (fun b2 h => ?_)
      · cases h
      · clear h
        refine go_aload_n (z := 38) dX1_takeIn_37 rfl rfl ?_
        refine go_aload_n (z := 39) dX1_takeIn_38 rfl rfl ?_
        refine go_callV (z := 42) (t := 1) [.ref c] dX1_takeIn_39 rfl mlX1_lineUp vX1_54 ⟨by decide, rfl⟩ (by assumption) rfl rfl (by decide) (cat_r cat_nil) (by simp) (by decide) (by first | decide | omega) (by first | decide | omega) (c_House_lineUp ha hb hl2 h5 (by omega) hokc) ?_
        rintro v n2 i3 r3 ⟨rfl, rfl, rfl, rfl⟩
        refine go_aload_n (z := 43) dX1_takeIn_42 rfl rfl ?_
        refine go_getO (z := 46) dX1_takeIn_43 rfl fX1_58 hokc rfl ?_
        refine go_astore_nO (z := 47) dX1_takeIn_46 rfl (by decide) ?_
        refine go_goto (z := 33) dX1_takeIn_47 (by decide) ?_
        rw [ups_a (f := r2) hcb, show r2 c 6 = r c 6 by rw [h6 c hcb]]
        refine go_lo (lo' := [some (.ref a), some (.ref e), some (va_rf (r c 6))]) rfl (ih (dn ++ [c]) (r c 6) _ _ (by rw [h1]; simp) hk (fun p hp => (ups_row hp).trans (h3 p hp)) (fun f hf => (ups_k hf).trans (h4 f hf)) (by rw [ups_s]; simp; rfl) (fun p hp => (ups_row hp).trans (h6 p hp)) (fun k hk' => (ups_k (by omega)).trans (h7 k hk')) (fun k d hd => ?_))
        by_cases hkd : k < dn.length
        · rw [ups_k (by omega)]
          rw [List.getElem?_append_left hkd] at hd
          exact h8 k d hd
        · rw [List.getElem?_append_right (by omega)] at hd
          have hk0 : k - dn.length < 1 := (List.getElem?_eq_some_iff.mp hd).1
          have hk1 : k = dn.length := by omega
          subst hk1
          simp at hd
          subst hd
          exact ups_s
  refine go_aload_n (z := 29) dX1_takeIn_28 rfl rfl ?_
  refine go_getO (z := 32) dX1_takeIn_29 rfl fX1_50 hoke rfl ?_
  refine go_astore_nO (z := 33) dX1_takeIn_32 rfl (by decide) ?_
  exact go_lo (lo' := [some (.ref a), some (.ref e), some (va_rf (r e 4))]) rfl (loop kids [] (r e 4) i1 r rfl (hkids ▸ hGe.2.2.2.2.2.2.1) hi1 (fun _ _ => rfl) (by rw [hi2 3]; simpa using hc) (fun _ _ => rfl) (fun _ _ => rfl) (fun k c h => by simp at h))
end HOUSE
end
section
/-! the messages' row is put in another order, one of them perhaps written anew -/
theorem Rep.reM {S : Nat} {m : MS} {i i' : IP} {r r' : RP} {mx : Nat → Nat} (hR : Rep S m i r) (hX : RepX S r mx) (s : Nat → Nat) (ms : List Mg) (hs : ∀ j, j < 141 → s j < 141) (hj : ∀ j k, j < 141 → k < 141 → s j = s k → j = k) (hr : ∀ j, j < 141 → r' (S + 3) j = some (mx (s j)))
    (ho : ∀ a, a < S + 16 ∨ S + 157 ≤ a → a ≠ S + 3 → r' a = r a) (hi : ∀ a k, a < S + 16 ∨ S + 157 ≤ a → ¬ (a = S ∧ k = 6) → i' a k = i a k) (h6 : i' S 6 = nI ms.length) (hl : ms.length ≤ 141) (hc : ∀ j x, ms[j]? = some x → (∀ f, f < 5 → i' (mx (s j)) f = x.1 f) ∧ r' (mx (s j)) 5 = x.2) : Rep S (sM m ms) i' r' ∧ Out S i r i' r' := by
  obtain ⟨h1, h2, h3, h4, h5, -⟩ := hR
  refine ⟨⟨⟨?_, ?_, ?_, fun q hq => ⟨?_, ?_⟩⟩, fun k hk => ?_, fun k hk => ?_, fun q hq f hf => ?_, fun q hq => ⟨(h5 q hq).1, (h5 q hq).2.1, fun c a hc' => ?_⟩, fun j => mx (s j), ⟨fun j hj' => ⟨hr j hj', (hX.1 _ (hs j hj')).2⟩, fun j k hj' hk e => hj j k hj' hk (hX.2 _ _ (hs j hj') (hs k hk) e)⟩, hl, h6, hc⟩, fun a ha => ⟨?_, ?_⟩⟩
  · rw [ho S (by omega) (by omega)]; exact h1.1
  · rw [ho S (by omega) (by omega)]; exact h1.2.1
  · rw [ho S (by omega) (by omega)]; exact h1.2.2.1
  · rw [ho _ (by omega) (by omega)]; exact (h1.2.2.2 q hq).1
  · rw [ho _ (by omega) (by omega)]; exact (h1.2.2.2 q hq).2
  · rw [hi S k (by omega) (by omega)]; exact h2 k hk
  · rw [hi _ k (by omega) (by omega)]; exact h3 k hk
  · rw [hi _ f (by omega) (by omega)]; exact h4 q hq f hf
  · rw [ho _ (by omega) (by omega)]; exact (h5 q hq).2.2 c a hc'
  · funext k; exact hi a k (by omega) (by omega)
  · exact ho a (by omega) (by omega)
theorem insPos_le (A : Nat → Int32) (y : Int32) (n : Nat) : insPos A y n ≤ n := by
  induction n with
  | zero => exact Nat.le_refl 0
  | succ n ih =>
    unfold insPos
    split
    · exact Nat.le_refl _
    · omega
theorem ins_get {α : Type} (l : List α) (x : α) {q : Nat} (hq : q ≤ l.length) (j : Nat) : (l.take q ++ x :: l.drop q)[j]? = if j < q then l[j]? else if j = q then some x else l[j - 1]? := by
  have hl : (l.take q).length = q := by simp; omega
  by_cases h1 : j < q
  · rw [if_pos h1, List.getElem?_append_left (by omega), List.getElem?_take, if_pos h1]
  · rw [if_neg h1, List.getElem?_append_right (by omega), hl]
    by_cases h2 : j = q
    · subst h2; simp
    · rw [if_neg h2]
      obtain ⟨d, hd⟩ : ∃ d, j - q = d + 1 := ⟨j - q - 1, by omega⟩
      rw [hd, List.getElem?_cons_succ, List.getElem?_drop]
      congr 1
      omega
theorem lA_some {ms : List Mg} {c : Nat} {x : Mg} (h : ms[c]? = some x) : lA ms c = x.1 4 := by unfold lA; rw [h]
section STATE1
variable {l : Launch} {G : GG} {n : Nat} {i : IP} {r : RP} {S : Nat} {m : MS}
theorem c_post (hL : StL G n S) (hR : Rep S m i r) {k g : Int32} {f t : Nat} {e : Option Nat} (hf : f < 7) (ht : t < 7) (hcap : m.2.2.2.2.length < 141) : Go l G mX4_post 0 0 0 0 (lentry [.ref S, .int k, .int (nI f), .int (nI t), .int g, va_rf e] 9) [] n i r (Chg n S i r (mPost m k f t g e)) := by
  have hR0 := hR
  obtain ⟨h1, h2, h3, h4, h5, mx, hX, hlen, h6, hM⟩ := hR
  generalize hms : m.2.2.2.2 = ms at hcap hlen h6 hM
  have hs := hL.s
  have hw := hL.w
  have hmm := hL.ms
  have e3 := h1.1
  have e5 := h1.2.2.1
  have hway : nI f * 7 + nI t = nI (f * 7 + t) := by rw [← nI_add, ← pk_mul]; rfl
  refine go_iload_n (z := 1) dX4_post_0 rfl rfl ?_
  refine go_bipush (z := 3) (v := 7) dX4_post_1 rfl (by decide) ?_
  refine go_imul (z := 4) dX4_post_3 rfl ?_
  refine go_iload_n (z := 5) dX4_post_4 rfl rfl ?_
  refine go_iadd (z := 6) dX4_post_5 rfl ?_
  refine go_istore (z := 8) dX4_post_6 rfl (by decide) ?_
  refine go_iload (z := 10) dX4_post_8 rfl rfl ?_
  refine go_st (st' := [.int (nI (f * 7 + t))]) (by rw [hway]) ?_
  refine go_if_lt (z := 42) (z2 := 13) dX4_post_10 rfl (by decide) (fun h => absurd h (nI_pos (by omega))) (fun _ => ?_)
  refine go_lo (lo' := [some (.ref S), some (.int k), some (.int (nI f)), some (.int (nI t)), some (.int g), some (va_rf e), some (.int (nI (f * 7 + t))), none, none]) (by rw [← hway]; rfl) ?_
  refine go_iload (z := 15) dX4_post_13 rfl rfl ?_
  refine go_aload_n (z := 16) dX4_post_15 rfl rfl ?_
  refine go_getR (z := 19) dX4_post_16 rfl fX4_18 (by assumption) rfl (by assumption) ?_
  refine go_alen (z := 20) (by assumption) (by decide) dX4_post_19 rfl ?_
  refine go_icmp_ge (z := 42) (z2 := 23) dX4_post_20 rfl (by decide) (fun h => absurd h (nI_ge (by omega) (by omega))) (fun _ => ?_)
  refine go_aload_n (z := 24) dX4_post_23 rfl rfl ?_
  refine go_getI (z := 27) dX4_post_24 rfl fX4_51 (by assumption) rfl ?_
  refine go_if_lt (z := 42) (z2 := 30) dX4_post_27 rfl (by decide) (fun h => absurd h (by rw [h6]; exact nI_pos (by omega))) (fun _ => ?_)
  refine go_aload_n (z := 31) dX4_post_30 rfl rfl ?_
  refine go_getI (z := 34) dX4_post_31 rfl fX4_51 (by assumption) rfl ?_
  refine go_aload_n (z := 35) dX4_post_34 rfl rfl ?_
  refine go_getR (z := 38) dX4_post_35 rfl fX4_30 (by assumption) rfl (by assumption) ?_
  refine go_alen (z := 39) (by assumption) (by decide) dX4_post_38 rfl ?_
  refine go_icmp_lt (z := 43) (z2 := 42) dX4_post_39 rfl (by decide) (fun _ => ?_) (fun h => absurd (by rw [h6]; exact nI_lt hcap (by omega)) h)
  obtain ⟨hx1, hx2, hx3⟩ := hX.1 ms.length hcap
  have hMe := hL.me hx2 hx3
  refine go_aload_n (z := 44) dX4_post_43 rfl rfl ?_
  refine go_getR (z := 47) dX4_post_44 rfl fX4_30 (by assumption) rfl (by assumption) ?_
  refine go_aload_n (z := 48) dX4_post_47 rfl rfl ?_
  refine go_getI (z := 51) dX4_post_48 rfl fX4_51 (by assumption) rfl ?_
  refine go_aaldR (z := 52) ms.length (by assumption) ⟨by decide, by decide⟩ (by decide) h6 (by omega) (by assumption) dX4_post_51 rfl ?_
  refine go_astore (z := 54) dX4_post_52 rfl (by decide) ?_
  refine go_aload (z := 56) dX4_post_54 rfl rfl ?_
  refine go_iload_n (z := 57) dX4_post_56 rfl rfl ?_
  refine go_putI (z := 60) dX4_post_57 rfl fX4_104 hMe rfl (Or.inl rfl) rfl ?_
  refine go_aload (z := 62) dX4_post_60 rfl rfl ?_
  refine go_iload_n (z := 63) dX4_post_62 rfl rfl ?_
  refine go_putI (z := 66) dX4_post_63 rfl fX4_107 hMe rfl (Or.inl rfl) rfl ?_
  refine go_aload (z := 68) dX4_post_66 rfl rfl ?_
  refine go_iload_n (z := 69) dX4_post_68 rfl rfl ?_
  refine go_putI (z := 72) dX4_post_69 rfl fX4_110 hMe rfl (Or.inl rfl) rfl ?_
  refine go_aload (z := 74) dX4_post_72 rfl rfl ?_
  refine go_iload (z := 76) dX4_post_74 rfl rfl ?_
  refine go_putI (z := 79) dX4_post_76 rfl fX4_113 hMe rfl (Or.inl rfl) rfl ?_
  refine go_aload (z := 81) dX4_post_79 rfl rfl ?_
  refine go_aload_n (z := 82) dX4_post_81 rfl rfl ?_
  refine go_getI (z := 85) dX4_post_82 rfl fX4_40 (by assumption) rfl ?_
  refine go_aload_n (z := 86) dX4_post_85 rfl rfl ?_
  refine go_getR (z := 89) dX4_post_86 rfl fX4_18 (by assumption) rfl (by assumption) ?_
  refine go_iload (z := 91) dX4_post_89 rfl rfl ?_
  refine go_iald (z := 92) (f * 7 + t) (by assumption) (by decide) rfl (by omega) dX4_post_91 rfl ?_
  refine go_iadd (z := 93) dX4_post_92 rfl ?_
  refine go_putI (z := 96) dX4_post_93 rfl fX4_116 hMe rfl (Or.inl rfl) rfl ?_
  refine go_aload (z := 98) dX4_post_96 rfl rfl ?_
  refine go_aloadO (z := 100) dX4_post_98 rfl rfl ?_
  refine go_putO (z := 103) dX4_post_100 rfl fX4_119 hMe rfl (Or.inl rfl) ?_
  refine go_aload_n (z := 104) dX4_post_103 rfl rfl ?_
  refine go_getI (z := 107) dX4_post_104 rfl fX4_51 (by assumption) rfl ?_
  refine go_istore (z := 109) dX4_post_107 rfl (by decide) ?_
  generalize hI : ups (ups (ups (ups (ups _ _ _ _) _ _ _) _ _ _) _ _ _) _ _ _ = i1
  generalize hRR : ups r _ _ _ = r1
  have hi1 : ∀ a, a ≠ mx ms.length → i1 a = i a := fun a ha => by rw [← hI]; simp only [ups_row ha]
  have hr1 : ∀ a, a ≠ mx ms.length → r1 a = r a := fun a ha => by rw [← hRR]; exact ups_row ha
  have hi2 : ∀ q, q < 5 → i1 (mx ms.length) q = mg k (nI f) (nI t) g (m.1 0 + m.2.1 (f * 7 + t)) q := fun q hq => by
    have g1 : S ≠ mx ms.length := by omega
    have g2 : S + 1 ≠ mx ms.length := by omega
    rw [← hI]
    simp only [ups_a g1, ups_a g2]
    rcases (show q = 0 ∨ q = 1 ∨ q = 2 ∨ q = 3 ∨ q = 4 by omega) with rfl | rfl | rfl | rfl | rfl
    · simp [ups, mg]
    · simp [ups, mg]
    · simp [ups, mg]
    · simp [ups, mg]
    · rw [ups_s, h2 0 (by omega), h3 _ (by omega)]; rfl
  have hr2 : r1 (mx ms.length) 5 = e := by rw [← hRR]; exact ups_s
  have hi6 : i1 S 6 = nI ms.length := by rw [hi1 S (by omega)]; exact h6
  clear hI hRR
  refine go_lo (lo' := [some (.ref S), some (.int k), some (.int (nI f)), some (.int (nI t)), some (.int g), some (va_rf e), some (.int (nI (f * 7 + t))), some (.ref (mx ms.length)), some (.int (nI ms.length))]) (by rw [← hi6]; rfl) ?_
  generalize hy : m.1 0 + m.2.1 (f * 7 + t) = y at hi2
  have hy4 : i1 (mx ms.length) 4 = y := hi2 4 (by omega)
  have hA : ∀ c, c < ms.length → i1 (mx c) 4 = lA ms c := fun c hc => by
    have hget : ms[c]? = some ms[c] := List.getElem?_eq_getElem hc
    rw [lA_some hget, ← (hM c _ hget).1 4 (by omega), hi1 _ (fun q => by have := hX.2 c ms.length (by omega) hcap q; omega)]
  have fin : ∀ q r2, q ≤ ms.length → q = insPos (lA ms) y ms.length → (∀ a, a ≠ S + 3 → r2 a = r1 a) → (∀ j, j < q → r2 (S + 3) j = r (S + 3) j) → (∀ j, q < j → j ≤ ms.length → r2 (S + 3) j = r (S + 3) (j - 1)) → (∀ j, ms.length < j → r2 (S + 3) j = r (S + 3) j) → Go l G mX4_post 0 0 0 156 [some (.ref S), some (.int k), some (.int (nI f)), some (.int (nI t)), some (.int g), some (va_rf e), some (.int (nI (f * 7 + t))), some (.ref (mx ms.length)), some (.int (nI q))] [] n i1 r2 (Chg n S i r (mPost m k f t g e)) := by
    intro q r2 hq hqe g1 g2 g3 g4
    have e5' : r2 S 5 = some (S + 3) := by rw [g1 S (by omega), hr1 S (by omega)]; exact e5
    refine go_aload_n (z := 157) dX4_post_156 rfl rfl ?_
    refine go_getR (z := 160) dX4_post_157 rfl fX4_30 (by assumption) rfl (by assumption) ?_
    refine go_iload (z := 162) dX4_post_160 rfl rfl ?_
    refine go_aload (z := 164) dX4_post_162 rfl rfl ?_
    refine go_aastR (z := 165) _ (by assumption) ⟨by decide, by decide⟩ (by decide) rfl (by omega) hMe (by decide) rfl dX4_post_164 rfl ?_
    refine go_aload_n (z := 166) dX4_post_165 rfl rfl ?_
    refine go_dup (z := 167) dX4_post_166 rfl rfl ?_
    refine go_getI (z := 170) dX4_post_167 rfl fX4_51 (by assumption) rfl ?_
    refine go_iconst (z := 171) (v := 1) dX4_post_170 rfl (by decide) ?_
    refine go_iadd (z := 172) dX4_post_171 rfl ?_
    refine go_putI (z := 175) dX4_post_172 rfl fX4_51 (by assumption) rfl (Or.inl rfl) rfl ?_
    have key := Rep.reM (i' := ups i1 S 6 (i1 S 6 + 1)) (r' := ups r2 (S + 3) q (some (mx ms.length))) hR0 hX (fun j => if j < q then j else if j = q then ms.length else if j ≤ ms.length then j - 1 else j) (ms.take q ++ (mg k (nI f) (nI t) g y, e) :: ms.drop q) (fun j hj => by split <;> (try split) <;> (try split) <;> omega) (fun a b ha hb hab => by split at hab <;> split at hab <;> (try split at hab) <;> (try split at hab) <;> (try split at hab) <;> (try split at hab) <;> omega) ?_ ?_ ?_ ?_ ?_ ?_
    · refine go_vret dX4_post_175 rfl ⟨rfl, rfl, ?_, key.2⟩
      have : mPost m k f t g e = sM m (ms.take q ++ (mg k (nI f) (nI t) g y, e) :: ms.drop q) := by
        have hqe' : insPos (lA ms) (((mg k (nI f) (nI t) g y, e) : Mg).1 4) ms.length = q := hqe.symm
        unfold mPost ins
        rw [hms, hy, hqe']
      rw [this]
      exact key.1
    · intro j hj
      by_cases a1 : j = q
      · subst a1
        rw [ups_s]
        simp
      · rw [ups_k a1]
        by_cases a2 : j < q
        · rw [if_pos a2, g2 j a2]; exact (hX.1 j hj).1
        · rw [if_neg a2, if_neg a1]
          by_cases a3 : j ≤ ms.length
          · rw [if_pos a3, g3 j (by omega) a3]; exact (hX.1 _ (by omega)).1
          · rw [if_neg a3, g4 j (by omega)]; exact (hX.1 j hj).1
    · intro a ha ha2
      rw [ups_row ha2, g1 a ha2, hr1 a (by omega)]
    · intro a c ha hac
      by_cases a1 : a = S
      · subst a1
        rw [ups_k (fun q => hac ⟨rfl, q⟩), hi1 a (by omega)]
      · rw [ups_a a1, hi1 a (by omega)]
    · rw [ups_s, hi6]
      simp only [List.length_append, List.length_take, List.length_cons, List.length_drop]
      rw [show min q ms.length + (ms.length - q + 1) = ms.length + 1 by omega]
      exact nI_1 _
    · simp only [List.length_append, List.length_take, List.length_cons, List.length_drop]
      omega
    · intro j x hx
      rw [ins_get ms _ hq] at hx
      have hne : ∀ c, c < ms.length → mx c ≠ mx ms.length := fun c hc q => by have := hX.2 c ms.length (by omega) hcap q; omega
      have old : ∀ c, c < ms.length → ms[c]? = some x → (∀ f, f < 5 → ups i1 S 6 (i1 S 6 + 1) (mx c) f = x.1 f) ∧ ups r2 (S + 3) q (some (mx ms.length)) (mx c) 5 = x.2 := by
        intro c hc hcx
        have hb := hX.1 c (by omega)
        refine ⟨fun f hf => ?_, ?_⟩
        · rw [ups_a (by omega), hi1 _ (hne c hc)]; exact (hM c x hcx).1 f hf
        · rw [ups_a (by omega), g1 _ (by omega), hr1 _ (hne c hc)]; exact (hM c x hcx).2
      by_cases a1 : j < q
      · rw [if_pos a1] at hx ⊢
        exact old j (by omega) hx
      · rw [if_neg a1] at hx ⊢
        by_cases a2 : j = q
        · rw [if_pos a2] at hx ⊢
          cases hx
          refine ⟨fun f hf => ?_, ?_⟩
          · rw [ups_a (by omega)]; exact hi2 f hf
          · rw [ups_a (by omega), g1 _ (by omega)]; exact hr2
        · rw [if_neg a2] at hx ⊢
          have hj1 : j - 1 < ms.length := (List.getElem?_eq_some_iff.mp hx).1
          rw [if_pos (by omega)]
          exact old (j - 1) hj1 hx
  have loop : ∀ q r2, q ≤ ms.length → insPos (lA ms) y q = insPos (lA ms) y ms.length → (∀ a, a ≠ S + 3 → r2 a = r1 a) → (∀ j, j ≤ q → r2 (S + 3) j = r (S + 3) j) → (∀ j, q < j → j ≤ ms.length → r2 (S + 3) j = r (S + 3) (j - 1)) → (∀ j, ms.length < j → r2 (S + 3) j = r (S + 3) j) → Go l G mX4_post 0 0 0 109 [some (.ref S), some (.int k), some (.int (nI f)), some (.int (nI t)), some (.int g), some (va_rf e), some (.int (nI (f * 7 + t))), some (.ref (mx ms.length)), some (.int (nI q))] [] n i1 r2 (Chg n S i r (mPost m k f t g e)) := by
    intro q
    induction q with
    | zero =>
      intro r2 hq hp g1 g2 g3 g4
      refine go_iload (z := 111) dX4_post_109 rfl rfl ?_
      refine go_if_le (z := 156) (z2 := 114) dX4_post_111 rfl (by decide) (fun _ => ?_) (fun h => absurd (by decide) h)
      exact fin 0 r2 hq hp g1 (fun j hj => g2 j (by omega)) g3 g4
    | succ q ih =>
      intro r2 hq hp g1 g2 g3 g4
      have e5' : r2 S 5 = some (S + 3) := by rw [g1 S (by omega), hr1 S (by omega)]; exact e5
      have hbq := hX.1 q (by omega)
      have hq1 : r2 (S + 3) q = some (mx q) := by rw [g2 q (by omega)]; exact hbq.1
      have hMq := hL.me hbq.2.1 hbq.2.2
      refine go_iload (z := 111) dX4_post_109 rfl rfl ?_
      refine go_if_le (z := 156) (z2 := 114) dX4_post_111 rfl (by decide) (fun h => absurd h (nI_nle (by omega) (by omega))) (fun _ => ?_)
      refine go_aload_n (z := 115) dX4_post_114 rfl rfl ?_
      refine go_getR (z := 118) dX4_post_115 rfl fX4_30 (by assumption) rfl (by assumption) ?_
      refine go_iload (z := 120) dX4_post_118 rfl rfl ?_
      refine go_iconst (z := 121) (v := 1) dX4_post_120 rfl (by decide) ?_
      refine go_isub (z := 122) dX4_post_121 rfl ?_
      refine go_aaldR (z := 123) q (by assumption) ⟨by decide, by decide⟩ (by decide) (nI_pred q) (by omega) (by assumption) dX4_post_122 rfl ?_
      refine go_getI (z := 126) dX4_post_123 rfl fX4_116 hMq rfl ?_
      refine go_aload (z := 128) dX4_post_126 rfl rfl ?_
      refine go_getI (z := 131) dX4_post_128 rfl fX4_116 hMe rfl ?_
      refine go_icmp_le (z := 156) (z2 := 134) dX4_post_131 rfl (by decide) (fun h => ?_) (fun h => ?_)
      · rw [hA q (by omega), hy4] at h
        refine fin (q + 1) r2 hq (hp ▸ ?_) g1 (fun j hj => g2 j (by omega)) g3 g4
        unfold insPos
        rw [if_pos h]
      · rw [hA q (by omega), hy4] at h
        refine go_aload_n (z := 135) dX4_post_134 rfl rfl ?_
        refine go_getR (z := 138) dX4_post_135 rfl fX4_30 (by assumption) rfl (by assumption) ?_
        refine go_iload (z := 140) dX4_post_138 rfl rfl ?_
        refine go_aload_n (z := 141) dX4_post_140 rfl rfl ?_
        refine go_getR (z := 144) dX4_post_141 rfl fX4_30 (by assumption) rfl (by assumption) ?_
        refine go_iload (z := 146) dX4_post_144 rfl rfl ?_
        refine go_iconst (z := 147) (v := 1) dX4_post_146 rfl (by decide) ?_
        refine go_isub (z := 148) dX4_post_147 rfl ?_
        refine go_aaldR (z := 149) q (by assumption) ⟨by decide, by decide⟩ (by decide) (nI_pred q) (by omega) (by assumption) dX4_post_148 rfl ?_
        refine go_aastR (z := 150) _ (by assumption) ⟨by decide, by decide⟩ (by decide) rfl (by omega) hMq (by decide) rfl dX4_post_149 rfl ?_
        refine go_iinc (z := 153) dX4_post_150 rfl rfl (pk_m1 q) (by decide) ?_
        refine go_goto (z := 109) dX4_post_153 (by decide) ?_
        refine go_lo (lo' := [some (.ref S), some (.int k), some (.int (nI f)), some (.int (nI t)), some (.int g), some (va_rf e), some (.int (nI (f * 7 + t))), some (.ref (mx ms.length)), some (.int (nI q))]) rfl (ih _ (by omega) (hp ▸ ?_) (fun a ha => (ups_row ha).trans (g1 a ha)) (fun j hj => (ups_k (by omega)).trans (g2 j (by omega))) (fun j hj1 hj2 => ?_) (fun j hj => (ups_k (by omega)).trans (g4 j hj)))
        · show insPos (lA ms) y q = insPos (lA ms) y (q + 1)
          conv => rhs; unfold insPos
          rw [if_neg h]
        · by_cases a1 : j = q + 1
          · subst a1; rw [ups_s]; exact (hX.1 q (by omega)).1.symm
          · exact (ups_k a1).trans (g3 j (by omega) hj2)
  refine loop ms.length r1 (Nat.le_refl _) rfl (fun _ _ => rfl) (fun j _ => by rw [hr1 _ (by omega)]) (fun j a b => absurd b (by omega)) (fun j _ => by rw [hr1 _ (by omega)])
end STATE1
end
section
theorem Rep.putQ {S : Nat} {m : MS} {i i' : IP} {r r' : RP} (hR : Rep S m i r) {h : Nat} (hh : h < 6) {q : List Nat} (hl : q.length ≤ 80) (hi : i' = ups i (S + 4 + 2 * h) 3 (nI q.length)) (hr : ∀ a, a ≠ S + 5 + 2 * h → r' a = r a) (hq : ∀ c a, q[c]? = some a → r' (S + 5 + 2 * h) c = some a) : Rep S (sQ m h q) i' r' := by
  subst hi
  obtain ⟨h1, h2, h3, h4, h5, mx, h6, h7⟩ := hR
  refine ⟨⟨?_, ?_, ?_, fun c hc => ⟨?_, ?_⟩⟩, fun k hk => ?_, fun k hk => ?_, fun c hc f hf => ?_, fun c hc => ?_, mx, ⟨fun j hj => ⟨?_, (h6.1 j hj).2⟩, h6.2⟩, h7.1, ?_, fun j x hx => ?_⟩
  · rw [hr S (by omega)]; exact h1.1
  · rw [hr S (by omega)]; exact h1.2.1
  · rw [hr S (by omega)]; exact h1.2.2.1
  · rw [hr _ (by omega)]; exact (h1.2.2.2 c hc).1
  · rw [hr _ (by omega)]; exact (h1.2.2.2 c hc).2
  · rw [ups_a (by omega)]; exact h2 k hk
  · rw [ups_a (by omega)]; exact h3 k hk
  · by_cases e : c = h
    · subst e
      by_cases e2 : f = 3
      · subst e2; rw [ups_s]; exact ups_s.symm
      · rw [ups_k e2]; exact (h4 c hc f hf).trans (ups_k e2).symm
    · rw [ups_a (by omega)]; exact (h4 c hc f hf).trans (ups_a e).symm
  · by_cases e : c = h
    · subst e
      refine ⟨ups_s.trans ?_, ?_, ?_⟩
      · show nI q.length = nI (up1 m.2.2.2.1 c q c).length
        rw [up1_s]
      · show (up1 m.2.2.2.1 c q c).length ≤ 80
        rw [up1_s]; exact hl
      · intro c2 a ha
        have ha : (up1 m.2.2.2.1 c q c)[c2]? = some a := ha
        rw [up1_s] at ha
        exact hq c2 a ha
    · refine ⟨?_, ?_, ?_⟩
      · show ups m.2.2.1 h 3 _ c 3 = nI (up1 m.2.2.2.1 h q c).length
        rw [ups_a e, up1_n e]; exact (h5 c hc).1
      · show (up1 m.2.2.2.1 h q c).length ≤ 80
        rw [up1_n e]; exact (h5 c hc).2.1
      · intro c2 a ha
        have ha : (up1 m.2.2.2.1 h q c)[c2]? = some a := ha
        rw [up1_n e] at ha
        rw [hr _ (by omega)]; exact (h5 c hc).2.2 c2 a ha
  · rw [hr _ (by omega)]; exact (h6.1 j hj).1
  · rw [ups_a (by omega)]; exact h7.2.1
  · have hx : m.2.2.2.2[j]? = some x := hx
    have hj : j < 141 := by
      have := (List.getElem?_eq_some_iff.mp hx).1
      have := h7.1
      omega
    obtain ⟨-, g1, g2⟩ := h6.1 j hj
    exact ⟨fun f hf => by rw [ups_a (by omega)]; exact (h7.2.2 j x hx).1 f hf, by rw [hr _ (by omega)]; exact (h7.2.2 j x hx).2⟩
theorem StL.not0 {G : GG} {n S a : Nat} (hL : StL G n S) (ha : Ok G n a 0) : a < S ∨ S + 157 ≤ a := by
  rcases Nat.lt_or_ge a S with h | h
  · exact Or.inl h
  · rcases Nat.lt_or_ge a (S + 157) with h2 | h2
    · exfalso
      have ht := ha.2.2
      by_cases e0 : a = S
      · rw [e0, hL.s.2.2] at ht; omega
      by_cases e1 : a = S + 1
      · rw [e1, hL.w.ok.2.2] at ht; omega
      by_cases e2 : a = S + 2
      · rw [e2, hL.hs.ok.2.2] at ht; omega
      by_cases e3 : a = S + 3
      · rw [e3, hL.ms.ok.2.2] at ht; omega
      by_cases e4 : a < S + 16
      · obtain ⟨q, hq, e5⟩ : ∃ q, q < 6 ∧ (a = S + 4 + 2 * q ∨ a = S + 5 + 2 * q) := ⟨(a - S - 4) / 2, by omega, by omega⟩
        rcases e5 with e5 | e5
        · rw [e5, (hL.ho hq).2.2] at ht; omega
        · rw [e5, (hL.li hq).ok.2.2] at ht; omega
      · rw [(hL.me (by omega) h2).2.2] at ht; omega
    · exact Or.inr h2
theorem Kid.same {r r' : RP} {q : List Nat} {o : Option Nat} (h : Kid r o q) (hs : ∀ b ∈ q, r' b = r b) : Kid r' o q := by
  induction q generalizing o with
  | nil => exact h
  | cons b q ih =>
    obtain ⟨h1, h2⟩ := h
    refine ⟨h1, ?_⟩
    rw [hs b List.mem_cons_self]
    exact ih h2 (fun c hc => hs c (List.mem_cons_of_mem _ hc))
theorem RepE.same {G : GG} {n : Nat} {E : EE} {Gd : Nat → Prop} {i i' : IP} {r r' : RP} (h : RepE G n E Gd i r) (hs : ∀ a, Gd a → i' a = i a ∧ r' a = r a) : RepE G n E Gd i' r' := by
  intro a ha
  obtain ⟨g1, g2, g3, g4, g5, g6, g7, g8, g9⟩ := h a ha
  refine ⟨g1, g2, ?_, ?_, ?_, ?_, ?_, g8, g9⟩
  · rw [(hs a ha).1]; exact g3
  · rw [(hs a ha).1]; exact g4
  · rw [(hs a ha).1]; exact g5
  · rw [(hs a ha).1]; exact g6
  · rw [(hs a ha).2]; exact g7.same (fun b hb => (hs b (g8 b hb).1).2)
theorem RepE.out {G : GG} {n S : Nat} {E : EE} {Gd : Nat → Prop} {i i' : IP} {r r' : RP} (h : RepE G n E Gd i r) (hL : StL G n S) (ho : Out S i r i' r') : RepE G n E Gd i' r' := h.same (fun a ha => ho a (hL.not0 (h a ha).1))
/-- a message in order -/
def MgOk (Gd : Nat → Prop) (x : Mg) : Prop := ∃ f t : Nat, f < 7 ∧ t < 7 ∧ x.1 1 = nI f ∧ x.1 2 = nI t ∧ ((x.1 0 = 0 ∧ t < 6 ∧ ∃ a, x.2 = some a ∧ Gd a) ∨ (x.1 0 = 1 ∧ f < 6 ∧ x.2 = none) ∨ (x.1 0 = 2 ∧ t < 6 ∧ x.2 = none) ∨ (x.1 0 = 3 ∧ f < 6 ∧ x.2 = none))
section STATE2
variable {l : Launch} {G : GG} {n : Nat} {i : IP} {r : RP} {S : Nat} {m : MS} {E : EE} {Gd : Nat → Prop}
theorem c_house1 {h : Nat} (hh : h < 6) : Go l G mX5_isHouse 0 0 0 0 (lentry [.int (nI h)] 1) [] n i r (RetI 1 n i r) := by
  have := c_isHouse (l := l) (G := G) (n := n) (i := i) (r := r) (nI h)
  have h6 : nI h < 6 := nI_lt (b := 6) hh (by omega)
  rw [decide_eq_true (nI_pos' (show h < 2 ^ 31 by omega)), decide_eq_true h6] at this
  exact this
theorem c_isOn {k : Nat} (hL : StL G n S) (hR : Rep S m i r) {x : Int32} : Go l G mX4_isOnItsWay 0 0 0 0 (lentry [.ref S, .int x] 2) [] n i r (RetI (if 0 ≤ x ∧ x < nI m.2.2.2.2.length then 1 else 0) n i r) := by
  obtain ⟨h1, h2, h3, h4, h5, mx, hX, hlen, h6, hM⟩ := hR
  have hs := hL.s
  have hmm := hL.ms
  have e5 := h1.2.2.1
  refine go_iload_n (z := 1) dX4_isOnItsWay_0 rfl rfl ?_
  refine go_if_lt (z := 25) (z2 := 4) dX4_isOnItsWay_1 rfl (by decide) (fun h => ?_) (fun h => ?_)
  · rw [if_neg (fun q => absurd h (Int32.not_lt.mpr q.1))]
    refine go_iconst (z := 26) (v := 0) dX4_isOnItsWay_25 rfl (by decide) ?_
    refine go_zret dX4_isOnItsWay_26 rfl (congrArg Value.int (by decide)) ?_
    exact ret_ok
  · refine go_iload_n (z := 5) dX4_isOnItsWay_4 rfl rfl ?_
    refine go_aload_n (z := 6) dX4_isOnItsWay_5 rfl rfl ?_
    refine go_getI (z := 9) dX4_isOnItsWay_6 rfl fX4_51 (by assumption) rfl ?_
    refine go_icmp_ge (z := 25) (z2 := 12) dX4_isOnItsWay_9 rfl (by decide) (fun h2 => ?_) (fun h2 => ?_)
    · rw [h6] at h2
      rw [if_neg (fun q => absurd q.2 (Int32.not_lt.mpr h2))]
      refine go_iconst (z := 26) (v := 0) dX4_isOnItsWay_25 rfl (by decide) ?_
      refine go_zret dX4_isOnItsWay_26 rfl (congrArg Value.int (by decide)) ?_
      exact ret_ok
    · rw [h6] at h2
      refine go_iload_n (z := 13) dX4_isOnItsWay_12 rfl rfl ?_
      refine go_aload_n (z := 14) dX4_isOnItsWay_13 rfl rfl ?_
      refine go_getR (z := 17) dX4_isOnItsWay_14 rfl fX4_30 (by assumption) rfl (by assumption) ?_
      refine go_alen (z := 18) (by assumption) (by decide) dX4_isOnItsWay_17 rfl ?_
      refine go_icmp_ge (z := 25) (z2 := 21) dX4_isOnItsWay_18 rfl (by decide) (fun h3 => ?_) (fun h3 => ?_)
      · exact absurd (Int32.le_trans (nI_le hlen (by omega)) h3) h2
      · rw [if_pos ⟨Int32.not_lt.mp h, Int32.not_le.mp h2⟩]
        refine go_iconst (z := 22) (v := 1) dX4_isOnItsWay_21 rfl (by decide) ?_
        refine go_goto (z := 26) dX4_isOnItsWay_22 (by decide) ?_
        refine go_zret dX4_isOnItsWay_26 rfl (congrArg Value.int (by decide)) ?_
        exact ret_ok
theorem c_isOn1 {k : Nat} (hL : StL G n S) (hR : Rep S m i r) (hk : k < m.2.2.2.2.length) : Go l G mX4_isOnItsWay 0 0 0 0 (lentry [.ref S, .int (nI k)] 2) [] n i r (RetI 1 n i r) := by
  have := c_isOn (k := 0) (l := l) hL hR (x := nI k)
  obtain ⟨-, -, -, -, -, -, -, hlen, -⟩ := hR
  rw [if_pos ⟨nI_pos' (by omega), nI_lt hk (by omega)⟩] at this
  exact this
theorem c_takeOut {k : Nat} (hL : StL G n S) (hR : Rep S m i r) (hk : k < m.2.2.2.2.length) : Go l G mX4_takeOut 1 0 0 0 (lentry [.ref S, .int (nI k)] 4) [] n i r (Chg n S i r (mOut k m)) := by
  have hR0 := hR
  have hon := c_isOn1 (l := l) hL hR hk
  obtain ⟨h1, h2, h3, h4, h5, mx, hX, hlen, h6, hM⟩ := hR
  have hms0 : ∃ ms, ms = m.2.2.2.2 := ⟨_, rfl⟩
  obtain ⟨ms, hms⟩ := hms0
  rw [← hms] at hk hlen h6 hM
  have hs := hL.s
  have hmm := hL.ms
  have e5 := h1.2.2.1
  refine go_aload_n (z := 1) dX4_takeOut_0 rfl rfl ?_
  refine go_iload_n (z := 2) dX4_takeOut_1 rfl rfl ?_
  refine go_callV (z := 5) (t := 4) [.int (nI k)] dX4_takeOut_2 rfl mlX4_isOnItsWay vX4_123 ⟨by decide, rfl⟩ (by assumption) rfl rfl (by decide) (cat_i cat_nil) (by simp) (by decide) (by first | decide | omega) (by first | decide | omega) (hon) ?_
  refine ret_elim ?_
  refine go_if_ne (z := 9) (z2 := 8) dX4_takeOut_5 rfl (by decide) (fun _ => ?_) (fun h => absurd h (by decide))
  have hxk := hX.1 k (by omega)
  have hrk := hxk.1
  refine go_aload_n (z := 10) dX4_takeOut_9 rfl rfl ?_
  refine go_getR (z := 13) dX4_takeOut_10 rfl fX4_30 (by assumption) rfl (by assumption) ?_
  refine go_iload_n (z := 14) dX4_takeOut_13 rfl rfl ?_
  refine go_aaldR (z := 15) k (by assumption) ⟨by decide, by decide⟩ (by decide) rfl (by omega) (by assumption) dX4_takeOut_14 rfl ?_
  refine go_astore_n (z := 16) dX4_takeOut_15 rfl (by decide) ?_
  refine go_iload_n (z := 17) dX4_takeOut_16 rfl rfl ?_
  refine go_istore_n (z := 18) dX4_takeOut_17 rfl (by decide) ?_
  have loop : ∀ d c (r2 : RP), c + 1 + d = ms.length → k ≤ c → (∀ a, a ≠ S + 3 → r2 a = r a) → (∀ j, j < k → r2 (S + 3) j = r (S + 3) j) → (∀ j, k ≤ j → j < c → r2 (S + 3) j = r (S + 3) (j + 1)) → (∀ j, c ≤ j → r2 (S + 3) j = r (S + 3) j) → Go l G mX4_takeOut 1 0 0 18 [some (.ref S), some (.int (nI k)), some (.ref (mx k)), some (.int (nI c))] [] n i r2 (Chg n S i r (mOut k m)) := by
    intro d
    induction d with
    | zero =>
      intro c r2 hc hkc g1 g2 g3 g4
      have e5' : r2 S 5 = some (S + 3) := by rw [g1 S (by omega)]; exact e5
      refine go_iload_n (z := 19) dX4_takeOut_18 rfl rfl ?_
      refine go_iconst (z := 20) (v := 1) dX4_takeOut_19 rfl (by decide) ?_
      refine go_iadd (z := 21) dX4_takeOut_20 rfl ?_
      refine go_aload_n (z := 22) dX4_takeOut_21 rfl rfl ?_
      refine go_getI (z := 25) dX4_takeOut_22 rfl fX4_51 (by assumption) rfl ?_
      refine go_icmp_ge (z := 48) (z2 := 28) dX4_takeOut_25 rfl (by decide) (fun _ => ?_) (fun h => ?_)
      · have hlast : ups i S 6 (i S 6 - 1) S 6 = nI (ms.length - 1) := by rw [ups_s, h6]; exact pk_sub (b := 1) (by omega)
        have key := Rep.reM (i' := ups i S 6 (i S 6 - 1)) (r' := ups r2 (S + 3) (ms.length - 1) (some (mx k))) hR0 hX (fun j => if j < k then j else if j + 1 < ms.length then j + 1 else if j + 1 = ms.length then k else j) (ms.eraseIdx k) (fun j hj => by split <;> (try split) <;> (try split) <;> omega) (fun a b ha hb hab => by split at hab <;> split at hab <;> (try split at hab) <;> (try split at hab) <;> (try split at hab) <;> (try split at hab) <;> omega) ?_ ?_ ?_ ?_ ?_ ?_
        · refine go_aload_n (z := 49) dX4_takeOut_48 rfl rfl ?_
          refine go_dup (z := 50) dX4_takeOut_49 rfl rfl ?_
          refine go_getI (z := 53) dX4_takeOut_50 rfl fX4_51 (by assumption) rfl ?_
          refine go_iconst (z := 54) (v := 1) dX4_takeOut_53 rfl (by decide) ?_
          refine go_isub (z := 55) dX4_takeOut_54 rfl ?_
          refine go_putI (z := 58) dX4_takeOut_55 rfl fX4_51 (by assumption) rfl (Or.inl rfl) rfl ?_
          refine go_aload_n (z := 59) dX4_takeOut_58 rfl rfl ?_
          refine go_getR (z := 62) dX4_takeOut_59 rfl fX4_30 (by assumption) rfl (by assumption) ?_
          refine go_aload_n (z := 63) dX4_takeOut_62 rfl rfl ?_
          refine go_getI (z := 66) dX4_takeOut_63 rfl fX4_51 (by assumption) rfl ?_
          refine go_aload_n (z := 67) dX4_takeOut_66 rfl rfl ?_
          refine go_aastR (z := 68) (ms.length - 1) (by assumption) ⟨by decide, by decide⟩ (by decide) hlast (by omega) (hL.me hxk.2.1 hxk.2.2) (by decide) rfl dX4_takeOut_67 rfl ?_
          refine go_vret dX4_takeOut_68 rfl ⟨rfl, rfl, ?_, key.2⟩
          have hm : mOut k m = sM m (ms.eraseIdx k) := by unfold mOut; rw [← hms]
          rw [hm]
          exact key.1
        · intro j hj
          by_cases a1 : j = ms.length - 1
          · subst a1
            rw [ups_s, if_neg (by omega), if_neg (by omega), if_pos (by omega)]
          · rw [ups_k a1]
            by_cases a2 : j < k
            · rw [if_pos a2, g2 j a2]; exact (hX.1 j hj).1
            · rw [if_neg a2]
              by_cases a3 : j + 1 < ms.length
              · rw [if_pos a3, g3 j (by omega) (by omega)]; exact (hX.1 _ (by omega)).1
              · rw [if_neg a3, if_neg (by omega), g4 j (by omega)]; exact (hX.1 j hj).1
        · intro a ha ha2
          rw [ups_row ha2, g1 a ha2]
        · intro a q ha hac
          by_cases a1 : a = S
          · subst a1
            rw [ups_k (fun q => hac ⟨rfl, q⟩)]
          · rw [ups_a a1]
        · rw [hlast, List.length_eraseIdx_of_lt hk]
        · rw [List.length_eraseIdx_of_lt hk]; omega
        · intro j x hx
          rw [List.getElem?_eraseIdx] at hx
          have old : ∀ q, q < ms.length → ms[q]? = some x → (∀ f, f < 5 → ups i S 6 (i S 6 - 1) (mx q) f = x.1 f) ∧ ups r2 (S + 3) (ms.length - 1) (some (mx k)) (mx q) 5 = x.2 := by
            intro q hq hqx
            have hb := hX.1 q (by omega)
            exact ⟨fun f hf => by rw [ups_a (by omega)]; exact (hM q x hqx).1 f hf, by rw [ups_a (by omega), g1 _ (by omega)]; exact (hM q x hqx).2⟩
          by_cases a2 : j < k
          · rw [if_pos a2] at hx ⊢
            exact old j (by omega) hx
          · rw [if_neg a2] at hx ⊢
            have hj1 : j + 1 < ms.length := (List.getElem?_eq_some_iff.mp hx).1
            rw [if_pos hj1]
            exact old (j + 1) hj1 hx
      · exact absurd (by rw [h6, nI_1]; exact nI_le (by omega) (by omega)) h
    | succ d ih =>
      intro c r2 hc hkc g1 g2 g3 g4
      have e5' : r2 S 5 = some (S + 3) := by rw [g1 S (by omega)]; exact e5
      have hxc := hX.1 (c + 1) (by omega)
      have hrc : r2 (S + 3) (c + 1) = some (mx (c + 1)) := by rw [g4 _ (by omega)]; exact hxc.1
      have hMc := hL.me hxc.2.1 hxc.2.2
      refine go_iload_n (z := 19) dX4_takeOut_18 rfl rfl ?_
      refine go_iconst (z := 20) (v := 1) dX4_takeOut_19 rfl (by decide) ?_
      refine go_iadd (z := 21) dX4_takeOut_20 rfl ?_
      refine go_aload_n (z := 22) dX4_takeOut_21 rfl rfl ?_
      refine go_getI (z := 25) dX4_takeOut_22 rfl fX4_51 (by assumption) rfl ?_
      refine go_icmp_ge (z := 48) (z2 := 28) dX4_takeOut_25 rfl (by decide) (fun h => ?_) (fun _ => ?_)
      · exact absurd h (by rw [h6, nI_1]; exact nI_ge (by omega) (by omega))
      · refine go_aload_n (z := 29) dX4_takeOut_28 rfl rfl ?_
        refine go_getR (z := 32) dX4_takeOut_29 rfl fX4_30 (by assumption) rfl (by assumption) ?_
        refine go_iload_n (z := 33) dX4_takeOut_32 rfl rfl ?_
        refine go_aload_n (z := 34) dX4_takeOut_33 rfl rfl ?_
        refine go_getR (z := 37) dX4_takeOut_34 rfl fX4_30 (by assumption) rfl (by assumption) ?_
        refine go_iload_n (z := 38) dX4_takeOut_37 rfl rfl ?_
        refine go_iconst (z := 39) (v := 1) dX4_takeOut_38 rfl (by decide) ?_
        refine go_iadd (z := 40) dX4_takeOut_39 rfl ?_
        refine go_aaldR (z := 41) (c + 1) (by assumption) ⟨by decide, by decide⟩ (by decide) (nI_1 c) (by omega) (by assumption) dX4_takeOut_40 rfl ?_
        refine go_aastR (z := 42) _ (by assumption) ⟨by decide, by decide⟩ (by decide) rfl (by omega) hMc (by decide) rfl dX4_takeOut_41 rfl ?_
        refine go_iinc (z := 45) dX4_takeOut_42 rfl rfl (nI_1 c) (by decide) ?_
        refine go_goto (z := 18) dX4_takeOut_45 (by decide) ?_
        refine go_lo (lo' := [some (.ref S), some (.int (nI k)), some (.ref (mx k)), some (.int (nI (c + 1)))]) rfl (ih (c + 1) _ (by omega) (by omega) (fun a ha => (ups_row ha).trans (g1 a ha)) (fun j hj => (ups_k (by omega)).trans (g2 j hj)) (fun j hj1 hj2 => ?_) (fun j hj => (ups_k (by omega)).trans (g4 j (by omega))))
        by_cases a1 : j = c
        · subst a1; rw [ups_s]; exact hxc.1.symm
        · exact (ups_k a1).trans (g3 j hj1 (by omega))
  exact go_lo (lo' := [some (.ref S), some (.int (nI k)), some (.ref (mx k)), some (.int (nI k))]) rfl (loop (ms.length - 1 - k) k r (by omega) (Nat.le_refl _) (fun _ _ => rfl) (fun _ _ => rfl) (fun j a b => absurd b (by omega)) (fun _ _ => rfl))
theorem c_mint (hL : StL G n S) (hR : Rep S m i r) : Go l G mX4_mint 0 0 0 0 (lentry [.ref S] 2) [] n i r (ChgI (coin m) n S i r (mMint m)) := by
  have hs := hL.s
  have hz1 : i S 1 = m.1 1 := hR.2.1 1 (by omega)
  have hz7 : i S 7 = m.1 7 := hR.2.1 7 (by omega)
  have hz11 : i S 11 = m.1 11 := hR.2.1 11 (by omega)
  refine go_iconst (z := 1) (v := 1) dX4_mint_0 rfl (by decide) ?_
  refine go_aload_n (z := 2) dX4_mint_1 rfl rfl ?_
  refine go_getI (z := 5) dX4_mint_2 rfl fX4_9 (by assumption) rfl ?_
  refine go_ishl (z := 6) dX4_mint_5 rfl rfl ?_
  refine go_istore_n (z := 7) dX4_mint_6 rfl (by decide) ?_
  refine go_aload_n (z := 8) dX4_mint_7 rfl rfl ?_
  refine go_dup (z := 9) dX4_mint_8 rfl rfl ?_
  refine go_getI (z := 12) dX4_mint_9 rfl fX4_57 (by assumption) rfl ?_
  refine go_iload_n (z := 13) dX4_mint_12 rfl rfl ?_
  refine go_iadd (z := 14) dX4_mint_13 rfl ?_
  refine go_putI (z := 17) dX4_mint_14 rfl fX4_57 (by assumption) rfl (Or.inl rfl) rfl ?_
  refine go_aload_n (z := 18) dX4_mint_17 rfl rfl ?_
  refine go_dup (z := 19) dX4_mint_18 rfl rfl ?_
  refine go_getI (z := 22) dX4_mint_19 rfl fX4_69 (by assumption) rfl ?_
  refine go_iconst (z := 23) (v := 1) dX4_mint_22 rfl (by decide) ?_
  refine go_iadd (z := 24) dX4_mint_23 rfl ?_
  refine go_putI (z := 27) dX4_mint_24 rfl fX4_69 (by assumption) rfl (Or.inl rfl) rfl ?_
  refine go_iload_n (z := 28) dX4_mint_27 rfl rfl ?_
  refine go_iret dX4_mint_28 rfl ?_
  have e2 : ups i S 7 (i S 7 + 1 <<< (i S 1 &&& 31)) S 11 = i S 11 := ups_k (by omega)
  rw [e2, hz1, hz7, hz11]
  exact ⟨rfl, rfl, (hR.putZ _ (by omega)).putZ _ (by omega), (Out.pi (by omega) (by omega)).tr (Out.pi (by omega) (by omega))⟩
theorem c_loseAskOf {h : Nat} (hh : h < 6) (hL : StL G n S) (hR : Rep S m i r) : Go l G mX4_loseAskOf 1 0 0 0 (lentry [.ref S, .int (nI h)] 2) [] n i r (Chg n S i r (sH m h 5 1)) := by
  have hs := hL.s
  have hhs := hL.hs
  have e4 := hR.1.2.1
  have eh := (hR.1.2.2.2 h hh).1
  have hho := hL.ho hh
  refine go_iload_n (z := 1) dX4_loseAskOf_0 rfl rfl ?_
  refine go_callSN (z := 4) [.int (nI h)] dX4_loseAskOf_1 rfl mlX5_isHouse sX4_134 rfl rfl (by decide) (cat_i cat_nil) (by simp) (by decide) (by first | decide | omega) (by first | decide | omega) (c_house1 hh) ?_
  refine ret_elim ?_
  refine go_if_eq (z := 17) (z2 := 7) dX4_loseAskOf_4 rfl (by decide) (fun h => absurd h (by decide)) (fun _ => ?_)
  refine go_aload_n (z := 8) dX4_loseAskOf_7 rfl rfl ?_
  refine go_getR (z := 11) dX4_loseAskOf_8 rfl fX4_24 (by assumption) rfl (by assumption) ?_
  refine go_iload_n (z := 12) dX4_loseAskOf_11 rfl rfl ?_
  refine go_aaldR (z := 13) _ (by assumption) ⟨by decide, by decide⟩ (by decide) rfl (by omega) (by assumption) dX4_loseAskOf_12 rfl ?_
  refine go_iconst (z := 14) (v := 1) dX4_loseAskOf_13 rfl (by decide) ?_
  refine go_putI (z := 17) dX4_loseAskOf_14 rfl fX4_137 (by assumption) rfl (Or.inl rfl) (congrArg Value.int (by decide)) ?_
  refine go_vret dX4_loseAskOf_17 rfl ?_
  exact ⟨rfl, rfl, hR.putH _ hh (by omega), Out.pi (by omega) (by omega)⟩
theorem c_countArriving (hL : StL G n S) (hR : Rep S m i r) : Go l G mX4_countArriving 0 0 0 0 (lentry [.ref S] 2) [] n i r (RetI (nI (cntA (m.1 0) m.2.2.2.2)) n i r) := by
  have hz0 : i S 0 = m.1 0 := hR.2.1 0 (by omega)
  obtain ⟨h1, h2, h3, h4, h5, mx, hX, hlen, h6, hM⟩ := hR
  generalize m.2.2.2.2 = ms at hlen h6 hM ⊢
  have hs := hL.s
  have hmm := hL.ms
  have e5 := h1.2.2.1
  have tw : ∀ (c : Nat) (p : Mg → Bool), (∀ j x, j < c → ms[j]? = some x → p x = true) → (∀ x, ms[c]? = some x → p x = false) → c ≤ ms.length → (ms.takeWhile p).length = c := by
    intro c p
    clear hM h6 hlen
    induction c generalizing ms with
    | zero =>
      intro _ h _
      cases ms with
      | nil => rfl
      | cons x t => rw [List.takeWhile_cons, h x rfl]; rfl
    | succ c ih =>
      intro h h2 h3
      cases ms with
      | nil => simp at h3
      | cons x t =>
        rw [List.takeWhile_cons, h 0 x (by omega) rfl]
        simp only [if_true, List.length_cons]
        rw [ih t (fun j y hj hy => h (j + 1) y (by omega) hy) (fun y hy => h2 y hy) (by simpa using h3)]
  refine go_iconst (z := 1) (v := 0) dX4_countArriving_0 rfl (by decide) ?_
  refine go_istore_n (z := 2) dX4_countArriving_1 rfl (by decide) ?_
  have loop : ∀ d c, c + d = ms.length → (∀ j x, j < c → ms[j]? = some x → decide (x.1 4 ≤ m.1 0) = true) → Go l G mX4_countArriving 0 0 0 2 [some (.ref S), some (.int (nI c))] [] n i r (RetI (nI (cntA (m.1 0) ms)) n i r) := by
    intro d
    induction d with
    | zero =>
      intro c hc hp
      refine go_iload_n (z := 3) dX4_countArriving_2 rfl rfl ?_
      refine go_aload_n (z := 4) dX4_countArriving_3 rfl rfl ?_
      refine go_getI (z := 7) dX4_countArriving_4 rfl fX4_51 (by assumption) rfl ?_
      refine go_icmp_ge (z := 43) (z2 := 10) dX4_countArriving_7 rfl (by decide) (fun _ => ?_) (fun h => ?_)
      · refine go_aload_n (z := 44) dX4_countArriving_43 rfl rfl ?_
        refine go_getI (z := 47) dX4_countArriving_44 rfl fX4_51 (by assumption) rfl ?_
        refine go_iret dX4_countArriving_47 rfl ?_
        rw [h6]
        unfold cntA
        rw [tw ms.length _ (fun j x hj hx => hp j x (by omega) hx) (fun x hx => by simp at hx) (Nat.le_refl _)]
        exact ret_ok
      · exact absurd (by rw [h6]; exact nI_le (by omega) (by omega)) h
    | succ d ih =>
      intro c hc hp
      have hxc := hX.1 c (by omega)
      have hrc := hxc.1
      have hMc := hL.me hxc.2.1 hxc.2.2
      obtain ⟨x, hx⟩ : ∃ x, ms[c]? = some x := ⟨ms[c], List.getElem?_eq_getElem (by omega)⟩
      refine go_iload_n (z := 3) dX4_countArriving_2 rfl rfl ?_
      refine go_aload_n (z := 4) dX4_countArriving_3 rfl rfl ?_
      refine go_getI (z := 7) dX4_countArriving_4 rfl fX4_51 (by assumption) rfl ?_
      refine go_icmp_ge (z := 43) (z2 := 10) dX4_countArriving_7 rfl (by decide) (fun h => ?_) (fun _ => ?_)
      · exact absurd h (by rw [h6]; exact nI_ge (by omega) (by omega))
      · refine go_iload_n (z := 11) dX4_countArriving_10 rfl rfl ?_
        refine go_aload_n (z := 12) dX4_countArriving_11 rfl rfl ?_
        refine go_getR (z := 15) dX4_countArriving_12 rfl fX4_30 (by assumption) rfl (by assumption) ?_
        refine go_alen (z := 16) (by assumption) (by decide) dX4_countArriving_15 rfl ?_
        refine go_icmp_ge (z := 43) (z2 := 19) dX4_countArriving_16 rfl (by decide) (fun h => ?_) (fun _ => ?_)
        · exact absurd h (nI_ge (by omega) (by omega))
        · refine go_aload_n (z := 20) dX4_countArriving_19 rfl rfl ?_
          refine go_getR (z := 23) dX4_countArriving_20 rfl fX4_30 (by assumption) rfl (by assumption) ?_
          refine go_iload_n (z := 24) dX4_countArriving_23 rfl rfl ?_
          refine go_aaldR (z := 25) c (by assumption) ⟨by decide, by decide⟩ (by decide) rfl (by omega) (by assumption) dX4_countArriving_24 rfl ?_
          refine go_getI (z := 28) dX4_countArriving_25 rfl fX4_116 hMc rfl ?_
          refine go_aload_n (z := 29) dX4_countArriving_28 rfl rfl ?_
          refine go_getI (z := 32) dX4_countArriving_29 rfl fX4_40 (by assumption) rfl ?_
          refine go_icmp_le (z := 37) (z2 := 35) dX4_countArriving_32 rfl (by decide) (fun h => ?_) (fun h => ?_)
          · rw [(hM c x hx).1 4 (by omega), hz0] at h
            refine go_iinc (z := 40) dX4_countArriving_37 rfl rfl (nI_1 c) (by decide) ?_
            refine go_goto (z := 2) dX4_countArriving_40 (by decide) ?_
            refine go_lo (lo' := [some (.ref S), some (.int (nI (c + 1)))]) rfl (ih (c + 1) (by omega) (fun j y hj hy => ?_))
            by_cases a1 : j = c
            · subst a1; rw [hx] at hy; cases hy; exact decide_eq_true h
            · exact hp j y (by omega) hy
          · rw [(hM c x hx).1 4 (by omega), hz0] at h
            refine go_iload_n (z := 36) dX4_countArriving_35 rfl rfl ?_
            refine go_iret dX4_countArriving_36 rfl ?_
            unfold cntA
            rw [tw c _ hp (fun y hy => by rw [hx] at hy; cases hy; exact decide_eq_false h) (by omega)]
            exact ret_ok
  exact go_lo (lo' := [some (.ref S), some (.int (nI 0))]) rfl (loop ms.length 0 (by omega) (fun j x hj => absurd hj (Nat.not_lt_zero j)))
end STATE2
end
section
theorem ins_len (x : Mg) (ms : List Mg) : (ins x ms).length = ms.length + 1 := by
  have := insPos_le (lA ms) (x.1 4) ms.length
  unfold ins
  simp only [List.length_append, List.length_take, List.length_cons, List.length_drop]
  omega
theorem mPost_q (m : MS) (k : Int32) (f t : Nat) (g : Int32) (e : Option Nat) : (mPost m k f t g e).2.2.2.1 = m.2.2.2.1 := rfl
theorem mPost_len (m : MS) (k : Int32) (f t : Nat) (g : Int32) (e : Option Nat) : (mPost m k f t g e).2.2.2.2.length = m.2.2.2.2.length + 1 := ins_len _ _
section STATE3
variable {l : Launch} {G : GG} {n : Nat} {i : IP} {r : RP} {S : Nat} {m : MS} {E : EE} {Gd : Nat → Prop}
theorem c_waiting0 {h a : Nat} {q : List Nat} (hh : h < 6) (hL : StL G n S) (hR : Rep S m i r) (hq : m.2.2.2.1 h = a :: q) : Go l G mX1_waitingAt 0 0 0 0 (lentry [.ref (S + 4 + 2 * h), .int 0] 2) [] n i r (Ret (some (.ref a)) n i r) := by
  have h5 := hR.2.2.2.2.1 h hh
  have hw := c_House_waitingAt (l := l) (i := i) (hL.ho hh) (hL.li hh) (hR.1.2.2.2 h hh).2 ((hR.2.2.2.1 h hh 3 (by omega)).trans h5.1) h5.2.1 (x := 0)
  have h0 : r (S + 5 + 2 * h) 0 = some a := h5.2.2 0 a (by rw [hq]; rfl)
  have hlen : 0 < (m.2.2.2.1 h).length := by rw [hq]; simp
  rw [if_pos ⟨by decide, nI_lt (a := 0) hlen (by have := h5.2.1; omega)⟩] at hw
  have e0 : (0 : Int32).toNatClampNeg = 0 := by decide
  rw [e0, h0] at hw
  exact hw
theorem c_sendFirst {h a : Nat} {q : List Nat} (hh : h < 6) (hL : StL G n S) (hR : Rep S m i r) (hE : RepE G n E Gd i r) (hq : m.2.2.2.1 h = a :: q) (hg : ∀ e ∈ m.2.2.2.1 h, Gd e) (hcap : m.2.2.2.2.length < 141) : Go l G mX4_sendFirst 1 0 0 0 (lentry [.ref S, .int (nI h), .ref (S + 4 + 2 * h)] 5) [] n i r (Chg n S i r (mSendF E h m)) := by
  have hho := hL.ho hh
  have hli := hL.li hh
  have e10 := (hR.1.2.2.2 h hh).2
  have h5 := hR.2.2.2.2.1 h hh
  have hv : ∀ f, f < 10 → i (S + 4 + 2 * h) f = m.2.2.1 h f := hR.2.2.2.1 h hh
  have hga := hE a (hg a (by rw [hq]; exact List.mem_cons_self))
  have hoka := hga.1
  refine go_aload_n (z := 1) dX4_sendFirst_0 rfl rfl ?_
  refine go_iconst (z := 2) (v := 0) dX4_sendFirst_1 rfl (by decide) ?_
  refine go_callV (z := 5) (t := 1) [.int 0] dX4_sendFirst_2 rfl mlX1_waitingAt vX4_173 ⟨by decide, rfl⟩ (by assumption) rfl rfl (by decide) (cat_i cat_nil) (by simp) (by decide) (by first | decide | omega) (by first | decide | omega) (c_waiting0 hh hL hR hq) ?_
  refine ret_elim ?_
  refine go_astore_n (z := 6) dX4_sendFirst_5 rfl (by decide) ?_
  refine go_aload_n (z := 7) dX4_sendFirst_6 rfl rfl ?_
  refine go_ifnonnull (a := some a) (z := 11) (z2 := 10) dX4_sendFirst_7 rfl (by decide) (fun b hb => ?_) (fun h => by cases h)
  clear hb b
  refine go_aload_n (z := 12) dX4_sendFirst_11 rfl rfl ?_
  refine go_getI (z := 15) dX4_sendFirst_12 rfl fX4_158 (by assumption) rfl ?_
  refine go_iconst (z := 16) (v := 2) dX4_sendFirst_15 rfl (by decide) ?_
  refine go_idiv (z := 17) dX4_sendFirst_16 rfl (by decide) ?_
  refine go_istore (z := 19) dX4_sendFirst_17 rfl (by decide) ?_
  refine go_aload_n (z := 20) dX4_sendFirst_19 rfl rfl ?_
  refine go_dup (z := 21) dX4_sendFirst_20 rfl rfl ?_
  refine go_getI (z := 24) dX4_sendFirst_21 rfl fX4_158 (by assumption) rfl ?_
  refine go_iload (z := 26) dX4_sendFirst_24 rfl rfl ?_
  refine go_isub (z := 27) dX4_sendFirst_26 rfl ?_
  refine go_putI (z := 30) dX4_sendFirst_27 rfl fX4_158 (by assumption) rfl (Or.inl rfl) rfl ?_
  refine go_aload_n (z := 31) dX4_sendFirst_30 rfl rfl ?_
  refine go_dup (z := 32) dX4_sendFirst_31 rfl rfl ?_
  refine go_getI (z := 35) dX4_sendFirst_32 rfl fX4_177 (by assumption) rfl ?_
  refine go_iconst (z := 36) (v := 1) dX4_sendFirst_35 rfl (by decide) ?_
  refine go_iadd (z := 37) dX4_sendFirst_36 rfl ?_
  refine go_putI (z := 40) dX4_sendFirst_37 rfl fX4_177 (by assumption) rfl (Or.inl rfl) rfl ?_
  have e7 : ups i (S + 4 + 2 * h) 1 (i (S + 4 + 2 * h) 1 - i (S + 4 + 2 * h) 1 / 2) (S + 4 + 2 * h) 7 = m.2.2.1 h 7 := by rw [ups_k (by decide)]; exact hv 7 (by omega)
  rw [e7, hv 1 (by omega)]
  have hR1 := (hR.putH (k := 1) (m.2.2.1 h 1 - m.2.2.1 h 1 / 2) hh (by omega)).putH (k := 7) (m.2.2.1 h 7 + 1) hh (by omega)
  have hO1 : Out S i r (ups (ups i (S + 4 + 2 * h) 1 (m.2.2.1 h 1 - m.2.2.1 h 1 / 2)) (S + 4 + 2 * h) 7 (m.2.2.1 h 7 + 1)) r := (Out.pi (by omega) (by omega)).tr (Out.pi (by omega) (by omega))
  generalize ups (ups i (S + 4 + 2 * h) 1 (m.2.2.1 h 1 - m.2.2.1 h 1 / 2)) (S + 4 + 2 * h) 7 (m.2.2.1 h 7 + 1) = i1 at hR1 hO1 ⊢
  have hm1 : ∃ m1, m1 = sH (sH m h 1 (m.2.2.1 h 1 - m.2.2.1 h 1 / 2)) h 7 (m.2.2.1 h 7 + 1) := ⟨_, rfl⟩
  obtain ⟨m1, hm1⟩ := hm1
  rw [← hm1] at hR1
  have hq1 : m1.2.2.2.1 h = a :: q := by rw [hm1]; exact hq
  have h51 := hR1.2.2.2.2.1 h hh
  rw [hq1] at h51
  have hlen1 : (a :: q).length = q.length + 1 := rfl
  have hc1 : i1 (S + 4 + 2 * h) 3 = nI (q.length + 1) := (hR1.2.2.2.1 h hh 3 (by omega)).trans h51.1
  refine go_aload_n (z := 41) dX4_sendFirst_40 rfl rfl ?_
  refine go_callV (z := 44) (t := 1) [] dX4_sendFirst_41 rfl mlX1_removeFirst vX4_180 ⟨by decide, rfl⟩ (by assumption) rfl rfl (by decide) cat_nil (by simp) (by decide) (by first | decide | omega) (by first | decide | omega) (c_House_removeFirst hho hli e10 hc1 (by omega) (by have := h51.2.1; omega) (fun k hk => ⟨(a :: q)[k], h51.2.2 k _ (List.getElem?_eq_getElem (by simpa using hk)), (hE _ (hg _ (by rw [hq]; exact List.getElem_mem _))).1⟩)) ?_
  intro v n2 i2 r2 hpost
  obtain ⟨hv2, hn2, hi2, hr2, hk2⟩ := hpost
  subst v; subst n2
  have hR2 : Rep S (sQ m1 h q) i2 r2 := hR1.putQ hh (by have := h51.2.1; omega) (by rw [hi2, Nat.add_sub_cancel]) hr2 (fun c e he => by
    have hc : c < q.length := (List.getElem?_eq_some_iff.mp he).1
    rw [hk2 c (by omega)]
    exact h51.2.2 (c + 1) e (by rw [List.getElem?_cons_succ]; exact he))
  have hO2 : Out S i1 r i2 r2 := fun p hp => ⟨by rw [hi2]; exact ups_row (by omega), hr2 p (by omega)⟩
  have hE2 := (hE.out hL hO1).out hL hO2
  have hga2 := hE2 a (hg a (by rw [hq]; exact List.mem_cons_self))
  refine go_aload_n (z := 45) dX4_sendFirst_44 rfl rfl ?_
  refine go_iconst (z := 46) (v := 0) dX4_sendFirst_45 rfl (by decide) ?_
  refine go_iload_n (z := 47) dX4_sendFirst_46 rfl rfl ?_
  refine go_aload_n (z := 48) dX4_sendFirst_47 rfl rfl ?_
  refine go_getI (z := 51) dX4_sendFirst_48 rfl fX4_91 hoka rfl ?_
  refine go_iload (z := 53) dX4_sendFirst_51 rfl rfl ?_
  refine go_aload_n (z := 54) dX4_sendFirst_53 rfl rfl ?_
  refine go_st (st' := [.ref a, .int (m.2.2.1 h 1 / 2), .int (nI (E.1 a)), .int (nI h), .int 0, .ref S]) (by rw [hga2.2.2.1]; rfl) ?_
  refine go_callV (z := 57) (t := 4) [.int 0, .int (nI h), .int (nI (E.1 a)), .int (m.2.2.1 h 1 / 2), va_rf (some a)] dX4_sendFirst_54 rfl mlX4_post vX4_100 ⟨by decide, rfl⟩ hL.s rfl rfl (by decide) (cat_i (cat_i (cat_i (cat_i (cat_o cat_nil))))) (by simp) (by decide) (by first | decide | omega) (by first | decide | omega) (c_post (m := sQ m1 h q) hL hR2 (by omega) (by have := hga2.2.1; omega) (by rw [hm1]; exact hcap)) ?_
  refine chg_elim (fun i3 r3 hR3 hO3 => ?_)
  refine go_vret dX4_sendFirst_57 rfl ⟨rfl, rfl, ?_, (hO1.tr hO2).tr hO3⟩
  have : mSendF E h m = mPost (sQ m1 h q) 0 h (E.1 a) (m.2.2.1 h 1 / 2) (some a) := by unfold mSendF; rw [hq, hm1]
  rw [this]
  exact hR3
theorem mSendF_q {h a : Nat} {q : List Nat} (hq : m.2.2.2.1 h = a :: q) : (mSendF E h m).2.2.2.1 h = q := by
  unfold mSendF
  rw [hq]
  show up1 m.2.2.2.1 h q h = q
  exact up1_s
theorem mSendF_len {h a : Nat} {q : List Nat} (hq : m.2.2.2.1 h = a :: q) : (mSendF E h m).2.2.2.2.length = m.2.2.2.2.length + 1 := by
  unfold mSendF
  rw [hq]
  exact mPost_len _ _ _ _ _ _
theorem c_sendWhatItCan {h : Nat} (hh : h < 6) (hL : StL G n S) (hR : Rep S m i r) (hE : RepE G n E Gd i r) (hg : ∀ e ∈ m.2.2.2.1 h, Gd e) (hcap : m.2.2.2.2.length + (m.2.2.2.1 h).length ≤ 141) : Go l G mX4_sendWhatItCan 2 0 0 0 (lentry [.ref S, .int (nI h)] 4) [] n i r (Chg n S i r (mSend E h m)) := by
  have hs := hL.s
  have hho := hL.ho hh
  have hhs := hL.hs
  have e4 := hR.1.2.1
  have eh := (hR.1.2.2.2 h hh).1
  refine go_iload_n (z := 1) dX4_sendWhatItCan_0 rfl rfl ?_
  refine go_callSN (z := 4) [.int (nI h)] dX4_sendWhatItCan_1 rfl mlX5_isHouse sX4_134 rfl rfl (by decide) (cat_i cat_nil) (by simp) (by decide) (by first | decide | omega) (by first | decide | omega) (c_house1 hh) ?_
  refine ret_elim ?_
  refine go_if_ne (z := 8) (z2 := 7) dX4_sendWhatItCan_4 rfl (by decide) (fun _ => ?_) (fun h => absurd h (by decide))
  refine go_aload_n (z := 9) dX4_sendWhatItCan_8 rfl rfl ?_
  refine go_getR (z := 12) dX4_sendWhatItCan_9 rfl fX4_24 (by assumption) rfl (by assumption) ?_
  refine go_iload_n (z := 13) dX4_sendWhatItCan_12 rfl rfl ?_
  refine go_aaldR (z := 14) _ (by assumption) ⟨by decide, by decide⟩ (by decide) rfl (by omega) (by assumption) dX4_sendWhatItCan_13 rfl ?_
  refine go_astore_n (z := 15) dX4_sendWhatItCan_14 rfl (by decide) ?_
  refine go_aload_n (z := 16) dX4_sendWhatItCan_15 rfl rfl ?_
  refine go_getI (z := 19) dX4_sendWhatItCan_16 rfl fX4_163 (by assumption) rfl ?_
  refine go_istore_n (z := 20) dX4_sendWhatItCan_19 rfl (by decide) ?_
  have ask : ∀ (m' : MS) (i' : IP) (r' : RP) (c : Nat), Rep S m' i' r' → Out S i r i' r' → m'.2.2.2.2.length + (m'.2.2.2.1 h).length ≤ 141 → Go l G mX4_sendWhatItCan 2 0 0 49 [some (.ref S), some (.int (nI h)), some (.ref (S + 4 + 2 * h)), some (.int (nI c))] [] n i' r' (Chg n S i r (mAsk h m')) := by
    intro m' i' r' c hR' hO' hcap'
    have hv : ∀ f, f < 10 → i' (S + 4 + 2 * h) f = m'.2.2.1 h f := hR'.2.2.2.1 h hh
    have h5 := hR'.2.2.2.2.1 h hh
    refine go_aload_n (z := 50) dX4_sendWhatItCan_49 rfl rfl ?_
    refine go_getI (z := 53) dX4_sendWhatItCan_50 rfl fX4_163 (by assumption) rfl ?_
    refine go_if_le (z := 88) (z2 := 56) dX4_sendWhatItCan_53 rfl (by decide) (fun h1 => ?_) (fun h1 => ?_)
    · rw [hv 3 (by omega)] at h1
      refine go_vret dX4_sendWhatItCan_88 rfl ⟨rfl, rfl, ?_, hO'⟩
      unfold mAsk
      rw [if_neg (fun q => absurd q.1 (Int32.not_lt.mpr h1))]
      exact hR'
    · rw [hv 3 (by omega)] at h1
      refine go_aload_n (z := 57) dX4_sendWhatItCan_56 rfl rfl ?_
      refine go_getI (z := 60) dX4_sendWhatItCan_57 rfl fX4_140 (by assumption) rfl ?_
      refine go_if_ne (z := 88) (z2 := 63) dX4_sendWhatItCan_60 rfl (by decide) (fun h2 => ?_) (fun h2 => ?_)
      · rw [hv 4 (by omega)] at h2
        refine go_vret dX4_sendWhatItCan_88 rfl ⟨rfl, rfl, ?_, hO'⟩
        unfold mAsk
        rw [if_neg (fun q => absurd q.2 h2)]
        exact hR'
      · rw [hv 4 (by omega)] at h2
        have hne : 0 < (m'.2.2.2.1 h).length := by
          rcases Nat.eq_zero_or_pos (m'.2.2.2.1 h).length with z | z
          · rw [h5.1, z] at h1; exact absurd (by decide) h1
          · exact z
        refine go_aload_n (z := 64) dX4_sendWhatItCan_63 rfl rfl ?_
        refine go_iconst (z := 65) (v := 1) dX4_sendWhatItCan_64 rfl (by decide) ?_
        refine go_putI (z := 68) dX4_sendWhatItCan_65 rfl fX4_140 (by assumption) rfl (Or.inl rfl) (congrArg Value.int (by decide)) ?_
        refine go_aload_n (z := 69) dX4_sendWhatItCan_68 rfl rfl ?_
        refine go_dup (z := 70) dX4_sendWhatItCan_69 rfl rfl ?_
        refine go_getI (z := 73) dX4_sendWhatItCan_70 rfl fX4_170 (by assumption) rfl ?_
        refine go_iconst (z := 74) (v := 1) dX4_sendWhatItCan_73 rfl (by decide) ?_
        refine go_iadd (z := 75) dX4_sendWhatItCan_74 rfl ?_
        refine go_putI (z := 78) dX4_sendWhatItCan_75 rfl fX4_170 (by assumption) rfl (Or.inl rfl) rfl ?_
        refine go_aload_n (z := 79) dX4_sendWhatItCan_78 rfl rfl ?_
        refine go_iconst (z := 80) (v := 1) dX4_sendWhatItCan_79 rfl (by decide) ?_
        refine go_iload_n (z := 81) dX4_sendWhatItCan_80 rfl rfl ?_
        refine go_bipush (z := 83) (v := 6) dX4_sendWhatItCan_81 rfl (by decide) ?_
        refine go_iconst (z := 84) (v := 0) dX4_sendWhatItCan_83 rfl (by decide) ?_
        refine go_null (z := 85) dX4_sendWhatItCan_84 rfl ?_
        rw [show ups i' (S + 4 + 2 * h) 4 1 (S + 4 + 2 * h) 8 = m'.2.2.1 h 8 by rw [ups_k (by decide)]; exact hv 8 (by omega)]
        have hR2 := (hR'.putH (k := 4) 1 hh (by omega)).putH (k := 8) (m'.2.2.1 h 8 + 1) hh (by omega)
        have hO2 : Out S i' r' (ups (ups i' (S + 4 + 2 * h) 4 1) (S + 4 + 2 * h) 8 (m'.2.2.1 h 8 + 1)) r' := (Out.pi (by omega) (by omega)).tr (Out.pi (by omega) (by omega))
        refine go_callV (z := 88) (t := 4) [.int 1, .int (nI h), .int (nI 6), .int 0, va_rf none] dX4_sendWhatItCan_85 rfl mlX4_post vX4_100 ⟨by decide, rfl⟩ (by assumption) rfl rfl (by decide) (cat_i (cat_i (cat_i (cat_i (cat_o cat_nil))))) (by simp) (by decide) (by first | decide | omega) (by first | decide | omega) (c_post hL hR2 (by omega) (by omega) (by show m'.2.2.2.2.length < 141; omega)) ?_
        refine chg_elim (fun i3 r3 hR3 hO3 => ?_)
        refine go_vret dX4_sendWhatItCan_88 rfl ⟨rfl, rfl, ?_, (hO'.tr hO2).tr hO3⟩
        unfold mAsk
        rw [if_pos ⟨Int32.not_le.mp h1, h2⟩]
        exact hR3
  have loop : ∀ (c : Nat) (m' : MS) (i' : IP) (r' : RP), (m'.2.2.2.1 h).length = c → Rep S m' i' r' → Out S i r i' r' → (∀ e ∈ m'.2.2.2.1 h, Gd e) → m'.2.2.2.2.length + (m'.2.2.2.1 h).length ≤ 141 → Go l G mX4_sendWhatItCan 2 0 0 20 [some (.ref S), some (.int (nI h)), some (.ref (S + 4 + 2 * h)), some (.int (nI c))] [] n i' r' (Chg n S i r (mAsk h (mSendL E h c m'))) := by
    intro c
    induction c with
    | zero =>
      intro m' i' r' hc hR' hO' hg' hcap'
      refine go_iload_n (z := 21) dX4_sendWhatItCan_20 rfl rfl ?_
      refine go_if_le (z := 49) (z2 := 24) dX4_sendWhatItCan_21 rfl (by decide) (fun _ => ?_) (fun h => absurd (by decide) h)
      exact ask m' i' r' 0 hR' hO' hcap'
    | succ c ih =>
      intro m' i' r' hc hR' hO' hg' hcap'
      have hv : ∀ f, f < 10 → i' (S + 4 + 2 * h) f = m'.2.2.1 h f := hR'.2.2.2.1 h hh
      have h5 := hR'.2.2.2.2.1 h hh
      have hz2 : i' S 2 = m'.1 2 := hR'.2.1 2 (by omega)
      obtain ⟨a, q, hq⟩ : ∃ a q, m'.2.2.2.1 h = a :: q := by
        cases hcase : m'.2.2.2.1 h with
        | nil => rw [hcase] at hc; simp at hc
        | cons a q => exact ⟨a, q, rfl⟩
      have hql : q.length = c := by rw [hq] at hc; simpa using hc
      refine go_iload_n (z := 21) dX4_sendWhatItCan_20 rfl rfl ?_
      refine go_if_le (z := 49) (z2 := 24) dX4_sendWhatItCan_21 rfl (by decide) (fun h => absurd h (nI_nle (by omega) (by have := h5.2.1; omega))) (fun _ => ?_)
      refine go_aload_n (z := 25) dX4_sendWhatItCan_24 rfl rfl ?_
      refine go_getI (z := 28) dX4_sendWhatItCan_25 rfl fX4_158 (by assumption) rfl ?_
      refine go_iconst (z := 29) (v := 2) dX4_sendWhatItCan_28 rfl (by decide) ?_
      refine go_aload_n (z := 30) dX4_sendWhatItCan_29 rfl rfl ?_
      refine go_getI (z := 33) dX4_sendWhatItCan_30 rfl fX4_15 (by assumption) rfl ?_
      refine go_imul (z := 34) dX4_sendWhatItCan_33 rfl ?_
      refine go_icmp_lt (z := 49) (z2 := 37) dX4_sendWhatItCan_34 rfl (by decide) (fun h1 => ?_) (fun h1 => ?_)
      · rw [hv 1 (by omega), hz2] at h1
        have := ask m' i' r' (c + 1) hR' hO' hcap'
        unfold mSendL
        rw [if_neg (Int32.not_le.mpr h1)]
        exact this
      · rw [hv 1 (by omega), hz2] at h1
        refine go_aload_n (z := 38) dX4_sendWhatItCan_37 rfl rfl ?_
        refine go_iload_n (z := 39) dX4_sendWhatItCan_38 rfl rfl ?_
        refine go_aload_n (z := 40) dX4_sendWhatItCan_39 rfl rfl ?_
        refine go_callV (z := 43) (t := 4) [.int (nI h), .ref (S + 4 + 2 * h)] dX4_sendWhatItCan_40 rfl mlX4_sendFirst vX4_166 ⟨by decide, rfl⟩ (by assumption) rfl rfl (by decide) (cat_i (cat_r cat_nil)) (by simp) (by decide) (by first | decide | omega) (by first | decide | omega) (c_sendFirst hh hL hR' (hE.out hL hO') hq hg' (by rw [hq] at hcap'; simp at hcap'; omega)) ?_
        refine chg_elim (fun i2 r2 hR2 hO2 => ?_)
        refine go_iinc (z := 46) dX4_sendWhatItCan_43 rfl rfl (pk_m1 c) (by decide) ?_
        refine go_goto (z := 20) dX4_sendWhatItCan_46 (by decide) ?_
        unfold mSendL
        rw [if_pos (Int32.not_lt.mp h1)]
        have hqq := mSendF_q (E := E) hq
        exact go_lo (lo' := [some (.ref S), some (.int (nI h)), some (.ref (S + 4 + 2 * h)), some (.int (nI c))]) rfl (ih _ i2 r2 (by rw [hqq]; exact hql) hR2 (hO'.tr hO2) (fun e he => hg' e (by rw [hqq] at he; rw [hq]; exact List.mem_cons_of_mem _ he)) (by rw [hqq, mSendF_len hq]; rw [hq] at hcap'; simp at hcap'; omega))
  have h5 := hR.2.2.2.2.1 h hh
  have hw3 : i (S + 4 + 2 * h) 3 = nI (m.2.2.2.1 h).length := (hR.2.2.2.1 h hh 3 (by omega)).trans h5.1
  exact go_lo (lo' := [some (.ref S), some (.int (nI h)), some (.ref (S + 4 + 2 * h)), some (.int (nI (m.2.2.2.1 h).length))]) (by rw [← hw3]; rfl) (loop _ m i r rfl hR Out.rf hg hcap)
end STATE3
end
section
/-- what an arrival needs -/
def ArrOk (E : EE) (Gd : Nat → Prop) (x : Mg) (m : MS) : Prop := MgOk Gd x ∧ m.2.2.2.2.length < 141 ∧ (∀ h, h < 6 → m.2.2.2.2.length + (m.2.2.2.1 h).length ≤ 141) ∧ (∀ a, x.2 = some a → ∀ t, t < 6 → x.1 2 = nI t → (m.2.2.2.1 t).length + (E.2.2.2 a).length ≤ 80 ∧ m.2.2.2.2.length + (m.2.2.2.1 t).length + (E.2.2.2 a).length ≤ 141) ∧ ∀ h, h < 6 → ∀ e ∈ m.2.2.2.1 h, Gd e
section STATE4
variable {l : Launch} {G : GG} {n : Nat} {i : IP} {r : RP} {S : Nat} {m : MS} {E : EE} {Gd : Nat → Prop}
theorem c_takeIn {h a : Nat} (hh : h < 6) (hL : StL G n S) (hR : Rep S m i r) (hE : RepE G n E Gd i r) (hg : Gd a) (hcap : (m.2.2.2.1 h).length + (E.2.2.2 a).length ≤ 80) : Go l G mX1_takeIn 1 0 0 0 (lentry [.ref (S + 4 + 2 * h), .ref a] 3) [] n i r (Chg n S i r (mTake E h a m)) := by
  have hv : ∀ f, f < 10 → i (S + 4 + 2 * h) f = m.2.2.1 h f := hR.2.2.2.1 h hh
  have h5 := hR.2.2.2.2.1 h hh
  refine go_post (c_House_takeIn (hL.ho hh) (hL.li hh) (hR.1.2.2.2 h hh).2 ((hv 3 (by omega)).trans h5.1) hE hg rfl hcap) ?_
  intro v n2 i2 r2 ⟨hv2, hn2, hi2, hr2, hf2, hq1, hq2⟩
  subst v; subst n2
  have hi : i2 = ups (ups (ups (ups i (S + 4 + 2 * h) 0 1) (S + 4 + 2 * h) 6 (m.2.2.1 h 6 + 1)) (S + 4 + 2 * h) 2 (m.2.2.1 h 2 + E.2.1 a)) (S + 4 + 2 * h) 3 (nI (m.2.2.2.1 h ++ E.2.2.2 a).length) := by
    funext p f
    by_cases e : p = S + 4 + 2 * h
    · subst e
      rw [hf2 f, List.length_append, ← hv 6 (by omega), ← hv 2 (by omega)]
      by_cases f0 : f = 0
      · subst f0; simp [ups]
      · by_cases f6 : f = 6
        · subst f6; simp [ups]
        · by_cases f2 : f = 2
          · subst f2; simp [ups]
          · by_cases f3 : f = 3
            · subst f3; simp [ups]
            · simp [ups, f0, f6, f2, f3]
    · rw [hi2 p e, ups_a e, ups_a e, ups_a e, ups_a e]
  refine ⟨rfl, rfl, ?_, fun p hp => ⟨hi2 p (by omega), hr2 p (by omega)⟩⟩
  have hR1 := ((hR.putH (k := 0) 1 hh (by omega)).putH (k := 6) (m.2.2.1 h 6 + 1) hh (by omega)).putH (k := 2) (m.2.2.1 h 2 + E.2.1 a) hh (by omega)
  refine hR1.putQ (q := m.2.2.2.1 h ++ E.2.2.2 a) hh (by rw [List.length_append]; exact hcap) hi hr2 (fun c b hb => ?_)
  by_cases hc : c < (m.2.2.2.1 h).length
  · rw [List.getElem?_append_left hc] at hb
    rw [hq1 c hc]
    exact h5.2.2 c b hb
  · rw [List.getElem?_append_right (by omega)] at hb
    have := hq2 _ b hb
    rw [show (m.2.2.2.1 h).length + (c - (m.2.2.2.1 h).length) = c by omega] at this
    exact this
theorem c_arrive {M : Nat} {x : Mg} (hL : StL G n S) (hR : Rep S m i r) (hE : RepE G n E Gd i r) (hM1 : S + 16 ≤ M) (hM2 : M < S + 157) (hx1 : ∀ f, f < 5 → i M f = x.1 f) (hx2 : r M 5 = x.2) (hok : ArrOk E Gd x m) : Go l G mX4_arrive 3 0 0 0 (lentry [.ref S, .ref M] 3) [] n i r (Chg n S i r (mArr E x m)) := by
  obtain ⟨⟨f, t, hf, ht, hxf, hxt, hk⟩, hc1, hc2, hc3, hgq⟩ := hok
  have hs := hL.s
  have hhs := hL.hs
  have e4 := hR.1.2.1
  have hMe := hL.me hM1 hM2
  have v0 := hx1 0 (by omega)
  have hnf : (nI f).toNatClampNeg = f := nI_clamp (by omega)
  have hnt : (nI t).toNatClampNeg = t := nI_clamp (by omega)
  refine go_aload_n (z := 1) dX4_arrive_0 rfl rfl ?_
  refine go_getI (z := 4) dX4_arrive_1 rfl fX4_104 hMe rfl ?_
  refine go_iconst (z := 5) (v := 3) dX4_arrive_4 rfl (by decide) ?_
  refine go_icmp_ne (z := 22) (z2 := 8) dX4_arrive_5 rfl (by decide) (fun h => ?_) (fun h => ?_)
  · rw [v0] at h
    refine go_aload_n (z := 23) dX4_arrive_22 rfl rfl ?_
    refine go_getI (z := 26) dX4_arrive_23 rfl fX4_104 hMe rfl ?_
    refine go_iconst (z := 27) (v := 1) dX4_arrive_26 rfl (by decide) ?_
    refine go_icmp_ne (z := 47) (z2 := 30) dX4_arrive_27 rfl (by decide) (fun h1 => ?_) (fun h1 => ?_)
    · rw [v0] at h1
      have htt : t < 6 := by
        rcases hk with ⟨-, q, -⟩ | ⟨q, -⟩ | ⟨-, q, -⟩ | ⟨q, -⟩
        · exact q
        · exact absurd q h1
        · exact q
        · exact absurd q h
      have eh := (hR.1.2.2.2 t htt).1
      have hho := hL.ho htt
      have hv : ∀ f, f < 10 → i (S + 4 + 2 * t) f = m.2.2.1 t f := hR.2.2.2.1 t htt
      refine go_aload_n (z := 48) dX4_arrive_47 rfl rfl ?_
      refine go_getI (z := 51) dX4_arrive_48 rfl fX4_110 hMe rfl ?_
      refine go_st (st' := [.int (nI t)]) (by rw [hx1 2 (by omega), hxt]) ?_
      refine go_istore_n (z := 52) dX4_arrive_51 rfl (by decide) ?_
      refine go_iload_n (z := 53) dX4_arrive_52 rfl rfl ?_
      refine go_callSN (z := 56) [.int (nI t)] dX4_arrive_53 rfl mlX5_isHouse sX4_134 rfl rfl (by decide) (cat_i cat_nil) (by simp) (by decide) (by first | decide | omega) (by first | decide | omega) (c_house1 htt) ?_
      refine ret_elim ?_
      refine go_if_ne (z := 60) (z2 := 59) dX4_arrive_56 rfl (by decide) (fun _ => ?_) (fun h => absurd h (by decide))
      refine go_aload_n (z := 61) dX4_arrive_60 rfl rfl ?_
      refine go_getR (z := 64) dX4_arrive_61 rfl fX4_24 (by assumption) rfl (by assumption) ?_
      refine go_iload_n (z := 65) dX4_arrive_64 rfl rfl ?_
      refine go_aaldR (z := 66) _ (by assumption) ⟨by decide, by decide⟩ (by decide) rfl (by omega) (by assumption) dX4_arrive_65 rfl ?_
      refine go_dup (z := 67) dX4_arrive_66 rfl rfl ?_
      refine go_getI (z := 70) dX4_arrive_67 rfl fX4_158 hho rfl ?_
      refine go_aload_n (z := 71) dX4_arrive_70 rfl rfl ?_
      refine go_getI (z := 74) dX4_arrive_71 rfl fX4_113 hMe rfl ?_
      refine go_iadd (z := 75) dX4_arrive_74 rfl ?_
      rw [hv 1 (by omega), hx1 3 (by omega)]
      refine go_putI (z := 78) dX4_arrive_75 rfl fX4_158 hho rfl (Or.inl rfl) rfl ?_
      have hR1 := hR.putH (k := 1) (m.2.2.1 t 1 + x.1 3) htt (by omega)
      have hO1 : Out S i r (ups i (S + 4 + 2 * t) 1 (m.2.2.1 t 1 + x.1 3)) r := Out.pi (by omega) (by omega)
      have w0 : ups i (S + 4 + 2 * t) 1 (m.2.2.1 t 1 + x.1 3) M 0 = x.1 0 := by rw [ups_a (by omega)]; exact v0
      generalize ups i (S + 4 + 2 * t) 1 (m.2.2.1 t 1 + x.1 3) = i1 at hR1 hO1 w0 ⊢
      refine go_aload_n (z := 79) dX4_arrive_78 rfl rfl ?_
      refine go_getI (z := 82) dX4_arrive_79 rfl fX4_104 hMe rfl ?_
      refine go_iconst (z := 83) (v := 2) dX4_arrive_82 rfl (by decide) ?_
      refine go_icmp_ne (z := 99) (z2 := 86) dX4_arrive_83 rfl (by decide) (fun h2 => ?_) (fun h2 => ?_)
      · rw [w0] at h2
        obtain ⟨-, -, a, hxa, hga⟩ : x.1 0 = 0 ∧ t < 6 ∧ ∃ a, x.2 = some a ∧ Gd a := by
          rcases hk with q | ⟨q, -⟩ | ⟨q, -⟩ | ⟨q, -⟩
          · exact q
          · exact absurd q h1
          · exact absurd q h2
          · exact absurd q h
        have hMa : r M 5 = some a := hx2.trans hxa
        obtain ⟨cp1, cp2⟩ := hc3 a hxa t htt hxt
        refine go_aload_n (z := 100) dX4_arrive_99 rfl rfl ?_
        refine go_getO (z := 103) dX4_arrive_100 rfl fX4_119 hMe rfl ?_
        refine go_ifnull (z := 119) (z2 := 106) dX4_arrive_103 rfl (by decide) (fun h3 => ?_) (fun b hb => ?_)
        · rw [hMa] at h3; cases h3
        · clear hb b
          have hE1 := hE.out hL hO1
          refine go_aload_n (z := 107) dX4_arrive_106 rfl rfl ?_
          refine go_getR (z := 110) dX4_arrive_107 rfl fX4_24 (by assumption) rfl (by assumption) ?_
          refine go_iload_n (z := 111) dX4_arrive_110 rfl rfl ?_
          refine go_aaldR (z := 112) _ (by assumption) ⟨by decide, by decide⟩ (by decide) rfl (by omega) (by assumption) dX4_arrive_111 rfl ?_
          refine go_aload_n (z := 113) dX4_arrive_112 rfl rfl ?_
          refine go_getR (z := 116) dX4_arrive_113 rfl fX4_119 hMe rfl hMa ?_
          refine go_callV (z := 119) (t := 1) [.ref a] dX4_arrive_116 rfl mlX1_takeIn vX4_159 ⟨by decide, rfl⟩ hho rfl rfl (by decide) (cat_r cat_nil) (by simp) (by decide) (by first | decide | omega) (by first | decide | omega) (c_takeIn (m := sH m t 1 (m.2.2.1 t 1 + x.1 3)) htt hL hR1 hE1 hga cp1) ?_
          refine chg_elim (fun i2 r2 hR2 hO2 => ?_)
          have hE2 := hE1.out hL hO2
          have hq2 : ∀ h, (mTake E t a (sH m t 1 (m.2.2.1 t 1 + x.1 3))).2.2.2.1 h = if h = t then m.2.2.2.1 t ++ E.2.2.2 a else m.2.2.2.1 h := fun h => rfl
          have hm2 : (mTake E t a (sH m t 1 (m.2.2.1 t 1 + x.1 3))).2.2.2.2 = m.2.2.2.2 := rfl
          refine go_aload_n (z := 120) dX4_arrive_119 rfl rfl ?_
          refine go_iload_n (z := 121) dX4_arrive_120 rfl rfl ?_
          refine go_callV (z := 124) (t := 4) [.int (nI t)] dX4_arrive_121 rfl mlX4_sendWhatItCan vX4_143 ⟨by decide, rfl⟩ (by assumption) rfl rfl (by decide) (cat_i cat_nil) (by simp) (by decide) (by first | decide | omega) (by first | decide | omega) (c_sendWhatItCan htt hL hR2 hE2 (by rw [hq2, if_pos rfl]; intro e he; rcases List.mem_append.mp he with q | q; exact hgq t htt e q; exact ((hE a hga).2.2.2.2.2.2.2.1 e q).1) (by rw [hq2, if_pos rfl, hm2, List.length_append]; omega)) ?_
          refine chg_elim (fun i3 r3 hR3 hO3 => ?_)
          refine go_vret dX4_arrive_124 rfl ⟨rfl, rfl, ?_, (hO1.tr hO2).tr hO3⟩
          have : mArr E x m = mSend E t (mTake E t a (sH m t 1 (m.2.2.1 t 1 + x.1 3))) := by
            unfold mArr
            rw [if_neg h, if_neg h1, if_neg h2, hxt, hnt, hxa]
          rw [this]
          exact hR3
      · rw [w0] at h2
        refine go_aload_n (z := 87) dX4_arrive_86 rfl rfl ?_
        refine go_getR (z := 90) dX4_arrive_87 rfl fX4_24 (by assumption) rfl (by assumption) ?_
        refine go_iload_n (z := 91) dX4_arrive_90 rfl rfl ?_
        refine go_aaldR (z := 92) _ (by assumption) ⟨by decide, by decide⟩ (by decide) rfl (by omega) (by assumption) dX4_arrive_91 rfl ?_
        refine go_iconst (z := 93) (v := 0) dX4_arrive_92 rfl (by decide) ?_
        refine go_putI (z := 96) dX4_arrive_93 rfl fX4_140 hho rfl (Or.inl rfl) (congrArg Value.int (by decide)) ?_
        refine go_goto (z := 119) dX4_arrive_96 (by decide) ?_
        have hR2 := hR1.putH (k := 4) 0 htt (by omega)
        have hO2 : Out S i1 r (ups i1 (S + 4 + 2 * t) 4 0) r := Out.pi (by omega) (by omega)
        refine go_aload_n (z := 120) dX4_arrive_119 rfl rfl ?_
        refine go_iload_n (z := 121) dX4_arrive_120 rfl rfl ?_
        refine go_callV (z := 124) (t := 4) [.int (nI t)] dX4_arrive_121 rfl mlX4_sendWhatItCan vX4_143 ⟨by decide, rfl⟩ (by assumption) rfl rfl (by decide) (cat_i cat_nil) (by simp) (by decide) (by first | decide | omega) (by first | decide | omega) (c_sendWhatItCan htt hL hR2 (hE.out hL (hO1.tr hO2)) (hgq t htt) (hc2 t htt)) ?_
        refine chg_elim (fun i3 r3 hR3 hO3 => ?_)
        refine go_vret dX4_arrive_124 rfl ⟨rfl, rfl, ?_, (hO1.tr hO2).tr hO3⟩
        have : mArr E x m = mSend E t (sH (sH m t 1 (m.2.2.1 t 1 + x.1 3)) t 4 0) := by
          unfold mArr
          rw [if_neg h, if_neg h1, if_pos h2, hxt, hnt]
        rw [this]
        exact hR3
    · rw [v0] at h1
      obtain ⟨-, hff, hxn⟩ : x.1 0 = 1 ∧ f < 6 ∧ x.2 = none := by
        rcases hk with ⟨q, -⟩ | q | ⟨q, -⟩ | ⟨q, -⟩
        · rw [h1] at q; exact absurd q (by decide)
        · exact q
        · rw [h1] at q; exact absurd q (by decide)
        · exact absurd q h
      refine go_aload_n (z := 31) dX4_arrive_30 rfl rfl ?_
      refine go_iconst (z := 32) (v := 2) dX4_arrive_31 rfl (by decide) ?_
      refine go_bipush (z := 34) (v := 6) dX4_arrive_32 rfl (by decide) ?_
      refine go_aload_n (z := 35) dX4_arrive_34 rfl rfl ?_
      refine go_getI (z := 38) dX4_arrive_35 rfl fX4_107 hMe rfl ?_
      refine go_st (st' := [.int (nI f), .int 6, .int 2, .ref S]) (by rw [hx1 1 (by omega), hxf]) ?_
      refine go_aload_n (z := 39) dX4_arrive_38 rfl rfl ?_
      refine go_callV (z := 42) (t := 4) [] dX4_arrive_39 rfl mlX4_mint vX4_96 ⟨by decide, rfl⟩ (by assumption) rfl rfl (by decide) cat_nil (by simp) (by decide) (by first | decide | omega) (by first | decide | omega) (c_mint hL hR) ?_
      refine chgI_elim (fun i2 r2 hR2 hO2 => ?_)
      refine go_null (z := 43) dX4_arrive_42 rfl ?_
      refine go_callV (z := 46) (t := 4) [.int 2, .int (nI 6), .int (nI f), .int (coin m), va_rf none] dX4_arrive_43 rfl mlX4_post vX4_100 ⟨by decide, rfl⟩ (by assumption) rfl rfl (by decide) (cat_i (cat_i (cat_i (cat_i (cat_o cat_nil))))) (by simp) (by decide) (by first | decide | omega) (by first | decide | omega) (c_post hL hR2 (by omega) (by omega) hc1) ?_
      refine chg_elim (fun i3 r3 hR3 hO3 => ?_)
      refine go_vret dX4_arrive_46 rfl ⟨rfl, rfl, ?_, hO2.tr hO3⟩
      have : mArr E x m = mPost (mMint m) 2 6 f (coin m) none := by
        unfold mArr
        rw [if_neg h, if_pos h1, hxf, hnf]
      rw [this]
      exact hR3
  · rw [v0] at h
    refine go_aload_n (z := 9) dX4_arrive_8 rfl rfl ?_
    refine go_dup (z := 10) dX4_arrive_9 rfl rfl ?_
    refine go_getI (z := 13) dX4_arrive_10 rfl fX4_60 (by assumption) rfl ?_
    refine go_aload_n (z := 14) dX4_arrive_13 rfl rfl ?_
    refine go_getI (z := 17) dX4_arrive_14 rfl fX4_113 hMe rfl ?_
    refine go_iadd (z := 18) dX4_arrive_17 rfl ?_
    refine go_putI (z := 21) dX4_arrive_18 rfl fX4_60 (by assumption) rfl (Or.inl rfl) rfl ?_
    refine go_vret dX4_arrive_21 rfl ⟨rfl, rfl, ?_, Out.pi (by omega) (by omega)⟩
    have : mArr E x m = sZ m 8 (m.1 8 + x.1 3) := by
      unfold mArr
      rw [if_pos h]
    rw [this, hR.2.1 8 (by omega), hx1 3 (by omega)]
    exact hR.putZ _ (by omega)
theorem c_workIn {h : Nat} (hh : h < 6) (hL : StL G n S) (hR : Rep S m i r) (hcap : m.2.2.2.2.length < 141) : Go l G mX4_workIn 1 0 0 0 (lentry [.ref S, .int (nI h)] 3) [] n i r (Chg n S i r (mWork h m)) := by
  have hs := hL.s
  have hhs := hL.hs
  have e4 := hR.1.2.1
  have eh := (hR.1.2.2.2 h hh).1
  have hho := hL.ho hh
  have hv : ∀ f, f < 10 → i (S + 4 + 2 * h) f = m.2.2.1 h f := hR.2.2.2.1 h hh
  refine go_iload_n (z := 1) dX4_workIn_0 rfl rfl ?_
  refine go_callSN (z := 4) [.int (nI h)] dX4_workIn_1 rfl mlX5_isHouse sX4_134 rfl rfl (by decide) (cat_i cat_nil) (by simp) (by decide) (by first | decide | omega) (by first | decide | omega) (c_house1 hh) ?_
  refine ret_elim ?_
  refine go_if_ne (z := 8) (z2 := 7) dX4_workIn_4 rfl (by decide) (fun _ => ?_) (fun h => absurd h (by decide))
  have rest : ∀ (m1 : MS) (i1 : IP) (r1 : RP), m1 = (if 0 < m.2.2.1 h 2 then sH m h 2 (m.2.2.1 h 2 - 1) else m) → Rep S m1 i1 r1 → Out S i r i1 r1 → Go l G mX4_workIn 1 0 0 32 [some (.ref S), some (.int (nI h)), some (.ref (S + 4 + 2 * h))] [] n i1 r1 (Chg n S i r (mWork h m)) := by
    intro m1 i1 r1 hm1 hR1 hO1
    have hv1 : ∀ f, f < 10 → i1 (S + 4 + 2 * h) f = m1.2.2.1 h f := hR1.2.2.2.1 h hh
    have hcap1 : m1.2.2.2.2.length < 141 := by rw [hm1]; split <;> exact hcap
    have hw : mWork h m = if 0 < m1.2.2.1 h 2 ∨ 0 < m1.2.2.1 h 3 ∨ ¬ m1.2.2.1 h 4 = 0 then m1 else if 0 < (sH (sH m1 h 0 0) h 9 (m1.2.2.1 h 9 + 1)).2.2.1 h 1 then sH (mPost (sH (sH m1 h 0 0) h 9 (m1.2.2.1 h 9 + 1)) 3 h 6 ((sH (sH m1 h 0 0) h 9 (m1.2.2.1 h 9 + 1)).2.2.1 h 1) none) h 1 0 else sH (sH m1 h 0 0) h 9 (m1.2.2.1 h 9 + 1) := by
      unfold mWork
      rw [← hm1]
    have stop : 0 < m1.2.2.1 h 2 ∨ 0 < m1.2.2.1 h 3 ∨ ¬ m1.2.2.1 h 4 = 0 → Chg n S i r (mWork h m) none n i1 r1 := fun hs => ⟨rfl, rfl, by rw [hw, if_pos hs]; exact hR1, hO1⟩
    refine go_aload_n (z := 33) dX4_workIn_32 rfl rfl ?_
    refine go_getI (z := 36) dX4_workIn_33 rfl fX4_183 (by assumption) rfl ?_
    refine go_if_gt (z := 53) (z2 := 39) dX4_workIn_36 rfl (by decide) (fun h1 => ?_) (fun h1 => ?_)
    · rw [hv1 2 (by omega)] at h1
      exact go_vret dX4_workIn_53 rfl (stop (Or.inl h1))
    rw [hv1 2 (by omega)] at h1
    refine go_aload_n (z := 40) dX4_workIn_39 rfl rfl ?_
    refine go_getI (z := 43) dX4_workIn_40 rfl fX4_163 (by assumption) rfl ?_
    refine go_if_gt (z := 53) (z2 := 46) dX4_workIn_43 rfl (by decide) (fun h2 => ?_) (fun h2 => ?_)
    · rw [hv1 3 (by omega)] at h2
      exact go_vret dX4_workIn_53 rfl (stop (Or.inr (Or.inl h2)))
    rw [hv1 3 (by omega)] at h2
    refine go_aload_n (z := 47) dX4_workIn_46 rfl rfl ?_
    refine go_getI (z := 50) dX4_workIn_47 rfl fX4_140 (by assumption) rfl ?_
    refine go_if_eq (z := 54) (z2 := 53) dX4_workIn_50 rfl (by decide) (fun h3 => ?_) (fun h3 => ?_)
    · rw [hv1 4 (by omega)] at h3
      have hneg : ¬ (0 < m1.2.2.1 h 2 ∨ 0 < m1.2.2.1 h 3 ∨ ¬ m1.2.2.1 h 4 = 0) := by
        rintro (q | q | q)
        · exact h1 q
        · exact h2 q
        · exact q h3
      rw [if_neg hneg] at hw
      refine go_aload_n (z := 55) dX4_workIn_54 rfl rfl ?_
      refine go_iconst (z := 56) (v := 0) dX4_workIn_55 rfl (by decide) ?_
      refine go_putI (z := 59) dX4_workIn_56 rfl fX4_152 (by assumption) rfl (Or.inl rfl) (congrArg Value.int (by decide)) ?_
      refine go_aload_n (z := 60) dX4_workIn_59 rfl rfl ?_
      refine go_dup (z := 61) dX4_workIn_60 rfl rfl ?_
      refine go_getI (z := 64) dX4_workIn_61 rfl fX4_186 (by assumption) rfl ?_
      refine go_iconst (z := 65) (v := 1) dX4_workIn_64 rfl (by decide) ?_
      refine go_iadd (z := 66) dX4_workIn_65 rfl ?_
      refine go_putI (z := 69) dX4_workIn_66 rfl fX4_186 (by assumption) rfl (Or.inl rfl) rfl ?_
      rw [show ups i1 (S + 4 + 2 * h) 0 0 (S + 4 + 2 * h) 9 = m1.2.2.1 h 9 by rw [ups_k (by decide)]; exact hv1 9 (by omega)]
      have hR2 := (hR1.putH (k := 0) 0 hh (by omega)).putH (k := 9) (m1.2.2.1 h 9 + 1) hh (by omega)
      have hO2 : Out S i1 r1 (ups (ups i1 (S + 4 + 2 * h) 0 0) (S + 4 + 2 * h) 9 (m1.2.2.1 h 9 + 1)) r1 := (Out.pi (by omega) (by omega)).tr (Out.pi (by omega) (by omega))
      generalize ups (ups i1 (S + 4 + 2 * h) 0 0) (S + 4 + 2 * h) 9 (m1.2.2.1 h 9 + 1) = i2 at hR2 hO2 ⊢
      have hcap2 : (sH (sH m1 h 0 0) h 9 (m1.2.2.1 h 9 + 1)).2.2.2.2.length < 141 := hcap1
      generalize sH (sH m1 h 0 0) h 9 (m1.2.2.1 h 9 + 1) = m2 at hR2 hw hcap2
      have hv2 : ∀ f, f < 10 → i2 (S + 4 + 2 * h) f = m2.2.2.1 h f := hR2.2.2.2.1 h hh
      refine go_aload_n (z := 70) dX4_workIn_69 rfl rfl ?_
      refine go_getI (z := 73) dX4_workIn_70 rfl fX4_158 (by assumption) rfl ?_
      refine go_if_le (z := 94) (z2 := 76) dX4_workIn_73 rfl (by decide) (fun h4 => ?_) (fun h4 => ?_)
      · rw [hv2 1 (by omega)] at h4
        refine go_vret dX4_workIn_94 rfl ⟨rfl, rfl, ?_, hO1.tr hO2⟩
        rw [hw, if_neg (Int32.not_lt.mpr h4)]
        exact hR2
      · rw [hv2 1 (by omega)] at h4
        refine go_aload_n (z := 77) dX4_workIn_76 rfl rfl ?_
        refine go_iconst (z := 78) (v := 3) dX4_workIn_77 rfl (by decide) ?_
        refine go_iload_n (z := 79) dX4_workIn_78 rfl rfl ?_
        refine go_bipush (z := 81) (v := 6) dX4_workIn_79 rfl (by decide) ?_
        refine go_aload_n (z := 82) dX4_workIn_81 rfl rfl ?_
        refine go_getI (z := 85) dX4_workIn_82 rfl fX4_158 (by assumption) rfl ?_
        rw [hv2 1 (by omega)]
        refine go_null (z := 86) dX4_workIn_85 rfl ?_
        refine go_callV (z := 89) (t := 4) [.int 3, .int (nI h), .int (nI 6), .int (m2.2.2.1 h 1), va_rf none] dX4_workIn_86 rfl mlX4_post vX4_100 ⟨by decide, rfl⟩ (by assumption) rfl rfl (by decide) (cat_i (cat_i (cat_i (cat_i (cat_o cat_nil))))) (by simp) (by decide) (by first | decide | omega) (by first | decide | omega) (c_post hL hR2 (by omega) (by omega) hcap2) ?_
        refine chg_elim (fun i3 r3 hR3 hO3 => ?_)
        refine go_aload_n (z := 90) dX4_workIn_89 rfl rfl ?_
        refine go_iconst (z := 91) (v := 0) dX4_workIn_90 rfl (by decide) ?_
        refine go_putI (z := 94) dX4_workIn_91 rfl fX4_158 (by assumption) rfl (Or.inl rfl) rfl ?_
        refine go_vret dX4_workIn_94 rfl ⟨rfl, rfl, ?_, ((hO1.tr hO2).tr hO3).tr (Out.pi (by omega) (by omega))⟩
        rw [hw, if_pos (Int32.not_le.mp h4)]
        exact hR3.putH _ hh (by omega)
    · rw [hv1 4 (by omega)] at h3
      exact go_vret dX4_workIn_53 rfl (stop (Or.inr (Or.inr h3)))
  refine go_aload_n (z := 9) dX4_workIn_8 rfl rfl ?_
  refine go_getR (z := 12) dX4_workIn_9 rfl fX4_24 (by assumption) rfl (by assumption) ?_
  refine go_iload_n (z := 13) dX4_workIn_12 rfl rfl ?_
  refine go_aaldR (z := 14) _ (by assumption) ⟨by decide, by decide⟩ (by decide) rfl (by omega) (by assumption) dX4_workIn_13 rfl ?_
  refine go_astore_n (z := 15) dX4_workIn_14 rfl (by decide) ?_
  refine go_aload_n (z := 16) dX4_workIn_15 rfl rfl ?_
  refine go_getI (z := 19) dX4_workIn_16 rfl fX4_183 (by assumption) rfl ?_
  refine go_if_le (z := 32) (z2 := 22) dX4_workIn_19 rfl (by decide) (fun h1 => ?_) (fun h1 => ?_)
  · rw [hv 2 (by omega)] at h1
    exact rest m i r (by rw [if_neg (Int32.not_lt.mpr h1)]) hR Out.rf
  · rw [hv 2 (by omega)] at h1
    refine go_aload_n (z := 23) dX4_workIn_22 rfl rfl ?_
    refine go_dup (z := 24) dX4_workIn_23 rfl rfl ?_
    refine go_getI (z := 27) dX4_workIn_24 rfl fX4_183 (by assumption) rfl ?_
    refine go_iconst (z := 28) (v := 1) dX4_workIn_27 rfl (by decide) ?_
    refine go_isub (z := 29) dX4_workIn_28 rfl ?_
    refine go_putI (z := 32) dX4_workIn_29 rfl fX4_183 (by assumption) rfl (Or.inl rfl) rfl ?_
    rw [hv 2 (by omega)]
    exact rest _ _ _ (by rw [if_pos (Int32.not_le.mp h1)]) (hR.putH _ hh (by omega)) (Out.pi (by omega) (by omega))
end STATE4
end
section
def StepsOk (E : EE) (Gd : Nat → Prop) : Nat → MS → Prop
  | 0, _ => True
  | c + 1, m => (∃ x rest, m.2.2.2.2 = x :: rest ∧ ArrOk E Gd x m) ∧ StepsOk E Gd c (mStep E m)
def mWorkN : Nat → MS → MS
  | 0, m => m
  | c + 1, m => mWorkB c (mWorkN c m)
theorem mWorks_N (m : MS) : mWorks m = mWorkN 6 m := rfl
def TickOk (E : EE) (Gd : Nat → Prop) (m : MS) : Prop := StepsOk E Gd (cntA ((sZ m 0 (m.1 0 + 1)).1 0) (sZ m 0 (m.1 0 + 1)).2.2.2.2) (sZ m 0 (m.1 0 + 1)) ∧ ∀ q, q < 6 → (mWorkN q (mArrive E (sZ m 0 (m.1 0 + 1)))).2.2.2.2.length < 141
theorem cntA_le (t : Int32) (ms : List Mg) : cntA t ms ≤ ms.length := by
  unfold cntA
  exact List.Sublist.length_le (List.takeWhile_sublist _)
theorem mSendF_ge {E : EE} {h : Nat} {m : MS} : m.2.2.2.2.length ≤ (mSendF E h m).2.2.2.2.length := by
  unfold mSendF
  split
  · exact Nat.le_refl _
  · rw [mPost_len]; exact Nat.le_succ _
theorem mSendL_ge {E : EE} {h c : Nat} {m : MS} : m.2.2.2.2.length ≤ (mSendL E h c m).2.2.2.2.length := by
  induction c generalizing m with
  | zero => exact Nat.le_refl _
  | succ c ih =>
    unfold mSendL
    split
    · exact Nat.le_trans mSendF_ge ih
    · exact Nat.le_refl _
theorem mSend_ge {E : EE} {h : Nat} {m : MS} : m.2.2.2.2.length ≤ (mSend E h m).2.2.2.2.length := by
  unfold mSend mAsk
  refine Nat.le_trans (mSendL_ge (E := E) (h := h) (c := (m.2.2.2.1 h).length)) ?_
  split
  · rw [mPost_len]; exact Nat.le_succ _
  · exact Nat.le_refl _
theorem mArr_3 {E : EE} {x : Mg} {m : MS} (h : x.1 0 = 3) : mArr E x m = sZ m 8 (m.1 8 + x.1 3) := by
  unfold mArr
  rw [if_pos h]
theorem mArr_1 {E : EE} {x : Mg} {m : MS} (h : ¬ x.1 0 = 3) (h1 : x.1 0 = 1) : mArr E x m = mPost (mMint m) 2 6 (x.1 1).toNatClampNeg (coin m) none := by
  unfold mArr
  rw [if_neg h, if_pos h1]
theorem mArr_2 {E : EE} {x : Mg} {m : MS} (h : ¬ x.1 0 = 3) (h1 : ¬ x.1 0 = 1) (h2 : x.1 0 = 2) : mArr E x m = mSend E (x.1 2).toNatClampNeg (sH (sH m (x.1 2).toNatClampNeg 1 (m.2.2.1 (x.1 2).toNatClampNeg 1 + x.1 3)) (x.1 2).toNatClampNeg 4 0) := by
  unfold mArr
  rw [if_neg h, if_neg h1, if_pos h2]
theorem mArr_0 {E : EE} {x : Mg} {m : MS} {a : Nat} (h : ¬ x.1 0 = 3) (h1 : ¬ x.1 0 = 1) (h2 : ¬ x.1 0 = 2) (ha : x.2 = some a) : mArr E x m = mSend E (x.1 2).toNatClampNeg (mTake E (x.1 2).toNatClampNeg a (sH m (x.1 2).toNatClampNeg 1 (m.2.2.1 (x.1 2).toNatClampNeg 1 + x.1 3))) := by
  unfold mArr
  rw [if_neg h, if_neg h1, if_neg h2, ha]
theorem mArr_n {E : EE} {x : Mg} {m : MS} (h : ¬ x.1 0 = 3) (h1 : ¬ x.1 0 = 1) (h2 : ¬ x.1 0 = 2) (ha : x.2 = none) : mArr E x m = mSend E (x.1 2).toNatClampNeg (sH m (x.1 2).toNatClampNeg 1 (m.2.2.1 (x.1 2).toNatClampNeg 1 + x.1 3)) := by
  unfold mArr
  rw [if_neg h, if_neg h1, if_neg h2, ha]
theorem mArr_ge {E : EE} {x : Mg} {m : MS} : m.2.2.2.2.length ≤ (mArr E x m).2.2.2.2.length := by
  by_cases h : x.1 0 = 3
  · rw [mArr_3 h]; exact Nat.le_refl m.2.2.2.2.length
  by_cases h1 : x.1 0 = 1
  · rw [mArr_1 h h1, mPost_len]; exact Nat.le_succ m.2.2.2.2.length
  by_cases h2 : x.1 0 = 2
  · rw [mArr_2 h h1 h2]
    exact mSend_ge (E := E) (h := (x.1 2).toNatClampNeg) (m := sH (sH m (x.1 2).toNatClampNeg 1 (m.2.2.1 (x.1 2).toNatClampNeg 1 + x.1 3)) (x.1 2).toNatClampNeg 4 0)
  cases ha : x.2 with
  | some a =>
    rw [mArr_0 h h1 h2 ha]
    exact mSend_ge (E := E) (h := (x.1 2).toNatClampNeg) (m := mTake E (x.1 2).toNatClampNeg a (sH m (x.1 2).toNatClampNeg 1 (m.2.2.1 (x.1 2).toNatClampNeg 1 + x.1 3)))
  | none =>
    rw [mArr_n h h1 h2 ha]
    exact mSend_ge (E := E) (h := (x.1 2).toNatClampNeg) (m := sH m (x.1 2).toNatClampNeg 1 (m.2.2.1 (x.1 2).toNatClampNeg 1 + x.1 3))
theorem sZ_s (m : MS) (k : Nat) (x : Int32) : (sZ m k x).1 k = x := by
  show up1 m.1 k x k = x
  exact up1_s
theorem sZ_n (m : MS) {k q : Nat} (x : Int32) (h : q ≠ k) : (sZ m k x).1 q = m.1 q := by
  show up1 m.1 k x q = m.1 q
  exact up1_n h
section STATE5
variable {l : Launch} {G : GG} {n : Nat} {i : IP} {r : RP} {S : Nat} {m : MS} {E : EE} {Gd : Nat → Prop}
theorem c_tick (hL : StL G n S) (hR : Rep S m i r) (hE : RepE G n E Gd i r) (hok : TickOk E Gd m) : Go l G mX4_tick 4 0 0 0 (lentry [.ref S] 3) [] n i r (Chg n S i r (mTick E m)) := by
  have hs := hL.s
  have hhs := hL.hs
  have hmm := hL.ms
  obtain ⟨hst, hwk⟩ := hok
  refine go_aload_n (z := 1) dX4_tick_0 rfl rfl ?_
  refine go_dup (z := 2) dX4_tick_1 rfl rfl ?_
  refine go_getI (z := 5) dX4_tick_2 rfl fX4_40 (by assumption) rfl ?_
  refine go_iconst (z := 6) (v := 1) dX4_tick_5 rfl (by decide) ?_
  refine go_iadd (z := 7) dX4_tick_6 rfl ?_
  refine go_putI (z := 10) dX4_tick_7 rfl fX4_40 (by assumption) rfl (Or.inl rfl) rfl ?_
  rw [hR.2.1 0 (by omega)]
  have hR1 := hR.putZ (k := 0) (m.1 0 + 1) (by omega)
  have hO1 : Out S i r (ups i S 0 (m.1 0 + 1)) r := Out.pi (by omega) (by omega)
  generalize ups i S 0 (m.1 0 + 1) = i1 at hR1 hO1 ⊢
  have hm1 : ∃ m1, m1 = sZ m 0 (m.1 0 + 1) := ⟨_, rfl⟩
  obtain ⟨m1, hm1⟩ := hm1
  have ht : mTick E m = mWorkN 6 (mSteps E (cntA (m1.1 0) m1.2.2.2.2) m1) := by rw [hm1]; rfl
  have hma : mArrive E m1 = mSteps E (cntA (m1.1 0) m1.2.2.2.2) m1 := rfl
  rw [← hm1] at hst hwk hR1
  rw [hma] at hwk
  rw [ht]
  clear ht hma hm1
  have hlen : m1.2.2.2.2.length ≤ 141 := by obtain ⟨-, -, -, -, -, -, -, h, -⟩ := hR1; exact h
  have hcl := cntA_le (m1.1 0) m1.2.2.2.2
  have hcnt := c_countArriving (l := l) hL hR1
  have hcc : ∃ c, c = cntA (m1.1 0) m1.2.2.2.2 := ⟨_, rfl⟩
  obtain ⟨cnt, hcc⟩ := hcc
  rw [← hcc] at hst hwk hcl hcnt ⊢
  clear hcc
  have works : ∀ (d h : Nat) (i' : IP) (r' : RP), h + d = 6 → Rep S (mWorkN h (mSteps E cnt m1)) i' r' → Out S i r i' r' → Go l G mX4_tick 4 0 0 45 [some (.ref S), some (.int (nI cnt)), some (.int (nI h))] [] n i' r' (Chg n S i r (mWorkN 6 (mSteps E cnt m1))) := by
    intro d
    induction d with
    | zero =>
      intro h i' r' hh hR' hO'
      have e4 := hR'.1.2.1
      have hh : h = 6 := by omega
      subst hh
      refine go_iload_n (z := 46) dX4_tick_45 rfl rfl ?_
      refine go_aload_n (z := 47) dX4_tick_46 rfl rfl ?_
      refine go_getR (z := 50) dX4_tick_47 rfl fX4_24 (by assumption) rfl (by assumption) ?_
      refine go_alen (z := 51) (by assumption) (by decide) dX4_tick_50 rfl ?_
      refine go_icmp_ge (z := 77) (z2 := 54) dX4_tick_51 rfl (by decide) (fun _ => ?_) (fun h => absurd (by decide) h)
      exact go_vret dX4_tick_77 rfl ⟨rfl, rfl, hR', hO'⟩
    | succ d ih =>
      intro h i' r' hh hR' hO'
      have hh6 : h < 6 := by omega
      have e4 := hR'.1.2.1
      have eh := (hR'.1.2.2.2 h hh6).1
      have hho := hL.ho hh6
      have hv0 : i' (S + 4 + 2 * h) 0 = (mWorkN h (mSteps E cnt m1)).2.2.1 h 0 := hR'.2.2.2.1 h hh6 0 (by omega)
      refine go_iload_n (z := 46) dX4_tick_45 rfl rfl ?_
      refine go_aload_n (z := 47) dX4_tick_46 rfl rfl ?_
      refine go_getR (z := 50) dX4_tick_47 rfl fX4_24 (by assumption) rfl (by assumption) ?_
      refine go_alen (z := 51) (by assumption) (by decide) dX4_tick_50 rfl ?_
      refine go_icmp_ge (z := 77) (z2 := 54) dX4_tick_51 rfl (by decide) (fun q => absurd q (nI_ge hh6 (by omega))) (fun _ => ?_)
      refine go_aload_n (z := 55) dX4_tick_54 rfl rfl ?_
      refine go_getR (z := 58) dX4_tick_55 rfl fX4_24 (by assumption) rfl (by assumption) ?_
      refine go_iload_n (z := 59) dX4_tick_58 rfl rfl ?_
      refine go_aaldR (z := 60) _ (by assumption) ⟨by decide, by decide⟩ (by decide) rfl (by omega) (by assumption) dX4_tick_59 rfl ?_
      refine go_getI (z := 63) dX4_tick_60 rfl fX4_152 (by assumption) rfl ?_
      have nxt : ∀ (i2 : IP) (r2 : RP), Rep S (mWorkN (h + 1) (mSteps E cnt m1)) i2 r2 → Out S i r i2 r2 → Go l G mX4_tick 4 0 0 71 [some (.ref S), some (.int (nI cnt)), some (.int (nI h))] [] n i2 r2 (Chg n S i r (mWorkN 6 (mSteps E cnt m1))) := by
        intro i2 r2 hR2 hO2
        refine go_iinc (z := 74) dX4_tick_71 rfl rfl (nI_1 h) (by decide) ?_
        refine go_goto (z := 45) dX4_tick_74 (by decide) ?_
        exact go_lo (lo' := [some (.ref S), some (.int (nI cnt)), some (.int (nI (h + 1)))]) rfl (ih (h + 1) i2 r2 (by omega) hR2 hO2)
      have hN : mWorkN (h + 1) (mSteps E cnt m1) = mWorkB h (mWorkN h (mSteps E cnt m1)) := rfl
      refine go_if_eq (z := 71) (z2 := 66) dX4_tick_63 rfl (by decide) (fun hb => ?_) (fun hb => ?_)
      · rw [hv0] at hb
        refine nxt i' r' ?_ hO'
        rw [hN]; unfold mWorkB; rw [if_pos hb]
        exact hR'
      · rw [hv0] at hb
        refine go_aload_n (z := 67) dX4_tick_66 rfl rfl ?_
        refine go_iload_n (z := 68) dX4_tick_67 rfl rfl ?_
        refine go_callV (z := 71) (t := 4) [.int (nI h)] dX4_tick_68 rfl mlX4_workIn vX4_155 ⟨by decide, rfl⟩ (by assumption) rfl rfl (by decide) (cat_i cat_nil) (by simp) (by decide) (by first | decide | omega) (by first | decide | omega) (c_workIn hh6 hL hR' (hwk h hh6)) ?_
        refine chg_elim (fun i3 r3 hR3 hO3 => ?_)
        refine nxt i3 r3 ?_ (hO'.tr hO3)
        rw [hN]; unfold mWorkB; rw [if_neg hb]
        exact hR3
  have loop : ∀ (d a : Nat) (m' : MS) (i' : IP) (r' : RP), a + d = cnt → mSteps E d m' = mSteps E cnt m1 → StepsOk E Gd d m' → Rep S m' i' r' → Out S i r i' r' → Go l G mX4_tick 4 0 0 17 [some (.ref S), some (.int (nI cnt)), some (.int (nI a))] [] n i' r' (Chg n S i r (mWorkN 6 (mSteps E cnt m1))) := by
    intro d
    induction d with
    | zero =>
      intro a m' i' r' ha hm hok hR' hO'
      refine go_iload_n (z := 18) dX4_tick_17 rfl rfl ?_
      refine go_iload_n (z := 19) dX4_tick_18 rfl rfl ?_
      refine go_icmp_ge (z := 43) (z2 := 22) dX4_tick_19 rfl (by decide) (fun _ => ?_) (fun h => absurd (nI_le (by omega) (by omega)) h)
      refine go_iconst (z := 44) (v := 0) dX4_tick_43 rfl (by decide) ?_
      refine go_istore_n (z := 45) dX4_tick_44 rfl (by decide) ?_
      refine go_lo (lo' := [some (.ref S), some (.int (nI cnt)), some (.int (nI 0))]) rfl (works 6 0 i' r' (by omega) ?_ hO')
      rw [← hm]; exact hR'
    | succ d ih =>
      intro a m' i' r' ha hm hok hR' hO'
      obtain ⟨⟨x, rest, hx, harr⟩, hok2⟩ := hok
      have hR0 := hR'
      obtain ⟨-, -, -, -, -, mx, hX, hlen', h6', hM'⟩ := hR'
      obtain ⟨hx1, hx2, hx3⟩ := hX.1 0 (by omega)
      have e5 := hR0.1.2.2.1
      have hM0 := hM' 0 x (by rw [hx]; rfl)
      refine go_iload_n (z := 18) dX4_tick_17 rfl rfl ?_
      refine go_iload_n (z := 19) dX4_tick_18 rfl rfl ?_
      refine go_icmp_ge (z := 43) (z2 := 22) dX4_tick_19 rfl (by decide) (fun h => absurd h (nI_ge (by omega) (by omega))) (fun _ => ?_)
      refine go_aload_n (z := 23) dX4_tick_22 rfl rfl ?_
      refine go_aload_n (z := 24) dX4_tick_23 rfl rfl ?_
      refine go_getR (z := 27) dX4_tick_24 rfl fX4_30 (by assumption) rfl (by assumption) ?_
      refine go_iconst (z := 28) (v := 0) dX4_tick_27 rfl (by decide) ?_
      refine go_aaldR (z := 29) 0 (by assumption) ⟨by decide, by decide⟩ (by decide) rfl (by omega) (by assumption) dX4_tick_28 rfl ?_
      refine go_callV (z := 32) (t := 4) [.ref (mx 0)] dX4_tick_29 rfl mlX4_arrive vX4_149 ⟨by decide, rfl⟩ (by assumption) rfl rfl (by decide) (cat_r cat_nil) (by simp) (by decide) (by first | decide | omega) (by first | decide | omega) (c_arrive hL hR0 (hE.out hL hO') hx2 hx3 hM0.1 hM0.2 harr) ?_
      refine chg_elim (fun i2 r2 hR2 hO2 => ?_)
      have hge := mArr_ge (E := E) (x := x) (m := m')
      refine go_aload_n (z := 33) dX4_tick_32 rfl rfl ?_
      refine go_iconst (z := 34) (v := 0) dX4_tick_33 rfl (by decide) ?_
      refine go_callV (z := 37) (t := 4) [.int (nI 0)] dX4_tick_34 rfl mlX4_takeOut vX4_131 ⟨by decide, rfl⟩ (by assumption) rfl rfl (by decide) (cat_i cat_nil) (by simp) (by decide) (by first | decide | omega) (by first | decide | omega) (c_takeOut (k := 0) hL hR2 (by rw [hx] at hge; simp at hge; omega)) ?_
      refine chg_elim (fun i3 r3 hR3 hO3 => ?_)
      refine go_iinc (z := 40) dX4_tick_37 rfl rfl (nI_1 a) (by decide) ?_
      refine go_goto (z := 17) dX4_tick_40 (by decide) ?_
      have hs3 : mStep E m' = mOut 0 (mArr E x m') := by unfold mStep; rw [hx]
      refine go_lo (lo' := [some (.ref S), some (.int (nI cnt)), some (.int (nI (a + 1)))]) rfl (ih (a + 1) (mStep E m') i3 r3 (by omega) hm hok2 (by rw [hs3]; exact hR3) ((hO'.tr hO2).tr hO3))
  refine go_aload_n (z := 11) dX4_tick_10 rfl rfl ?_
  refine go_callV (z := 14) (t := 4) [] dX4_tick_11 rfl mlX4_countArriving vX4_146 ⟨by decide, rfl⟩ (by assumption) rfl rfl (by decide) cat_nil (by simp) (by decide) (by first | decide | omega) (by first | decide | omega) (hcnt) ?_
  refine ret_elim ?_
  refine go_istore_n (z := 15) dX4_tick_14 rfl (by decide) ?_
  refine go_iconst (z := 16) (v := 0) dX4_tick_15 rfl (by decide) ?_
  refine go_istore_n (z := 17) dX4_tick_16 rfl (by decide) ?_
  exact go_lo (lo' := [some (.ref S), some (.int (nI cnt)), some (.int (nI 0))]) rfl (loop cnt 0 m1 i1 r (by omega) rfl hst hR1 hO1)
theorem c_loseAskX {h : Nat} (hh : h < 6) (hL : StL G n S) (hR : Rep S m i r) : Go l G mX4_loseAskOf 1 0 0 0 (lentry [.ref S, .int (nI h)] 2) [] n i r (fun v n' i' r' => v = none ∧ n' = n ∧ i' = ups i (S + 4 + 2 * h) 5 1 ∧ r' = r) := by
  have hs := hL.s
  have hhs := hL.hs
  have e4 := hR.1.2.1
  have eh := (hR.1.2.2.2 h hh).1
  have hho := hL.ho hh
  refine go_iload_n (z := 1) dX4_loseAskOf_0 rfl rfl ?_
  refine go_callSN (z := 4) [.int (nI h)] dX4_loseAskOf_1 rfl mlX5_isHouse sX4_134 rfl rfl (by decide) (cat_i cat_nil) (by simp) (by decide) (by first | decide | omega) (by first | decide | omega) (c_house1 hh) ?_
  refine ret_elim ?_
  refine go_if_eq (z := 17) (z2 := 7) dX4_loseAskOf_4 rfl (by decide) (fun h => absurd h (by decide)) (fun _ => ?_)
  refine go_aload_n (z := 8) dX4_loseAskOf_7 rfl rfl ?_
  refine go_getR (z := 11) dX4_loseAskOf_8 rfl fX4_24 (by assumption) rfl (by assumption) ?_
  refine go_iload_n (z := 12) dX4_loseAskOf_11 rfl rfl ?_
  refine go_aaldR (z := 13) _ (by assumption) ⟨by decide, by decide⟩ (by decide) rfl (by omega) (by assumption) dX4_loseAskOf_12 rfl ?_
  refine go_iconst (z := 14) (v := 1) dX4_loseAskOf_13 rfl (by decide) ?_
  refine go_putI (z := 17) dX4_loseAskOf_14 rfl fX4_137 (by assumption) rfl (Or.inl rfl) (congrArg Value.int (by decide)) ?_
  refine go_vret dX4_loseAskOf_17 rfl ?_
  exact ⟨rfl, rfl, rfl, rfl⟩
theorem c_dropMessage {k : Nat} {x : Mg} (hL : StL G n S) (hR : Rep S m i r) (hx : m.2.2.2.2[k]? = some x) (hok : MgOk Gd x) : Go l G mX4_dropMessage 2 0 0 0 (lentry [.ref S, .int (nI k)] 4) [] n i r (ChgI (x.1 3) n S i r (mDrop k x m)) := by
  have hs := hL.s
  have hmm := hL.ms
  have hR0 := hR
  have hk : k < m.2.2.2.2.length := (List.getElem?_eq_some_iff.mp hx).1
  obtain ⟨f, t, hf, ht, hxf, hxt, hkind⟩ := hok
  obtain ⟨-, -, -, -, -, mx, hX, hlen, h6, hM⟩ := hR
  obtain ⟨hx1, hx2, hx3⟩ := hX.1 k (by omega)
  have hMk := hM k x hx
  have hMe := hL.me hx2 hx3
  have e5 := hR0.1.2.2.1
  have hnf : (nI f).toNatClampNeg = f := nI_clamp (by omega)
  have hnt : (nI t).toNatClampNeg = t := nI_clamp (by omega)
  refine go_aload_n (z := 1) dX4_dropMessage_0 rfl rfl ?_
  refine go_iload_n (z := 2) dX4_dropMessage_1 rfl rfl ?_
  refine go_callV (z := 5) (t := 4) [.int (nI k)] dX4_dropMessage_2 rfl mlX4_isOnItsWay vX4_123 ⟨by decide, rfl⟩ (by assumption) rfl rfl (by decide) (cat_i cat_nil) (by simp) (by decide) (by first | decide | omega) (by first | decide | omega) (c_isOn1 hL hR0 hk) ?_
  refine ret_elim ?_
  refine go_if_ne (z := 10) (z2 := 8) dX4_dropMessage_5 rfl (by decide) (fun _ => ?_) (fun h => absurd h (by decide))
  refine go_aload_n (z := 11) dX4_dropMessage_10 rfl rfl ?_
  refine go_getR (z := 14) dX4_dropMessage_11 rfl fX4_30 (by assumption) rfl (by assumption) ?_
  refine go_iload_n (z := 15) dX4_dropMessage_14 rfl rfl ?_
  refine go_aaldR (z := 16) k (by assumption) ⟨by decide, by decide⟩ (by decide) rfl (by omega) (by assumption) dX4_dropMessage_15 rfl ?_
  refine go_astore_n (z := 17) dX4_dropMessage_16 rfl (by decide) ?_
  refine go_aload_n (z := 18) dX4_dropMessage_17 rfl rfl ?_
  refine go_getI (z := 21) dX4_dropMessage_18 rfl fX4_113 hMe rfl ?_
  refine go_istore_n (z := 22) dX4_dropMessage_21 rfl (by decide) ?_
  refine go_aload_n (z := 23) dX4_dropMessage_22 rfl rfl ?_
  refine go_getI (z := 26) dX4_dropMessage_23 rfl fX4_104 hMe rfl ?_
  refine go_iconst (z := 27) (v := 1) dX4_dropMessage_26 rfl (by decide) ?_
  rw [hMk.1 3 (by omega), hMk.1 0 (by omega)]
  have last : ∀ (m2 : MS) (i2 : IP), m2.2.2.2.2 = m.2.2.2.2 → mDrop k x m = mOut k (sZ (sZ (sZ m2 9 (m2.1 9 + x.1 3)) 12 (m2.1 12 + 1)) 13 1) → Rep S m2 i2 r → Out S i r i2 r → Go l G mX4_dropMessage 2 0 0 54 [some (.ref S), some (.int (nI k)), some (.ref (mx k)), some (.int (x.1 3))] [] n i2 r (ChgI (x.1 3) n S i r (mDrop k x m)) := by
    intro m2 i2 hms hd hR2 hO2
    refine go_aload_n (z := 55) dX4_dropMessage_54 rfl rfl ?_
    refine go_dup (z := 56) dX4_dropMessage_55 rfl rfl ?_
    refine go_getI (z := 59) dX4_dropMessage_56 rfl fX4_63 (by assumption) rfl ?_
    refine go_iload_n (z := 60) dX4_dropMessage_59 rfl rfl ?_
    refine go_iadd (z := 61) dX4_dropMessage_60 rfl ?_
    refine go_putI (z := 64) dX4_dropMessage_61 rfl fX4_63 (by assumption) rfl (Or.inl rfl) rfl ?_
    refine go_aload_n (z := 65) dX4_dropMessage_64 rfl rfl ?_
    refine go_dup (z := 66) dX4_dropMessage_65 rfl rfl ?_
    refine go_getI (z := 69) dX4_dropMessage_66 rfl fX4_72 (by assumption) rfl ?_
    refine go_iconst (z := 70) (v := 1) dX4_dropMessage_69 rfl (by decide) ?_
    refine go_iadd (z := 71) dX4_dropMessage_70 rfl ?_
    refine go_putI (z := 74) dX4_dropMessage_71 rfl fX4_72 (by assumption) rfl (Or.inl rfl) rfl ?_
    refine go_aload_n (z := 75) dX4_dropMessage_74 rfl rfl ?_
    refine go_iconst (z := 76) (v := 1) dX4_dropMessage_75 rfl (by decide) ?_
    refine go_putI (z := 79) dX4_dropMessage_76 rfl fX4_75 (by assumption) rfl (Or.inl rfl) (congrArg Value.int (by decide)) ?_
    rw [show ups i2 S 9 (i2 S 9 + x.1 3) S 12 = i2 S 12 from ups_k (by decide), hR2.2.1 9 (by omega), hR2.2.1 12 (by omega)]
    have hR3 := ((hR2.putZ (k := 9) (m2.1 9 + x.1 3) (by omega)).putZ (k := 12) (m2.1 12 + 1) (by omega)).putZ (k := 13) 1 (by omega)
    have hO3 : Out S i2 r (ups (ups (ups i2 S 9 (m2.1 9 + x.1 3)) S 12 (m2.1 12 + 1)) S 13 1) r := ((Out.pi (by omega) (by omega)).tr (Out.pi (by omega) (by omega))).tr (Out.pi (by omega) (by omega))
    refine go_aload_n (z := 80) dX4_dropMessage_79 rfl rfl ?_
    refine go_iload_n (z := 81) dX4_dropMessage_80 rfl rfl ?_
    refine go_callV (z := 84) (t := 4) [.int (nI k)] dX4_dropMessage_81 rfl mlX4_takeOut vX4_131 ⟨by decide, rfl⟩ (by assumption) rfl rfl (by decide) (cat_i cat_nil) (by simp) (by decide) (by first | decide | omega) (by first | decide | omega) (c_takeOut hL hR3 (by show k < m2.2.2.2.2.length; rw [hms]; exact hk)) ?_
    refine chg_elim (fun i4 r4 hR4 hO4 => ?_)
    refine go_iload_n (z := 85) dX4_dropMessage_84 rfl rfl ?_
    refine go_iret dX4_dropMessage_85 rfl ⟨rfl, rfl, ?_, (hO2.tr hO3).tr hO4⟩
    rw [hd]
    exact hR4
  have hm0 : mDrop k x m = mOut k (let m2 := if x.1 0 = 2 then sH (if x.1 0 = 1 then sH m (x.1 1).toNatClampNeg 5 1 else m) (x.1 2).toNatClampNeg 5 1 else (if x.1 0 = 1 then sH m (x.1 1).toNatClampNeg 5 1 else m); sZ (sZ (sZ m2 9 (m2.1 9 + x.1 3)) 12 (m2.1 12 + 1)) 13 1) := rfl
  refine go_icmp_ne (z := 38) (z2 := 30) dX4_dropMessage_27 rfl (by decide) (fun h1 => ?_) (fun h1 => ?_)
  · refine go_aload_n (z := 39) dX4_dropMessage_38 rfl rfl ?_
    refine go_getI (z := 42) dX4_dropMessage_39 rfl fX4_104 hMe rfl ?_
    refine go_iconst (z := 43) (v := 2) dX4_dropMessage_42 rfl (by decide) ?_
    rw [hMk.1 0 (by omega)]
    refine go_icmp_ne (z := 54) (z2 := 46) dX4_dropMessage_43 rfl (by decide) (fun h2 => ?_) (fun h2 => ?_)
    · exact last m i rfl (by rw [hm0, if_neg h2, if_neg h1]) hR0 Out.rf
    · have htt : t < 6 := by
        rcases hkind with ⟨q, -⟩ | ⟨q, -⟩ | ⟨-, q, -⟩ | ⟨q, -⟩
        · rw [h2] at q; exact absurd q (by decide)
        · rw [h2] at q; exact absurd q (by decide)
        · exact q
        · rw [h2] at q; exact absurd q (by decide)
      refine go_aload_n (z := 47) dX4_dropMessage_46 rfl rfl ?_
      refine go_aload_n (z := 48) dX4_dropMessage_47 rfl rfl ?_
      refine go_getI (z := 51) dX4_dropMessage_48 rfl fX4_110 hMe rfl ?_
      refine go_st (st' := [.int (nI t), .ref S]) (by rw [hMk.1 2 (by omega), hxt]; rfl) ?_
      refine go_callV (z := 54) (t := 4) [.int (nI t)] dX4_dropMessage_51 rfl mlX4_loseAskOf vX4_127 ⟨by decide, rfl⟩ (by assumption) rfl rfl (by decide) (cat_i cat_nil) (by simp) (by decide) (by first | decide | omega) (by first | decide | omega) (c_loseAskX htt hL hR0) ?_
      intro v n2 i2 r2 hp
      obtain ⟨hp1, hp2, hp3, hp4⟩ := hp
      rw [hp1, hp2, hp3, hp4]
      exact last (sH m t 5 1) _ rfl (by rw [hm0, if_pos h2, if_neg h1, hxt, hnt]) (hR0.putH _ htt (by omega)) (Out.pi (by omega) (by omega))
  · have hff : f < 6 := by
      rcases hkind with ⟨q, -⟩ | ⟨-, q, -⟩ | ⟨q, -⟩ | ⟨q, -⟩
      · rw [h1] at q; exact absurd q (by decide)
      · exact q
      · rw [h1] at q; exact absurd q (by decide)
      · rw [h1] at q; exact absurd q (by decide)
    refine go_aload_n (z := 31) dX4_dropMessage_30 rfl rfl ?_
    refine go_aload_n (z := 32) dX4_dropMessage_31 rfl rfl ?_
    refine go_getI (z := 35) dX4_dropMessage_32 rfl fX4_107 hMe rfl ?_
    refine go_st (st' := [.int (nI f), .ref S]) (by rw [hMk.1 1 (by omega), hxf]; rfl) ?_
    refine go_callV (z := 38) (t := 4) [.int (nI f)] dX4_dropMessage_35 rfl mlX4_loseAskOf vX4_127 ⟨by decide, rfl⟩ (by assumption) rfl rfl (by decide) (cat_i cat_nil) (by simp) (by decide) (by first | decide | omega) (by first | decide | omega) (c_loseAskX hff hL hR0) ?_
    intro v n2 i2 r2 hp
    obtain ⟨hp1, hp2, hp3, hp4⟩ := hp
    rw [hp1, hp2, hp3, hp4]
    refine go_aload_n (z := 39) dX4_dropMessage_38 rfl rfl ?_
    refine go_getI (z := 42) dX4_dropMessage_39 rfl fX4_104 hMe rfl ?_
    refine go_iconst (z := 43) (v := 2) dX4_dropMessage_42 rfl (by decide) ?_
    rw [show ups i (S + 4 + 2 * f) 5 1 (mx k) 0 = x.1 0 by rw [ups_a (by omega)]; exact hMk.1 0 (by omega)]
    refine go_icmp_ne (z := 54) (z2 := 46) dX4_dropMessage_43 rfl (by decide) (fun h2 => ?_) (fun h2 => ?_)
    · exact last (sH m f 5 1) _ rfl (by rw [hm0, if_neg h2, if_pos h1, hxf, hnf]) (hR0.putH _ hff (by omega)) (Out.pi (by omega) (by omega))
    · rw [h1] at h2; exact absurd h2 (by decide)
def mGoodN (E : EE) : Nat → MS → MS
  | 0, m => m
  | c + 1, m => mGoodH E c (mGoodN E c m)
def mGood0 (m : MS) : MS := sZ (sZ (sZ m 8 (m.1 8 + m.1 9)) 9 0) 13 0
theorem mGood_N (E : EE) (m : MS) : mGood E m = mGoodN E 6 (mGood0 m) := rfl
def GoodOk (E : EE) (Gd : Nat → Prop) (m : MS) : Prop := ∀ q, q < 6 → (mGoodN E q m).2.2.2.2.length + ((mGoodN E q m).2.2.2.1 q).length ≤ 141 ∧ ∀ e ∈ (mGoodN E q m).2.2.2.1 q, Gd e
theorem c_replaceLost (hL : StL G n S) (hR : Rep S m i r) (hE : RepE G n E Gd i r) (hok : GoodOk E Gd (mGood0 m)) : Go l G mX4_replaceLost 3 0 0 0 (lentry [.ref S] 3) [] n i r (ChgI (m.1 9) n S i r (mGood E m)) := by
  have hs := hL.s
  have hhs := hL.hs
  refine go_aload_n (z := 1) dX4_replaceLost_0 rfl rfl ?_
  refine go_getI (z := 4) dX4_replaceLost_1 rfl fX4_63 (by assumption) rfl ?_
  refine go_istore_n (z := 5) dX4_replaceLost_4 rfl (by decide) ?_
  refine go_aload_n (z := 6) dX4_replaceLost_5 rfl rfl ?_
  refine go_dup (z := 7) dX4_replaceLost_6 rfl rfl ?_
  refine go_getI (z := 10) dX4_replaceLost_7 rfl fX4_60 (by assumption) rfl ?_
  refine go_iload_n (z := 11) dX4_replaceLost_10 rfl rfl ?_
  refine go_iadd (z := 12) dX4_replaceLost_11 rfl ?_
  refine go_putI (z := 15) dX4_replaceLost_12 rfl fX4_60 (by assumption) rfl (Or.inl rfl) rfl ?_
  refine go_aload_n (z := 16) dX4_replaceLost_15 rfl rfl ?_
  refine go_iconst (z := 17) (v := 0) dX4_replaceLost_16 rfl (by decide) ?_
  refine go_putI (z := 20) dX4_replaceLost_17 rfl fX4_63 (by assumption) rfl (Or.inl rfl) rfl ?_
  refine go_aload_n (z := 21) dX4_replaceLost_20 rfl rfl ?_
  refine go_iconst (z := 22) (v := 0) dX4_replaceLost_21 rfl (by decide) ?_
  refine go_putI (z := 25) dX4_replaceLost_22 rfl fX4_75 (by assumption) rfl (Or.inl rfl) (congrArg Value.int (by decide)) ?_
  refine go_iconst (z := 26) (v := 0) dX4_replaceLost_25 rfl (by decide) ?_
  refine go_istore_n (z := 27) dX4_replaceLost_26 rfl (by decide) ?_
  rw [hR.2.1 9 (by omega), hR.2.1 8 (by omega)]
  have hR1 := ((hR.putZ (k := 8) (m.1 8 + m.1 9) (by omega)).putZ (k := 9) 0 (by omega)).putZ (k := 13) 0 (by omega)
  have hO1 : Out S i r (ups (ups (ups i S 8 (m.1 8 + m.1 9)) S 9 0) S 13 0) r := ((Out.pi (by omega) (by omega)).tr (Out.pi (by omega) (by omega))).tr (Out.pi (by omega) (by omega))
  generalize ups (ups (ups i S 8 (m.1 8 + m.1 9)) S 9 0) S 13 0 = i1 at hR1 hO1 ⊢
  rw [mGood_N]
  have hm1 : mGood0 m = sZ (sZ (sZ m 8 (m.1 8 + m.1 9)) 9 0) 13 0 := rfl
  rw [← hm1] at hR1
  clear hm1
  generalize m.1 9 = gr
  generalize mGood0 m = m1 at *
  have works : ∀ (d h : Nat) (i' : IP) (r' : RP), h + d = 6 → Rep S (mGoodN E h m1) i' r' → Out S i r i' r' → Go l G mX4_replaceLost 3 0 0 27 [some (.ref S), some (.int gr), some (.int (nI h))] [] n i' r' (ChgI gr n S i r (mGoodN E 6 m1)) := by
    intro d
    induction d with
    | zero =>
      intro h i' r' hh hR' hO'
      have e4 := hR'.1.2.1
      have hh : h = 6 := by omega
      subst hh
      refine go_iload_n (z := 28) dX4_replaceLost_27 rfl rfl ?_
      refine go_aload_n (z := 29) dX4_replaceLost_28 rfl rfl ?_
      refine go_getR (z := 32) dX4_replaceLost_29 rfl fX4_24 (by assumption) rfl (by assumption) ?_
      refine go_alen (z := 33) (by assumption) (by decide) dX4_replaceLost_32 rfl ?_
      refine go_icmp_ge (z := 79) (z2 := 36) dX4_replaceLost_33 rfl (by decide) (fun _ => ?_) (fun h => absurd (by decide) h)
      refine go_iload_n (z := 80) dX4_replaceLost_79 rfl rfl ?_
      exact go_iret dX4_replaceLost_80 rfl ⟨rfl, rfl, hR', hO'⟩
    | succ d ih =>
      intro h i' r' hh hR' hO'
      have hh6 : h < 6 := by omega
      have e4 := hR'.1.2.1
      have eh := (hR'.1.2.2.2 h hh6).1
      have hho := hL.ho hh6
      have hv5 : i' (S + 4 + 2 * h) 5 = (mGoodN E h m1).2.2.1 h 5 := hR'.2.2.2.1 h hh6 5 (by omega)
      refine go_iload_n (z := 28) dX4_replaceLost_27 rfl rfl ?_
      refine go_aload_n (z := 29) dX4_replaceLost_28 rfl rfl ?_
      refine go_getR (z := 32) dX4_replaceLost_29 rfl fX4_24 (by assumption) rfl (by assumption) ?_
      refine go_alen (z := 33) (by assumption) (by decide) dX4_replaceLost_32 rfl ?_
      refine go_icmp_ge (z := 79) (z2 := 36) dX4_replaceLost_33 rfl (by decide) (fun q => absurd q (nI_ge hh6 (by omega))) (fun _ => ?_)
      refine go_aload_n (z := 37) dX4_replaceLost_36 rfl rfl ?_
      refine go_getR (z := 40) dX4_replaceLost_37 rfl fX4_24 (by assumption) rfl (by assumption) ?_
      refine go_iload_n (z := 41) dX4_replaceLost_40 rfl rfl ?_
      refine go_aaldR (z := 42) _ (by assumption) ⟨by decide, by decide⟩ (by decide) rfl (by omega) (by assumption) dX4_replaceLost_41 rfl ?_
      refine go_getI (z := 45) dX4_replaceLost_42 rfl fX4_137 (by assumption) rfl ?_
      have nxt : ∀ (i2 : IP) (r2 : RP), Rep S (mGoodN E (h + 1) m1) i2 r2 → Out S i r i2 r2 → Go l G mX4_replaceLost 3 0 0 73 [some (.ref S), some (.int gr), some (.int (nI h))] [] n i2 r2 (ChgI gr n S i r (mGoodN E 6 m1)) := by
        intro i2 r2 hR2 hO2
        refine go_iinc (z := 76) dX4_replaceLost_73 rfl rfl (nI_1 h) (by decide) ?_
        refine go_goto (z := 27) dX4_replaceLost_76 (by decide) ?_
        exact go_lo (lo' := [some (.ref S), some (.int gr), some (.int (nI (h + 1)))]) rfl (ih (h + 1) i2 r2 (by omega) hR2 hO2)
      have hN : mGoodN E (h + 1) m1 = mGoodH E h (mGoodN E h m1) := rfl
      refine go_if_eq (z := 73) (z2 := 48) dX4_replaceLost_45 rfl (by decide) (fun hb => ?_) (fun hb => ?_)
      · rw [hv5] at hb
        refine nxt i' r' ?_ hO'
        rw [hN]; unfold mGoodH; rw [if_pos hb]
        exact hR'
      · rw [hv5] at hb
        have hR2 := (hR'.putH (k := 5) 0 hh6 (by omega)).putH (k := 4) 0 hh6 (by omega)
        have hO2 : Out S i' r' (ups (ups i' (S + 4 + 2 * h) 5 0) (S + 4 + 2 * h) 4 0) r' := (Out.pi (by omega) (by omega)).tr (Out.pi (by omega) (by omega))
        refine go_aload_n (z := 49) dX4_replaceLost_48 rfl rfl ?_
        refine go_getR (z := 52) dX4_replaceLost_49 rfl fX4_24 (by assumption) rfl (by assumption) ?_
        refine go_iload_n (z := 53) dX4_replaceLost_52 rfl rfl ?_
        refine go_aaldR (z := 54) _ (by assumption) ⟨by decide, by decide⟩ (by decide) rfl (by omega) (by assumption) dX4_replaceLost_53 rfl ?_
        refine go_iconst (z := 55) (v := 0) dX4_replaceLost_54 rfl (by decide) ?_
        refine go_putI (z := 58) dX4_replaceLost_55 rfl fX4_137 (by assumption) rfl (Or.inl rfl) (congrArg Value.int (by decide)) ?_
        refine go_aload_n (z := 59) dX4_replaceLost_58 rfl rfl ?_
        refine go_getR (z := 62) dX4_replaceLost_59 rfl fX4_24 (by assumption) rfl (by assumption) ?_
        refine go_iload_n (z := 63) dX4_replaceLost_62 rfl rfl ?_
        refine go_aaldR (z := 64) _ (by assumption) ⟨by decide, by decide⟩ (by decide) rfl (by omega) (by assumption) dX4_replaceLost_63 rfl ?_
        refine go_iconst (z := 65) (v := 0) dX4_replaceLost_64 rfl (by decide) ?_
        refine go_putI (z := 68) dX4_replaceLost_65 rfl fX4_140 (by assumption) rfl (Or.inl rfl) (congrArg Value.int (by decide)) ?_
        refine go_aload_n (z := 69) dX4_replaceLost_68 rfl rfl ?_
        refine go_iload_n (z := 70) dX4_replaceLost_69 rfl rfl ?_
        refine go_callV (z := 73) (t := 4) [.int (nI h)] dX4_replaceLost_70 rfl mlX4_sendWhatItCan vX4_143 ⟨by decide, rfl⟩ (by assumption) rfl rfl (by decide) (cat_i cat_nil) (by simp) (by decide) (by first | decide | omega) (by first | decide | omega) (c_sendWhatItCan hh6 hL hR2 (hE.out hL (hO'.tr hO2)) (hok h hh6).2 (hok h hh6).1) ?_
        refine chg_elim (fun i3 r3 hR3 hO3 => ?_)
        refine nxt i3 r3 ?_ ((hO'.tr hO2).tr hO3)
        rw [hN]; unfold mGoodH; rw [if_neg hb]
        exact hR3
  exact go_lo (lo' := [some (.ref S), some (.int gr), some (.int (nI 0))]) rfl (works 6 0 i1 r (by omega) hR1 hO1)
/-- the reader's errands: Rd, its row of heads -/
theorem c_startErrands {Rd hd : Nat} {roots : List Nat} (hL : StL G n S) (hR : Rep S m i r) (hE : RepE G n E Gd i r) (hRd : Ok G n Rd 3) (hhd : OkA G n hd 9 15) (ho1 : Rd < S ∨ S + 157 ≤ Rd) (ho2 : hd < S ∨ S + 157 ≤ hd) (h1 : i Rd 1 = nI roots.length) (h2 : r Rd 0 = some hd) (hl : roots.length ≤ 15) (h3 : ∀ (c a : Nat), roots[c]? = some a → r hd c = some a ∧ Gd a) (hcap : m.2.2.2.2.length + roots.length ≤ 141) : Go l G mX4_startErrands 1 0 0 0 (lentry [.ref S, .ref Rd] 4) [] n i r (Chg n S i r (mLaunch E roots m)) := by
  have hs := hL.s
  refine go_iconst (z := 1) (v := 0) dX4_startErrands_0 rfl (by decide) ?_
  refine go_istore_n (z := 2) dX4_startErrands_1 rfl (by decide) ?_
  have loop : ∀ (rest : List Nat) (c : Nat) (lo3 : Option Value) (m' : MS) (i' : IP) (r' : RP), c + rest.length = roots.length → (∀ (k a : Nat), rest[k]? = some a → roots[c + k]? = some a) → mLaunch E rest m' = mLaunch E roots m → m'.2.2.2.2.length + rest.length ≤ 141 → Rep S m' i' r' → Out S i r i' r' → Go l G mX4_startErrands 1 0 0 2 [some (.ref S), some (.ref Rd), some (.int (nI c)), lo3] [] n i' r' (Chg n S i r (mLaunch E roots m)) := by
    intro rest
    induction rest with
    | nil =>
      intro c lo3 m' i' r' hc hk hm hcp hR' hO'
      have g1 : i' Rd 1 = nI roots.length := by rw [(hO' Rd ho1).1]; exact h1
      refine go_iload_n (z := 3) dX4_startErrands_2 rfl rfl ?_
      refine go_aload_n (z := 4) dX4_startErrands_3 rfl rfl ?_
      refine go_getI (z := 7) dX4_startErrands_4 rfl fX4_82 (by assumption) rfl ?_
      refine go_icmp_ge (z := 62) (z2 := 10) dX4_startErrands_7 rfl (by decide) (fun _ => ?_) (fun h => ?_)
      · refine go_vret dX4_startErrands_62 rfl ⟨rfl, rfl, ?_, hO'⟩
        rw [← hm]; exact hR'
      · exact absurd (by rw [g1]; exact nI_le (by simp at hc; omega) (by omega)) h
    | cons a rest ih =>
      intro c lo3 m' i' r' hc hk hm hcp hR' hO'
      have g1 : i' Rd 1 = nI roots.length := by rw [(hO' Rd ho1).1]; exact h1
      have g2 : r' Rd 0 = some hd := by rw [(hO' Rd ho1).2]; exact h2
      obtain ⟨q3, hga⟩ := h3 c a (hk 0 a rfl)
      have g3 : r' hd c = some a := by rw [(hO' hd ho2).2]; exact q3
      have hlr : c + (rest.length + 1) = roots.length := hc
      have hE' := hE.out hL hO'
      have hGa := hE' a hga
      have hoka := hGa.1
      refine go_iload_n (z := 3) dX4_startErrands_2 rfl rfl ?_
      refine go_aload_n (z := 4) dX4_startErrands_3 rfl rfl ?_
      refine go_getI (z := 7) dX4_startErrands_4 rfl fX4_82 (by assumption) rfl ?_
      refine go_icmp_ge (z := 62) (z2 := 10) dX4_startErrands_7 rfl (by decide) (fun h => ?_) (fun _ => ?_)
      · exact absurd h (by rw [g1]; exact nI_ge (by omega) (by omega))
      · refine go_iload_n (z := 11) dX4_startErrands_10 rfl rfl ?_
        refine go_aload_n (z := 12) dX4_startErrands_11 rfl rfl ?_
        refine go_getR (z := 15) dX4_startErrands_12 rfl fX4_87 (by assumption) rfl (by assumption) ?_
        refine go_alen (z := 16) (by assumption) (by decide) dX4_startErrands_15 rfl ?_
        refine go_icmp_ge (z := 62) (z2 := 19) dX4_startErrands_16 rfl (by decide) (fun h => ?_) (fun _ => ?_)
        · exact absurd h (nI_ge (by omega) (by omega))
        · refine go_aload_n (z := 20) dX4_startErrands_19 rfl rfl ?_
          refine go_getR (z := 23) dX4_startErrands_20 rfl fX4_87 (by assumption) rfl (by assumption) ?_
          refine go_iload_n (z := 24) dX4_startErrands_23 rfl rfl ?_
          refine go_aaldR (z := 25) _ (by assumption) ⟨by decide, by decide⟩ (by decide) rfl (by omega) (by assumption) dX4_startErrands_24 rfl ?_
          refine go_astore_n (z := 26) dX4_startErrands_25 rfl (by decide) ?_
          refine go_aload_n (z := 27) dX4_startErrands_26 rfl rfl ?_
          refine go_ifnull (a := some a) (z := 56) (z2 := 30) dX4_startErrands_27 rfl (by decide) (fun h => by cases h) (fun b hb => ?_)
          clear hb b
          refine go_aload_n (z := 31) dX4_startErrands_30 rfl rfl ?_
          refine go_dup (z := 32) dX4_startErrands_31 rfl rfl ?_
          refine go_getI (z := 35) dX4_startErrands_32 rfl fX4_66 (by assumption) rfl ?_
          refine go_iconst (z := 36) (v := 1) dX4_startErrands_35 rfl (by decide) ?_
          refine go_iadd (z := 37) dX4_startErrands_36 rfl ?_
          refine go_putI (z := 40) dX4_startErrands_37 rfl fX4_66 (by assumption) rfl (Or.inl rfl) rfl ?_
          rw [hR'.2.1 10 (by omega)]
          have hR1 := hR'.putZ (k := 10) (m'.1 10 + 1) (by omega)
          have hO1 : Out S i' r' (ups i' S 10 (m'.1 10 + 1)) r' := Out.pi (by omega) (by omega)
          have hE1 := hE'.out hL hO1
          generalize ups i' S 10 (m'.1 10 + 1) = i1 at hR1 hO1 hE1 ⊢
          refine go_aload_n (z := 41) dX4_startErrands_40 rfl rfl ?_
          refine go_iconst (z := 42) (v := 0) dX4_startErrands_41 rfl (by decide) ?_
          refine go_bipush (z := 44) (v := 6) dX4_startErrands_42 rfl (by decide) ?_
          refine go_aload_n (z := 45) dX4_startErrands_44 rfl rfl ?_
          refine go_getI (z := 48) dX4_startErrands_45 rfl fX4_91 (by assumption) rfl ?_
          refine go_st (st' := [.int (nI (E.1 a)), .int 6, .int 0, .ref S]) (by rw [(hE1 a hga).2.2.1]) ?_
          refine go_aload_n (z := 49) dX4_startErrands_48 rfl rfl ?_
          refine go_callV (z := 52) (t := 4) [] dX4_startErrands_49 rfl mlX4_mint vX4_96 ⟨by decide, rfl⟩ (by assumption) rfl rfl (by decide) cat_nil (by simp) (by decide) (by first | decide | omega) (by first | decide | omega) (c_mint hL hR1) ?_
          refine chgI_elim (fun i2 r2 hR2 hO2 => ?_)
          have ec : coin (sZ m' 10 (m'.1 10 + 1)) = coin m' := by unfold coin; rw [sZ_n m' (m'.1 10 + 1) (by decide : (1:Nat) ≠ 10)]
          rw [ec]
          have ha6 := (hE a hga).2.1
          have hln : (mMint (sZ m' 10 (m'.1 10 + 1))).2.2.2.2 = m'.2.2.2.2 := rfl
          have hcp' : m'.2.2.2.2.length + (rest.length + 1) ≤ 141 := hcp
          refine go_aload_n (z := 53) dX4_startErrands_52 rfl rfl ?_
          refine go_callV (z := 56) (t := 4) [.int 0, .int (nI 6), .int (nI (E.1 a)), .int (coin m'), va_rf (some a)] dX4_startErrands_53 rfl mlX4_post vX4_100 ⟨by decide, rfl⟩ (by assumption) rfl rfl (by decide) (cat_i (cat_i (cat_i (cat_i (cat_o cat_nil))))) (by simp) (by decide) (by first | decide | omega) (by first | decide | omega) (c_post hL hR2 (by omega) (by omega) (by rw [hln]; omega)) ?_
          refine chg_elim (fun i3 r3 hR3 hO3 => ?_)
          refine go_iinc (z := 59) dX4_startErrands_56 rfl rfl (nI_1 c) (by decide) ?_
          refine go_goto (z := 2) dX4_startErrands_59 (by decide) ?_
          refine go_lo (lo' := [some (.ref S), some (.ref Rd), some (.int (nI (c + 1))), some (.ref a)]) rfl (ih (c + 1) _ _ i3 r3 (by omega) (fun k b hkb => ?_) hm ?_ hR3 (((hO'.tr hO1).tr hO2).tr hO3))
          · have := hk (k + 1) b hkb
            rw [show c + 1 + k = c + (k + 1) by omega]
            exact this
          · rw [mPost_len, hln]; omega
  exact go_lo (lo' := [some (.ref S), some (.ref Rd), some (.int (nI 0)), none]) rfl (loop roots 0 none m i r (by omega) (fun k a h => by rw [Nat.zero_add]; exact h) rfl hcap hR Out.rf)
end STATE5
end
section
def gsum (ms : List Mg) : Int32 := ms.foldl (fun a x => a + x.1 3) 0
def hStuck (H : Nat → Int32) : Bool := decide (H 0 = 0 ∨ (H 2 = 0 ∧ ¬ H 4 = 0))
def allH (p : Nat → Bool) : Nat → Bool
  | 0 => true
  | c + 1 => allH p c && p c
def mStuck (m : MS) : Bool := allH (fun h => hStuck (m.2.2.1 h)) 6 && decide (m.2.2.2.2.length = 0)
def mAsked (m : MS) : Bool := !allH (fun h => decide (m.2.2.1 h 8 ≤ 0)) 6
def sumQ (E : EE) (Q : Nat → List Nat) : Nat → Nat
  | 0 => 0
  | c + 1 => sumQ E Q c + ((Q c).map E.2.2.1).sum
def sz (E : EE) : Option Nat → Nat
  | none => 0
  | some b => E.2.2.1 b
def sumM (E : EE) (ms : List Mg) : Nat := (ms.map (fun x => sz E x.2)).sum
def mAll (E : EE) (m : MS) : Nat := sumQ E m.2.2.2.1 6 + sumM E m.2.2.2.2
def tellS (m : MS) (x : Int32) : Int32 := if x.toInt = 0 then m.1 0 else if x.toInt = 1 then m.1 7 else if x.toInt = 2 then m.1 8 else if x.toInt = 3 then sumH m.2.2.1 1 6 else if x.toInt = 4 then gsum m.2.2.2.2 else if x.toInt = 5 then m.1 9 else if x.toInt = 6 then nI m.2.2.2.2.length else if x.toInt = 7 then cntB m.2.2.1 6 else if x.toInt = 8 then m.1 10 else if x.toInt = 9 then m.1 11 else if x.toInt = 10 then m.1 12 else if x.toInt = 11 then b2i (mQuiet m) else if x.toInt = 12 then b2i (mIdle m) else if x.toInt = 13 then m.1 1 else if x.toInt = 14 then m.1 2 else -2
theorem tellS_out {m : MS} {x : Int32} (h : x.toInt < 0 ∨ 14 < x.toInt) : tellS m x = -2 := by
  unfold tellS
  rw [if_neg (by omega), if_neg (by omega), if_neg (by omega), if_neg (by omega), if_neg (by omega), if_neg (by omega), if_neg (by omega), if_neg (by omega), if_neg (by omega), if_neg (by omega), if_neg (by omega), if_neg (by omega), if_neg (by omega), if_neg (by omega), if_neg (by omega)]
theorem eAll_sz (E : EE) (o : Option Nat) : eAll E o = nI (sz E o) := by cases o <;> rfl
theorem allH_false {p : Nat → Bool} {h : Nat} (hp : p h = false) : ∀ {n : Nat}, h < n → allH p n = false := by
  intro n
  induction n with
  | zero => intro q; omega
  | succ n ih =>
    intro q
    show (allH p n && p n) = false
    by_cases e : h = n
    · subst e; rw [hp]; simp
    · rw [ih (by omega)]; rfl
section STATE6
variable {l : Launch} {G : GG} {n : Nat} {i : IP} {r : RP} {S : Nat} {m : MS} {E : EE} {Gd : Nat → Prop}
theorem c_isQuiet (hL : StL G n S) (hR : Rep S m i r) : Go l G mX4_isQuiet 0 0 0 0 (lentry [.ref S] 1) [] n i r (RetI (b2i (mQuiet m)) n i r) := by
  have hs := hL.s
  have h7 : i S 7 = m.1 7 := hR.2.1 7 (by omega)
  have h8 : i S 8 = m.1 8 := hR.2.1 8 (by omega)
  refine go_aload_n (z := 1) dX4_isQuiet_0 rfl rfl ?_
  refine go_getI (z := 4) dX4_isQuiet_1 rfl fX4_57 (by assumption) rfl ?_
  refine go_aload_n (z := 5) dX4_isQuiet_4 rfl rfl ?_
  refine go_getI (z := 8) dX4_isQuiet_5 rfl fX4_60 (by assumption) rfl ?_
  refine go_icmp_ne (z := 15) (z2 := 11) dX4_isQuiet_8 rfl (by decide) (fun h8 => ?_) (fun h8 => ?_)
  · refine go_iconst (z := 16) (v := 0) dX4_isQuiet_15 rfl (by decide) ?_
    refine go_zret dX4_isQuiet_16 rfl (congrArg Value.int (by decide)) ?_
    exact ⟨by simp_all [b2i, mQuiet], rfl, rfl, rfl⟩
  · refine go_iconst (z := 12) (v := 1) dX4_isQuiet_11 rfl (by decide) ?_
    refine go_goto (z := 16) dX4_isQuiet_12 (by decide) ?_
    refine go_zret dX4_isQuiet_16 rfl (congrArg Value.int (by decide)) ?_
    exact ⟨by simp_all [b2i, mQuiet], rfl, rfl, rfl⟩
theorem c_busyHouses (hL : StL G n S) (hR : Rep S m i r) : Go l G mX4_busyHouses 0 0 0 0 (lentry [.ref S] 6) [] n i r (RetI (cntB m.2.2.1 6) n i r) := by
  have hs := hL.s
  have hhs := hL.hs
  have e4 := hR.1.2.1
  refine go_iconst (z := 1) (v := 0) dX4_busyHouses_0 rfl (by decide) ?_
  refine go_istore_n (z := 2) dX4_busyHouses_1 rfl (by decide) ?_
  refine go_aload_n (z := 3) dX4_busyHouses_2 rfl rfl ?_
  refine go_getR (z := 6) dX4_busyHouses_3 rfl fX4_24 (by assumption) rfl (by assumption) ?_
  refine go_astore_n (z := 7) dX4_busyHouses_6 rfl (by decide) ?_
  refine go_aload_n (z := 8) dX4_busyHouses_7 rfl rfl ?_
  refine go_alen (z := 9) (by assumption) (by decide) dX4_busyHouses_8 rfl ?_
  refine go_istore_n (z := 10) dX4_busyHouses_9 rfl (by decide) ?_
  refine go_iconst (z := 11) (v := 0) dX4_busyHouses_10 rfl (by decide) ?_
  refine go_istore (z := 13) dX4_busyHouses_11 rfl (by decide) ?_
  have loop : ∀ (d h : Nat) (lo5 : Option Value), h + d = 6 → Go l G mX4_busyHouses 0 0 0 13 [some (.ref S), some (.int (cntB m.2.2.1 h)), some (.ref (S + 2)), some (.int (nI 6)), some (.int (nI h)), lo5] [] n i r (RetI (cntB m.2.2.1 6) n i r) := by
    intro d
    induction d with
    | zero =>
      intro h lo5 hh
      have hh : h = 6 := by omega
      subst hh
      refine go_iload (z := 15) dX4_busyHouses_13 rfl rfl ?_
      refine go_iload_n (z := 16) dX4_busyHouses_15 rfl rfl ?_
      refine go_icmp_ge (z := 42) (z2 := 19) dX4_busyHouses_16 rfl (by decide) (fun _ => ?_) (fun h => absurd (by decide) h)
      refine go_iload_n (z := 43) dX4_busyHouses_42 rfl rfl ?_
      exact go_iret dX4_busyHouses_43 rfl ret_ok
    | succ d ih =>
      intro h lo5 hh
      have hh6 : h < 6 := by omega
      have eh := (hR.1.2.2.2 h hh6).1
      have hho := hL.ho hh6
      have hv0 : i (S + 4 + 2 * h) 0 = m.2.2.1 h 0 := hR.2.2.2.1 h hh6 0 (by omega)
      refine go_iload (z := 15) dX4_busyHouses_13 rfl rfl ?_
      refine go_iload_n (z := 16) dX4_busyHouses_15 rfl rfl ?_
      refine go_icmp_ge (z := 42) (z2 := 19) dX4_busyHouses_16 rfl (by decide) (fun q => absurd q (nI_ge hh6 (by omega))) (fun _ => ?_)
      refine go_aload_n (z := 20) dX4_busyHouses_19 rfl rfl ?_
      refine go_iload (z := 22) dX4_busyHouses_20 rfl rfl ?_
      refine go_aaldR (z := 23) _ (by assumption) ⟨by decide, by decide⟩ (by decide) rfl (by omega) (by assumption) dX4_busyHouses_22 rfl ?_
      refine go_astore (z := 25) dX4_busyHouses_23 rfl (by decide) ?_
      refine go_aload (z := 27) dX4_busyHouses_25 rfl rfl ?_
      refine go_getI (z := 30) dX4_busyHouses_27 rfl fX4_152 (by assumption) rfl ?_
      refine go_if_eq (z := 36) (z2 := 33) dX4_busyHouses_30 rfl (by decide) (fun hb => ?_) (fun hb => ?_)
      · rw [hv0] at hb
        refine go_iinc (z := 39) dX4_busyHouses_36 rfl rfl (nI_1 h) (by decide) ?_
        refine go_goto (z := 13) dX4_busyHouses_39 (by decide) ?_
        refine go_lo (lo' := [some (.ref S), some (.int (cntB m.2.2.1 (h + 1))), some (.ref (S + 2)), some (.int (nI 6)), some (.int (nI (h + 1))), some (.ref (S + 4 + 2 * h))]) ?_ (ih (h + 1) _ (by omega))
        have : cntB m.2.2.1 (h + 1) = cntB m.2.2.1 h := by show (if _ then _ else _) = _; rw [if_pos hb]
        rw [this]; rfl
      · rw [hv0] at hb
        refine go_iinc (z := 36) dX4_busyHouses_33 rfl rfl rfl (by decide) ?_
        refine go_iinc (z := 39) dX4_busyHouses_36 rfl rfl (nI_1 h) (by decide) ?_
        refine go_goto (z := 13) dX4_busyHouses_39 (by decide) ?_
        refine go_lo (lo' := [some (.ref S), some (.int (cntB m.2.2.1 (h + 1))), some (.ref (S + 2)), some (.int (nI 6)), some (.int (nI (h + 1))), some (.ref (S + 4 + 2 * h))]) ?_ (ih (h + 1) _ (by omega))
        have : cntB m.2.2.1 (h + 1) = cntB m.2.2.1 h + 1 := by show (if _ then _ else _) = _; rw [if_neg hb]
        rw [this]; rfl
  exact go_lo (lo' := [some (.ref S), some (.int (cntB m.2.2.1 0)), some (.ref (S + 2)), some (.int (nI 6)), some (.int (nI 0)), none]) rfl (loop 6 0 none (by omega))
theorem c_grainsInHouses (hL : StL G n S) (hR : Rep S m i r) : Go l G mX4_grainsInHouses 0 0 0 0 (lentry [.ref S] 6) [] n i r (RetI (sumH m.2.2.1 1 6) n i r) := by
  have hs := hL.s
  have hhs := hL.hs
  have e4 := hR.1.2.1
  refine go_iconst (z := 1) (v := 0) dX4_grainsInHouses_0 rfl (by decide) ?_
  refine go_istore_n (z := 2) dX4_grainsInHouses_1 rfl (by decide) ?_
  refine go_aload_n (z := 3) dX4_grainsInHouses_2 rfl rfl ?_
  refine go_getR (z := 6) dX4_grainsInHouses_3 rfl fX4_24 (by assumption) rfl (by assumption) ?_
  refine go_astore_n (z := 7) dX4_grainsInHouses_6 rfl (by decide) ?_
  refine go_aload_n (z := 8) dX4_grainsInHouses_7 rfl rfl ?_
  refine go_alen (z := 9) (by assumption) (by decide) dX4_grainsInHouses_8 rfl ?_
  refine go_istore_n (z := 10) dX4_grainsInHouses_9 rfl (by decide) ?_
  refine go_iconst (z := 11) (v := 0) dX4_grainsInHouses_10 rfl (by decide) ?_
  refine go_istore (z := 13) dX4_grainsInHouses_11 rfl (by decide) ?_
  have loop : ∀ (d h : Nat) (lo5 : Option Value), h + d = 6 → Go l G mX4_grainsInHouses 0 0 0 13 [some (.ref S), some (.int (sumH m.2.2.1 1 h)), some (.ref (S + 2)), some (.int (nI 6)), some (.int (nI h)), lo5] [] n i r (RetI (sumH m.2.2.1 1 6) n i r) := by
    intro d
    induction d with
    | zero =>
      intro h lo5 hh
      have hh : h = 6 := by omega
      subst hh
      refine go_iload (z := 15) dX4_grainsInHouses_13 rfl rfl ?_
      refine go_iload_n (z := 16) dX4_grainsInHouses_15 rfl rfl ?_
      refine go_icmp_ge (z := 39) (z2 := 19) dX4_grainsInHouses_16 rfl (by decide) (fun _ => ?_) (fun h => absurd (by decide) h)
      refine go_iload_n (z := 40) dX4_grainsInHouses_39 rfl rfl ?_
      exact go_iret dX4_grainsInHouses_40 rfl ret_ok
    | succ d ih =>
      intro h lo5 hh
      have hh6 : h < 6 := by omega
      have eh := (hR.1.2.2.2 h hh6).1
      have hho := hL.ho hh6
      have hv1 : i (S + 4 + 2 * h) 1 = m.2.2.1 h 1 := hR.2.2.2.1 h hh6 1 (by omega)
      refine go_iload (z := 15) dX4_grainsInHouses_13 rfl rfl ?_
      refine go_iload_n (z := 16) dX4_grainsInHouses_15 rfl rfl ?_
      refine go_icmp_ge (z := 39) (z2 := 19) dX4_grainsInHouses_16 rfl (by decide) (fun q => absurd q (nI_ge hh6 (by omega))) (fun _ => ?_)
      refine go_aload_n (z := 20) dX4_grainsInHouses_19 rfl rfl ?_
      refine go_iload (z := 22) dX4_grainsInHouses_20 rfl rfl ?_
      refine go_aaldR (z := 23) _ (by assumption) ⟨by decide, by decide⟩ (by decide) rfl (by omega) (by assumption) dX4_grainsInHouses_22 rfl ?_
      refine go_astore (z := 25) dX4_grainsInHouses_23 rfl (by decide) ?_
      refine go_iload_n (z := 26) dX4_grainsInHouses_25 rfl rfl ?_
      refine go_aload (z := 28) dX4_grainsInHouses_26 rfl rfl ?_
      refine go_getI (z := 31) dX4_grainsInHouses_28 rfl fX4_158 (by assumption) rfl ?_
      rw [hv1]
      refine go_iadd (z := 32) dX4_grainsInHouses_31 rfl ?_
      refine go_istore_n (z := 33) dX4_grainsInHouses_32 rfl (by decide) ?_
      refine go_iinc (z := 36) dX4_grainsInHouses_33 rfl rfl (nI_1 h) (by decide) ?_
      refine go_goto (z := 13) dX4_grainsInHouses_36 (by decide) ?_
      exact go_lo (lo' := [some (.ref S), some (.int (sumH m.2.2.1 1 (h + 1))), some (.ref (S + 2)), some (.int (nI 6)), some (.int (nI (h + 1))), some (.ref (S + 4 + 2 * h))]) rfl (ih (h + 1) _ (by omega))
  exact go_lo (lo' := [some (.ref S), some (.int (sumH m.2.2.1 1 0)), some (.ref (S + 2)), some (.int (nI 6)), some (.int (nI 0)), none]) rfl (loop 6 0 none (by omega))
theorem c_hasAsked (hL : StL G n S) (hR : Rep S m i r) : Go l G mX4_hasAsked 0 0 0 0 (lentry [.ref S] 5) [] n i r (RetI (b2i (mAsked m)) n i r) := by
  have hs := hL.s
  have hhs := hL.hs
  have e4 := hR.1.2.1
  refine go_aload_n (z := 1) dX4_hasAsked_0 rfl rfl ?_
  refine go_getR (z := 4) dX4_hasAsked_1 rfl fX4_24 (by assumption) rfl (by assumption) ?_
  refine go_astore_n (z := 5) dX4_hasAsked_4 rfl (by decide) ?_
  refine go_aload_n (z := 6) dX4_hasAsked_5 rfl rfl ?_
  refine go_alen (z := 7) (by assumption) (by decide) dX4_hasAsked_6 rfl ?_
  refine go_istore_n (z := 8) dX4_hasAsked_7 rfl (by decide) ?_
  refine go_iconst (z := 9) (v := 0) dX4_hasAsked_8 rfl (by decide) ?_
  refine go_istore_n (z := 10) dX4_hasAsked_9 rfl (by decide) ?_
  have loop : ∀ (d h : Nat) (lo5 : Option Value), h + d = 6 → allH (fun h => decide (m.2.2.1 h 8 ≤ 0)) h = true → Go l G mX4_hasAsked 0 0 0 10 [some (.ref S), some (.ref (S + 2)), some (.int (nI 6)), some (.int (nI h)), lo5] [] n i r (RetI (b2i (mAsked m)) n i r) := by
    intro d
    induction d with
    | zero =>
      intro h lo5 hh hp
      have hh : h = 6 := by omega
      subst hh
      refine go_iload_n (z := 11) dX4_hasAsked_10 rfl rfl ?_
      refine go_iload_n (z := 12) dX4_hasAsked_11 rfl rfl ?_
      refine go_icmp_ge (z := 36) (z2 := 15) dX4_hasAsked_12 rfl (by decide) (fun _ => ?_) (fun h => absurd (by decide) h)
      refine go_iconst (z := 37) (v := 0) dX4_hasAsked_36 rfl (by decide) ?_
      refine go_zret dX4_hasAsked_37 rfl (congrArg Value.int (by decide)) ?_
      unfold mAsked
      rw [hp]
      exact ret_ok
    | succ d ih =>
      intro h lo5 hh hp
      have hh6 : h < 6 := by omega
      have eh := (hR.1.2.2.2 h hh6).1
      have hho := hL.ho hh6
      have hv8 : i (S + 4 + 2 * h) 8 = m.2.2.1 h 8 := hR.2.2.2.1 h hh6 8 (by omega)
      refine go_iload_n (z := 11) dX4_hasAsked_10 rfl rfl ?_
      refine go_iload_n (z := 12) dX4_hasAsked_11 rfl rfl ?_
      refine go_icmp_ge (z := 36) (z2 := 15) dX4_hasAsked_12 rfl (by decide) (fun q => absurd q (nI_ge hh6 (by omega))) (fun _ => ?_)
      refine go_aload_n (z := 16) dX4_hasAsked_15 rfl rfl ?_
      refine go_iload_n (z := 17) dX4_hasAsked_16 rfl rfl ?_
      refine go_aaldR (z := 18) _ (by assumption) ⟨by decide, by decide⟩ (by decide) rfl (by omega) (by assumption) dX4_hasAsked_17 rfl ?_
      refine go_astore (z := 20) dX4_hasAsked_18 rfl (by decide) ?_
      refine go_aload (z := 22) dX4_hasAsked_20 rfl rfl ?_
      refine go_getI (z := 25) dX4_hasAsked_22 rfl fX4_170 (by assumption) rfl ?_
      rw [hv8]
      refine go_if_le (z := 30) (z2 := 28) dX4_hasAsked_25 rfl (by decide) (fun hb => ?_) (fun hb => ?_)
      · refine go_iinc (z := 33) dX4_hasAsked_30 rfl rfl (nI_1 h) (by decide) ?_
        refine go_goto (z := 10) dX4_hasAsked_33 (by decide) ?_
        refine go_lo (lo' := [some (.ref S), some (.ref (S + 2)), some (.int (nI 6)), some (.int (nI (h + 1))), some (.ref (S + 4 + 2 * h))]) rfl (ih (h + 1) _ (by omega) ?_)
        show (allH _ h && decide _) = true
        rw [hp, decide_eq_true hb]; rfl
      · refine go_iconst (z := 29) (v := 1) dX4_hasAsked_28 rfl (by decide) ?_
        refine go_zret dX4_hasAsked_29 rfl (congrArg Value.int (by decide)) ?_
        unfold mAsked
        rw [allH_false (h := h) (decide_eq_false hb) hh6]
        exact ret_ok
  exact go_lo (lo' := [some (.ref S), some (.ref (S + 2)), some (.int (nI 6)), some (.int (nI 0)), none]) rfl (loop 6 0 none (by omega) rfl)
theorem c_isStuck (hL : StL G n S) (hR : Rep S m i r) : Go l G mX4_isStuck 1 0 0 0 (lentry [.ref S] 5) [] n i r (RetI (b2i (mStuck m)) n i r) := by
  have hs := hL.s
  have hhs := hL.hs
  have e4 := hR.1.2.1
  have h6 : i S 6 = nI m.2.2.2.2.length ∧ m.2.2.2.2.length ≤ 141 := by obtain ⟨-, -, -, -, -, -, -, h, h', -⟩ := hR; exact ⟨h', h⟩
  refine go_aload_n (z := 1) dX4_isStuck_0 rfl rfl ?_
  refine go_getR (z := 4) dX4_isStuck_1 rfl fX4_24 (by assumption) rfl (by assumption) ?_
  refine go_astore_n (z := 5) dX4_isStuck_4 rfl (by decide) ?_
  refine go_aload_n (z := 6) dX4_isStuck_5 rfl rfl ?_
  refine go_alen (z := 7) (by assumption) (by decide) dX4_isStuck_6 rfl ?_
  refine go_istore_n (z := 8) dX4_isStuck_7 rfl (by decide) ?_
  refine go_iconst (z := 9) (v := 0) dX4_isStuck_8 rfl (by decide) ?_
  refine go_istore_n (z := 10) dX4_isStuck_9 rfl (by decide) ?_
  have loop : ∀ (d h : Nat) (lo5 : Option Value), h + d = 6 → allH (fun h => hStuck (m.2.2.1 h)) h = true → Go l G mX4_isStuck 1 0 0 10 [some (.ref S), some (.ref (S + 2)), some (.int (nI 6)), some (.int (nI h)), lo5] [] n i r (RetI (b2i (mStuck m)) n i r) := by
    intro d
    induction d with
    | zero =>
      intro h lo5 hh hp
      have hh : h = 6 := by omega
      subst hh
      refine go_iload_n (z := 11) dX4_isStuck_10 rfl rfl ?_
      refine go_iload_n (z := 12) dX4_isStuck_11 rfl rfl ?_
      refine go_icmp_ge (z := 36) (z2 := 15) dX4_isStuck_12 rfl (by decide) (fun _ => ?_) (fun h => absurd (by decide) h)
      refine go_aload_n (z := 37) dX4_isStuck_36 rfl rfl ?_
      refine go_getI (z := 40) dX4_isStuck_37 rfl fX4_51 (by assumption) rfl ?_
      rw [h6.1]
      refine go_if_ne (z := 47) (z2 := 43) dX4_isStuck_40 rfl (by decide) (fun hb => ?_) (fun hb => ?_)
      · have hl : ¬ m.2.2.2.2.length = 0 := fun q => hb (by rw [q]; rfl)
        refine go_iconst (z := 48) (v := 0) dX4_isStuck_47 rfl (by decide) ?_
        refine go_zret dX4_isStuck_48 rfl (congrArg Value.int (by decide)) ?_
        unfold mStuck
        rw [hp, decide_eq_false hl]
        exact ret_ok
      · have hl : m.2.2.2.2.length = 0 := (nI_eq (by omega) (by omega)).mp (show nI _ = nI 0 from hb)
        refine go_iconst (z := 44) (v := 1) dX4_isStuck_43 rfl (by decide) ?_
        refine go_goto (z := 48) dX4_isStuck_44 (by decide) ?_
        refine go_zret dX4_isStuck_48 rfl (congrArg Value.int (by decide)) ?_
        unfold mStuck
        rw [hp, decide_eq_true hl]
        exact ret_ok
    | succ d ih =>
      intro h lo5 hh hp
      have hh6 : h < 6 := by omega
      have eh := (hR.1.2.2.2 h hh6).1
      have hho := hL.ho hh6
      have hv : ∀ f, f < 10 → i (S + 4 + 2 * h) f = m.2.2.1 h f := hR.2.2.2.1 h hh6
      have hcs := c_House_isStuck (l := l) (i := i) (r := r) hho
      rw [hv 0 (by omega), hv 2 (by omega), hv 4 (by omega)] at hcs
      refine go_iload_n (z := 11) dX4_isStuck_10 rfl rfl ?_
      refine go_iload_n (z := 12) dX4_isStuck_11 rfl rfl ?_
      refine go_icmp_ge (z := 36) (z2 := 15) dX4_isStuck_12 rfl (by decide) (fun q => absurd q (nI_ge hh6 (by omega))) (fun _ => ?_)
      refine go_aload_n (z := 16) dX4_isStuck_15 rfl rfl ?_
      refine go_iload_n (z := 17) dX4_isStuck_16 rfl rfl ?_
      refine go_aaldR (z := 18) _ (by assumption) ⟨by decide, by decide⟩ (by decide) rfl (by omega) (by assumption) dX4_isStuck_17 rfl ?_
      refine go_astore (z := 20) dX4_isStuck_18 rfl (by decide) ?_
      refine go_aload (z := 22) dX4_isStuck_20 rfl rfl ?_
      refine go_callV (z := 25) (t := 1) [] dX4_isStuck_22 rfl mlX1_isStuck vX4_196 ⟨by decide, rfl⟩ (by assumption) rfl rfl (by decide) cat_nil (by simp) (by decide) (by first | decide | omega) (by first | decide | omega) (hcs) ?_
      refine ret_elim ?_
      refine go_if_ne (z := 30) (z2 := 28) dX4_isStuck_25 rfl (by decide) (fun hb => ?_) (fun hb => ?_)
      · have hb : m.2.2.1 h 0 = 0 ∨ (m.2.2.1 h 2 = 0 ∧ ¬ m.2.2.1 h 4 = 0) := by
          rcases Classical.em (m.2.2.1 h 0 = 0 ∨ (m.2.2.1 h 2 = 0 ∧ ¬ m.2.2.1 h 4 = 0)) with q | q
          · exact q
          · rw [if_neg q] at hb; exact absurd rfl hb
        refine go_iinc (z := 33) dX4_isStuck_30 rfl rfl (nI_1 h) (by decide) ?_
        refine go_goto (z := 10) dX4_isStuck_33 (by decide) ?_
        refine go_lo (lo' := [some (.ref S), some (.ref (S + 2)), some (.int (nI 6)), some (.int (nI (h + 1))), some (.ref (S + 4 + 2 * h))]) rfl (ih (h + 1) _ (by omega) ?_)
        show (allH _ h && hStuck (m.2.2.1 h)) = true
        unfold hStuck
        rw [decide_eq_true hb, Bool.and_true]
        exact hp
      · have hb : ¬ (m.2.2.1 h 0 = 0 ∨ (m.2.2.1 h 2 = 0 ∧ ¬ m.2.2.1 h 4 = 0)) := fun q => by rw [if_pos q] at hb; exact absurd hb (by decide)
        refine go_iconst (z := 29) (v := 0) dX4_isStuck_28 rfl (by decide) ?_
        refine go_zret dX4_isStuck_29 rfl (congrArg Value.int (by decide)) ?_
        unfold mStuck
        rw [allH_false (h := h) (p := fun h => hStuck (m.2.2.1 h)) (decide_eq_false hb) hh6]
        exact ret_ok
  exact go_lo (lo' := [some (.ref S), some (.ref (S + 2)), some (.int (nI 6)), some (.int (nI 0)), none]) rfl (loop 6 0 none (by omega) rfl)
theorem c_isMore (hL : StL G n S) (hR : Rep S m i r) : Go l G mX4_isMoreThanGrainsOnItsWay 0 0 0 0 (lentry [.ref S] 2) [] n i r (RetI (b2i (!mIdleM m.2.2.2.2)) n i r) := by
  obtain ⟨h1, h2, h3, h4, h5, mx, hX, hlen, h6, hM⟩ := hR
  generalize m.2.2.2.2 = ms at hlen h6 hM ⊢
  have hs := hL.s
  have hmm := hL.ms
  have e5 := h1.2.2.1
  refine go_iconst (z := 1) (v := 0) dX4_isMoreThanGrainsOnItsWay_0 rfl (by decide) ?_
  refine go_istore_n (z := 2) dX4_isMoreThanGrainsOnItsWay_1 rfl (by decide) ?_
  have loop : ∀ d c, c + d = ms.length → (∀ j x, j < c → ms[j]? = some x → x.1 0 = 3) → Go l G mX4_isMoreThanGrainsOnItsWay 0 0 0 2 [some (.ref S), some (.int (nI c))] [] n i r (RetI (b2i (!mIdleM ms)) n i r) := by
    intro d
    induction d with
    | zero =>
      intro c hc hp
      refine go_iload_n (z := 3) dX4_isMoreThanGrainsOnItsWay_2 rfl rfl ?_
      refine go_aload_n (z := 4) dX4_isMoreThanGrainsOnItsWay_3 rfl rfl ?_
      refine go_getI (z := 7) dX4_isMoreThanGrainsOnItsWay_4 rfl fX4_51 (by assumption) rfl ?_
      refine go_icmp_ge (z := 40) (z2 := 10) dX4_isMoreThanGrainsOnItsWay_7 rfl (by decide) (fun _ => ?_) (fun h => ?_)
      · refine go_iconst (z := 41) (v := 0) dX4_isMoreThanGrainsOnItsWay_40 rfl (by decide) ?_
        refine go_zret dX4_isMoreThanGrainsOnItsWay_41 rfl (congrArg Value.int (by decide)) ?_
        have : mIdleM ms = true := by
          unfold mIdleM
          rw [List.all_eq_true]
          intro x hx
          obtain ⟨j, hj⟩ := List.getElem?_of_mem hx
          exact decide_eq_true (hp j x (by have := (List.getElem?_eq_some_iff.mp hj).1; omega) hj)
        rw [this]
        exact ret_ok
      · exact absurd (by rw [h6]; exact nI_le (by omega) (by omega)) h
    | succ d ih =>
      intro c hc hp
      have hxc := hX.1 c (by omega)
      have hrc := hxc.1
      have hMc := hL.me hxc.2.1 hxc.2.2
      obtain ⟨x, hx⟩ : ∃ x, ms[c]? = some x := ⟨ms[c], List.getElem?_eq_getElem (by omega)⟩
      refine go_iload_n (z := 3) dX4_isMoreThanGrainsOnItsWay_2 rfl rfl ?_
      refine go_aload_n (z := 4) dX4_isMoreThanGrainsOnItsWay_3 rfl rfl ?_
      refine go_getI (z := 7) dX4_isMoreThanGrainsOnItsWay_4 rfl fX4_51 (by assumption) rfl ?_
      refine go_icmp_ge (z := 40) (z2 := 10) dX4_isMoreThanGrainsOnItsWay_7 rfl (by decide) (fun h => ?_) (fun _ => ?_)
      · exact absurd h (by rw [h6]; exact nI_ge (by omega) (by omega))
      · refine go_iload_n (z := 11) dX4_isMoreThanGrainsOnItsWay_10 rfl rfl ?_
        refine go_aload_n (z := 12) dX4_isMoreThanGrainsOnItsWay_11 rfl rfl ?_
        refine go_getR (z := 15) dX4_isMoreThanGrainsOnItsWay_12 rfl fX4_30 (by assumption) rfl (by assumption) ?_
        refine go_alen (z := 16) (by assumption) (by decide) dX4_isMoreThanGrainsOnItsWay_15 rfl ?_
        refine go_icmp_ge (z := 40) (z2 := 19) dX4_isMoreThanGrainsOnItsWay_16 rfl (by decide) (fun h => ?_) (fun _ => ?_)
        · exact absurd h (nI_ge (by omega) (by omega))
        · refine go_aload_n (z := 20) dX4_isMoreThanGrainsOnItsWay_19 rfl rfl ?_
          refine go_getR (z := 23) dX4_isMoreThanGrainsOnItsWay_20 rfl fX4_30 (by assumption) rfl (by assumption) ?_
          refine go_iload_n (z := 24) dX4_isMoreThanGrainsOnItsWay_23 rfl rfl ?_
          refine go_aaldR (z := 25) c (by assumption) ⟨by decide, by decide⟩ (by decide) rfl (by omega) (by assumption) dX4_isMoreThanGrainsOnItsWay_24 rfl ?_
          refine go_getI (z := 28) dX4_isMoreThanGrainsOnItsWay_25 rfl fX4_104 hMc rfl ?_
          refine go_iconst (z := 29) (v := 3) dX4_isMoreThanGrainsOnItsWay_28 rfl (by decide) ?_
          rw [(hM c x hx).1 0 (by omega)]
          refine go_icmp_eq (z := 34) (z2 := 32) dX4_isMoreThanGrainsOnItsWay_29 rfl (by decide) (fun h => ?_) (fun h => ?_)
          · refine go_iinc (z := 37) dX4_isMoreThanGrainsOnItsWay_34 rfl rfl (nI_1 c) (by decide) ?_
            refine go_goto (z := 2) dX4_isMoreThanGrainsOnItsWay_37 (by decide) ?_
            refine go_lo (lo' := [some (.ref S), some (.int (nI (c + 1)))]) rfl (ih (c + 1) (by omega) (fun j y hj hy => ?_))
            by_cases a1 : j = c
            · subst a1; rw [hx] at hy; cases hy; exact h
            · exact hp j y (by omega) hy
          · refine go_iconst (z := 33) (v := 1) dX4_isMoreThanGrainsOnItsWay_32 rfl (by decide) ?_
            refine go_zret dX4_isMoreThanGrainsOnItsWay_33 rfl (congrArg Value.int (by decide)) ?_
            have : mIdleM ms = false := by
              unfold mIdleM
              rw [List.all_eq_false]
              exact ⟨x, List.mem_of_getElem? hx, by simp [h]⟩
            rw [this]
            exact ret_ok
  exact go_lo (lo' := [some (.ref S), some (.int (nI 0))]) rfl (loop ms.length 0 (by omega) (fun j x hj => absurd hj (Nat.not_lt_zero j)))
theorem c_isIdle (hL : StL G n S) (hR : Rep S m i r) : Go l G mX4_isIdle 1 0 0 0 (lentry [.ref S] 1) [] n i r (RetI (b2i (mIdle m)) n i r) := by
  have hs := hL.s
  refine go_aload_n (z := 1) dX4_isIdle_0 rfl rfl ?_
  refine go_callV (z := 4) (t := 4) [] dX4_isIdle_1 rfl mlX4_busyHouses vX4_189 ⟨by decide, rfl⟩ (by assumption) rfl rfl (by decide) cat_nil (by simp) (by decide) (by first | decide | omega) (by first | decide | omega) (c_busyHouses hL hR) ?_
  refine ret_elim ?_
  refine go_if_ne (z := 18) (z2 := 7) dX4_isIdle_4 rfl (by decide) (fun hb => ?_) (fun hb => ?_)
  · refine go_iconst (z := 19) (v := 0) dX4_isIdle_18 rfl (by decide) ?_
    refine go_zret dX4_isIdle_19 rfl (congrArg Value.int (by decide)) ?_
    unfold mIdle
    rw [decide_eq_false hb]
    exact ret_ok
  · refine go_aload_n (z := 8) dX4_isIdle_7 rfl rfl ?_
    refine go_callV (z := 11) (t := 4) [] dX4_isIdle_8 rfl mlX4_isMoreThanGrainsOnItsWay vX4_192 ⟨by decide, rfl⟩ (by assumption) rfl rfl (by decide) cat_nil (by simp) (by decide) (by first | decide | omega) (by first | decide | omega) (c_isMore hL hR) ?_
    refine ret_elim ?_
    refine go_if_ne (z := 18) (z2 := 14) dX4_isIdle_11 rfl (by decide) (fun hc => ?_) (fun hc => ?_)
    · refine go_iconst (z := 19) (v := 0) dX4_isIdle_18 rfl (by decide) ?_
      refine go_zret dX4_isIdle_19 rfl (congrArg Value.int (by decide)) ?_
      unfold mIdle
      have : mIdleM m.2.2.2.2 = false := by
        cases q : mIdleM m.2.2.2.2 with
        | false => rfl
        | true => rw [q] at hc; exact absurd rfl hc
      rw [this, Bool.and_false]
      exact ret_ok
    · refine go_iconst (z := 15) (v := 1) dX4_isIdle_14 rfl (by decide) ?_
      refine go_goto (z := 19) dX4_isIdle_15 (by decide) ?_
      refine go_zret dX4_isIdle_19 rfl (congrArg Value.int (by decide)) ?_
      unfold mIdle
      have : mIdleM m.2.2.2.2 = true := by
        cases q : mIdleM m.2.2.2.2 with
        | true => rfl
        | false => rw [q] at hc; exact absurd hc (by decide)
      rw [this, decide_eq_true hb]
      exact ret_ok
theorem gsum_take (ms : List Mg) {c : Nat} {x : Mg} (h : ms[c]? = some x) : gsum (ms.take (c + 1)) = gsum (ms.take c) + x.1 3 := by
  unfold gsum
  rw [List.take_succ, h]
  simp
theorem c_grainsOnTheirWay (hL : StL G n S) (hR : Rep S m i r) : Go l G mX4_grainsOnTheirWay 0 0 0 0 (lentry [.ref S] 3) [] n i r (RetI (gsum m.2.2.2.2) n i r) := by
  obtain ⟨h1, h2, h3, h4, h5, mx, hX, hlen, h6, hM⟩ := hR
  generalize m.2.2.2.2 = ms at hlen h6 hM ⊢
  have hs := hL.s
  have hmm := hL.ms
  have e5 := h1.2.2.1
  refine go_iconst (z := 1) (v := 0) dX4_grainsOnTheirWay_0 rfl (by decide) ?_
  refine go_istore_n (z := 2) dX4_grainsOnTheirWay_1 rfl (by decide) ?_
  refine go_iconst (z := 3) (v := 0) dX4_grainsOnTheirWay_2 rfl (by decide) ?_
  refine go_istore_n (z := 4) dX4_grainsOnTheirWay_3 rfl (by decide) ?_
  have loop : ∀ d c, c + d = ms.length → Go l G mX4_grainsOnTheirWay 0 0 0 4 [some (.ref S), some (.int (gsum (ms.take c))), some (.int (nI c))] [] n i r (RetI (gsum ms) n i r) := by
    intro d
    induction d with
    | zero =>
      intro c hc
      refine go_iload_n (z := 5) dX4_grainsOnTheirWay_4 rfl rfl ?_
      refine go_aload_n (z := 6) dX4_grainsOnTheirWay_5 rfl rfl ?_
      refine go_getI (z := 9) dX4_grainsOnTheirWay_6 rfl fX4_51 (by assumption) rfl ?_
      refine go_icmp_ge (z := 39) (z2 := 12) dX4_grainsOnTheirWay_9 rfl (by decide) (fun _ => ?_) (fun h => ?_)
      · refine go_iload_n (z := 40) dX4_grainsOnTheirWay_39 rfl rfl ?_
        refine go_iret dX4_grainsOnTheirWay_40 rfl ?_
        rw [List.take_of_length_le (by omega)]
        exact ret_ok
      · exact absurd (by rw [h6]; exact nI_le (by omega) (by omega)) h
    | succ d ih =>
      intro c hc
      have hxc := hX.1 c (by omega)
      have hrc := hxc.1
      have hMc := hL.me hxc.2.1 hxc.2.2
      obtain ⟨x, hx⟩ : ∃ x, ms[c]? = some x := ⟨ms[c], List.getElem?_eq_getElem (by omega)⟩
      refine go_iload_n (z := 5) dX4_grainsOnTheirWay_4 rfl rfl ?_
      refine go_aload_n (z := 6) dX4_grainsOnTheirWay_5 rfl rfl ?_
      refine go_getI (z := 9) dX4_grainsOnTheirWay_6 rfl fX4_51 (by assumption) rfl ?_
      refine go_icmp_ge (z := 39) (z2 := 12) dX4_grainsOnTheirWay_9 rfl (by decide) (fun h => ?_) (fun _ => ?_)
      · exact absurd h (by rw [h6]; exact nI_ge (by omega) (by omega))
      · refine go_iload_n (z := 13) dX4_grainsOnTheirWay_12 rfl rfl ?_
        refine go_aload_n (z := 14) dX4_grainsOnTheirWay_13 rfl rfl ?_
        refine go_getR (z := 17) dX4_grainsOnTheirWay_14 rfl fX4_30 (by assumption) rfl (by assumption) ?_
        refine go_alen (z := 18) (by assumption) (by decide) dX4_grainsOnTheirWay_17 rfl ?_
        refine go_icmp_ge (z := 39) (z2 := 21) dX4_grainsOnTheirWay_18 rfl (by decide) (fun h => ?_) (fun _ => ?_)
        · exact absurd h (nI_ge (by omega) (by omega))
        · refine go_iload_n (z := 22) dX4_grainsOnTheirWay_21 rfl rfl ?_
          refine go_aload_n (z := 23) dX4_grainsOnTheirWay_22 rfl rfl ?_
          refine go_getR (z := 26) dX4_grainsOnTheirWay_23 rfl fX4_30 (by assumption) rfl (by assumption) ?_
          refine go_iload_n (z := 27) dX4_grainsOnTheirWay_26 rfl rfl ?_
          refine go_aaldR (z := 28) c (by assumption) ⟨by decide, by decide⟩ (by decide) rfl (by omega) (by assumption) dX4_grainsOnTheirWay_27 rfl ?_
          refine go_getI (z := 31) dX4_grainsOnTheirWay_28 rfl fX4_113 hMc rfl ?_
          rw [(hM c x hx).1 3 (by omega)]
          refine go_iadd (z := 32) dX4_grainsOnTheirWay_31 rfl ?_
          refine go_istore_n (z := 33) dX4_grainsOnTheirWay_32 rfl (by decide) ?_
          refine go_iinc (z := 36) dX4_grainsOnTheirWay_33 rfl rfl (nI_1 c) (by decide) ?_
          refine go_goto (z := 4) dX4_grainsOnTheirWay_36 (by decide) ?_
          exact go_lo (lo' := [some (.ref S), some (.int (gsum (ms.take (c + 1)))), some (.int (nI (c + 1)))]) (by rw [gsum_take ms hx]; rfl) (ih (c + 1) (by omega))
  exact go_lo (lo' := [some (.ref S), some (.int (gsum (ms.take 0))), some (.int (nI 0))]) rfl (loop ms.length 0 (by omega))
theorem c_errandsInAll (hL : StL G n S) (hR : Rep S m i r) (hE : RepE G n E Gd i r) (hg : ∀ h, h < 6 → ∀ e ∈ m.2.2.2.1 h, Gd e) (hg2 : ∀ x ∈ m.2.2.2.2, ∀ b, x.2 = some b → Gd b) : Go l G mX4_errandsInAll 1 0 0 0 (lentry [.ref S] 6) [] n i r (RetI (nI (mAll E m)) n i r) := by
  have hs := hL.s
  have hhs := hL.hs
  have e4 := hR.1.2.1
  have second : ∀ (lo3 lo4 lo5 : Option Value), Go l G mX4_errandsInAll 1 0 0 41 [some (.ref S), some (.int (nI (sumQ E m.2.2.2.1 6))), some (.int (nI 0)), lo3, lo4, lo5] [] n i r (RetI (nI (mAll E m)) n i r) := by
    intro lo3 lo4 lo5
    obtain ⟨h1, h2, h3, h4, h5, mx, hX, hlen, h6, hM⟩ := hR
    unfold mAll
    generalize m.2.2.2.2 = ms at hlen h6 hM hg2 ⊢
    have hmm := hL.ms
    have e5 := h1.2.2.1
    have loop : ∀ d c (lo3 lo4 lo5 : Option Value), c + d = ms.length → Go l G mX4_errandsInAll 1 0 0 41 [some (.ref S), some (.int (nI (sumQ E m.2.2.2.1 6 + sumM E (ms.take c)))), some (.int (nI c)), lo3, lo4, lo5] [] n i r (RetI (nI (sumQ E m.2.2.2.1 6 + sumM E ms)) n i r) := by
      intro d
      induction d with
      | zero =>
        intro c lo3 lo4 lo5 hc
        refine go_iload_n (z := 42) dX4_errandsInAll_41 rfl rfl ?_
        refine go_aload_n (z := 43) dX4_errandsInAll_42 rfl rfl ?_
        refine go_getI (z := 46) dX4_errandsInAll_43 rfl fX4_51 (by assumption) rfl ?_
        refine go_icmp_ge (z := 76) (z2 := 49) dX4_errandsInAll_46 rfl (by decide) (fun _ => ?_) (fun h => ?_)
        · refine go_iload_n (z := 77) dX4_errandsInAll_76 rfl rfl ?_
          refine go_iret dX4_errandsInAll_77 rfl ?_
          rw [List.take_of_length_le (by omega)]
          exact ret_ok
        · exact absurd (by rw [h6]; exact nI_le (by omega) (by omega)) h
      | succ d ih =>
        intro c lo3 lo4 lo5 hc
        have hxc := hX.1 c (by omega)
        have hrc := hxc.1
        have hMc := hL.me hxc.2.1 hxc.2.2
        obtain ⟨x, hx⟩ : ∃ x, ms[c]? = some x := ⟨ms[c], List.getElem?_eq_getElem (by omega)⟩
        refine go_iload_n (z := 42) dX4_errandsInAll_41 rfl rfl ?_
        refine go_aload_n (z := 43) dX4_errandsInAll_42 rfl rfl ?_
        refine go_getI (z := 46) dX4_errandsInAll_43 rfl fX4_51 (by assumption) rfl ?_
        refine go_icmp_ge (z := 76) (z2 := 49) dX4_errandsInAll_46 rfl (by decide) (fun h => ?_) (fun _ => ?_)
        · exact absurd h (by rw [h6]; exact nI_ge (by omega) (by omega))
        · refine go_iload_n (z := 50) dX4_errandsInAll_49 rfl rfl ?_
          refine go_aload_n (z := 51) dX4_errandsInAll_50 rfl rfl ?_
          refine go_getR (z := 54) dX4_errandsInAll_51 rfl fX4_30 (by assumption) rfl (by assumption) ?_
          refine go_alen (z := 55) (by assumption) (by decide) dX4_errandsInAll_54 rfl ?_
          refine go_icmp_ge (z := 76) (z2 := 58) dX4_errandsInAll_55 rfl (by decide) (fun h => ?_) (fun _ => ?_)
          · exact absurd h (nI_ge (by omega) (by omega))
          · refine go_iload_n (z := 59) dX4_errandsInAll_58 rfl rfl ?_
            refine go_aload_n (z := 60) dX4_errandsInAll_59 rfl rfl ?_
            refine go_getR (z := 63) dX4_errandsInAll_60 rfl fX4_30 (by assumption) rfl (by assumption) ?_
            refine go_iload_n (z := 64) dX4_errandsInAll_63 rfl rfl ?_
            refine go_aaldR (z := 65) c (by assumption) ⟨by decide, by decide⟩ (by decide) rfl (by omega) (by assumption) dX4_errandsInAll_64 rfl ?_
            refine go_callV (z := 68) (t := 2) [] dX4_errandsInAll_65 rfl mlX2_errands vX4_202 ⟨by decide, rfl⟩ hMc rfl rfl (by decide) cat_nil (by simp) (by decide) (by first | decide | omega) (by first | decide | omega) (c_Message_errands hMc hE (hM c x hx).2 (hg2 x (List.mem_of_getElem? hx))) ?_
            refine ret_elim ?_
            refine go_iadd (z := 69) dX4_errandsInAll_68 rfl ?_
            refine go_istore_n (z := 70) dX4_errandsInAll_69 rfl (by decide) ?_
            refine go_iinc (z := 73) dX4_errandsInAll_70 rfl rfl (nI_1 c) (by decide) ?_
            refine go_goto (z := 41) dX4_errandsInAll_73 (by decide) ?_
            refine go_lo (lo' := [some (.ref S), some (.int (nI (sumQ E m.2.2.2.1 6 + sumM E (ms.take (c + 1))))), some (.int (nI (c + 1))), lo3, lo4, lo5]) ?_ (ih (c + 1) _ _ _ (by omega))
            have e : sumM E (ms.take (c + 1)) = sumM E (ms.take c) + sz E x.2 := by unfold sumM; rw [List.take_succ, hx]; simp
            rw [e, ← Nat.add_assoc, ← nI_add _ (sz E x.2), ← eAll_sz]
            rfl
    exact loop ms.length 0 lo3 lo4 lo5 (by omega)
  refine go_iconst (z := 1) (v := 0) dX4_errandsInAll_0 rfl (by decide) ?_
  refine go_istore_n (z := 2) dX4_errandsInAll_1 rfl (by decide) ?_
  refine go_aload_n (z := 3) dX4_errandsInAll_2 rfl rfl ?_
  refine go_getR (z := 6) dX4_errandsInAll_3 rfl fX4_24 (by assumption) rfl (by assumption) ?_
  refine go_astore_n (z := 7) dX4_errandsInAll_6 rfl (by decide) ?_
  refine go_aload_n (z := 8) dX4_errandsInAll_7 rfl rfl ?_
  refine go_alen (z := 9) (by assumption) (by decide) dX4_errandsInAll_8 rfl ?_
  refine go_istore_n (z := 10) dX4_errandsInAll_9 rfl (by decide) ?_
  refine go_iconst (z := 11) (v := 0) dX4_errandsInAll_10 rfl (by decide) ?_
  refine go_istore (z := 13) dX4_errandsInAll_11 rfl (by decide) ?_
  have loop : ∀ (d h : Nat) (lo5 : Option Value), h + d = 6 → Go l G mX4_errandsInAll 1 0 0 13 [some (.ref S), some (.int (nI (sumQ E m.2.2.2.1 h))), some (.ref (S + 2)), some (.int (nI 6)), some (.int (nI h)), lo5] [] n i r (RetI (nI (mAll E m)) n i r) := by
    intro d
    induction d with
    | zero =>
      intro h lo5 hh
      have hh : h = 6 := by omega
      subst hh
      refine go_iload (z := 15) dX4_errandsInAll_13 rfl rfl ?_
      refine go_iload_n (z := 16) dX4_errandsInAll_15 rfl rfl ?_
      refine go_icmp_ge (z := 39) (z2 := 19) dX4_errandsInAll_16 rfl (by decide) (fun _ => ?_) (fun h => absurd (by decide) h)
      refine go_iconst (z := 40) (v := 0) dX4_errandsInAll_39 rfl (by decide) ?_
      refine go_istore_n (z := 41) dX4_errandsInAll_40 rfl (by decide) ?_
      exact second _ _ _
    | succ d ih =>
      intro h lo5 hh
      have hh6 : h < 6 := by omega
      have eh := (hR.1.2.2.2 h hh6).1
      have hho := hL.ho hh6
      have h5 := hR.2.2.2.2.1 h hh6
      refine go_iload (z := 15) dX4_errandsInAll_13 rfl rfl ?_
      refine go_iload_n (z := 16) dX4_errandsInAll_15 rfl rfl ?_
      refine go_icmp_ge (z := 39) (z2 := 19) dX4_errandsInAll_16 rfl (by decide) (fun q => absurd q (nI_ge hh6 (by omega))) (fun _ => ?_)
      refine go_aload_n (z := 20) dX4_errandsInAll_19 rfl rfl ?_
      refine go_iload (z := 22) dX4_errandsInAll_20 rfl rfl ?_
      refine go_aaldR (z := 23) _ (by assumption) ⟨by decide, by decide⟩ (by decide) rfl (by omega) (by assumption) dX4_errandsInAll_22 rfl ?_
      refine go_astore (z := 25) dX4_errandsInAll_23 rfl (by decide) ?_
      refine go_iload_n (z := 26) dX4_errandsInAll_25 rfl rfl ?_
      refine go_aload (z := 28) dX4_errandsInAll_26 rfl rfl ?_
      refine go_callV (z := 31) (t := 1) [] dX4_errandsInAll_28 rfl mlX1_errandsWithin vX4_199 ⟨by decide, rfl⟩ (by assumption) rfl rfl (by decide) cat_nil (by simp) (by decide) (by first | decide | omega) (by first | decide | omega) (c_House_errandsWithin hho (hL.li hh6) (hR.1.2.2.2 h hh6).2 ((hR.2.2.2.1 h hh6 3 (by omega)).trans h5.1) h5.2.1 h5.2.2 hE (hg h hh6)) ?_
      refine ret_elim ?_
      refine go_iadd (z := 32) dX4_errandsInAll_31 rfl ?_
      refine go_istore_n (z := 33) dX4_errandsInAll_32 rfl (by decide) ?_
      refine go_iinc (z := 36) dX4_errandsInAll_33 rfl rfl (nI_1 h) (by decide) ?_
      refine go_goto (z := 13) dX4_errandsInAll_36 (by decide) ?_
      refine go_lo (lo' := [some (.ref S), some (.int (nI (sumQ E m.2.2.2.1 (h + 1)))), some (.ref (S + 2)), some (.int (nI 6)), some (.int (nI (h + 1))), some (.ref (S + 4 + 2 * h))]) ?_ (ih (h + 1) _ (by omega))
      have e : sumQ E m.2.2.2.1 (h + 1) = sumQ E m.2.2.2.1 h + ((m.2.2.2.1 h).map E.2.2.1).sum := rfl
      rw [e, ← nI_add (sumQ E m.2.2.2.1 h)]
      rfl
  exact go_lo (lo' := [some (.ref S), some (.int (nI (sumQ E m.2.2.2.1 0))), some (.ref (S + 2)), some (.int (nI 6)), some (.int (nI 0)), none]) rfl (loop 6 0 none (by omega))
theorem c_State_tell {x : Int32} (hL : StL G n S) (hR : Rep S m i r) : Go l G mX4_tell 2 0 0 0 (lentry [.ref S, .int x] 2) [] n i r (RetI (tellS m x) n i r) := by
  have hs := hL.s
  have z : ∀ k, k < 3 ∨ (7 ≤ k ∧ k < 14) → i S k = m.1 k := hR.2.1
  have h6 : i S 6 = nI m.2.2.2.2.length := by obtain ⟨-, -, -, -, -, -, -, h, h', -⟩ := hR; exact h'
  have zb : ∀ b : Bool, ¬ b2i b = 0 → b2i b = 1 := by intro b; cases b <;> decide
  refine go_iload_n (z := 1) dX4_tell_0 rfl rfl ?_
  refine go_tabS (z := 167) dX4_tell_1 (by decide) (fun h1 => ?_) (fun q1 h1 ha1 hb1 => ?_)
  · refine go_bipush (z := 169) (v := (-2)) dX4_tell_167 rfl (by decide) ?_
    refine go_iret dX4_tell_169 rfl ?_
    exact ⟨congrArg (fun w => some (Value.int w)) (by first | (simp only [tellS, h1]; first | exact z _ (by omega) | exact h6 | exact (zb _ (by assumption)).symm | exact Eq.symm (by assumption) | rfl) | exact (tellS_out h1).symm), rfl, rfl, rfl⟩
  · rcases (show q1 = 0 ∨ q1 = 1 ∨ q1 = 2 ∨ q1 = 3 ∨ q1 = 4 ∨ q1 = 5 ∨ q1 = 6 ∨ q1 = 7 ∨ q1 = 8 ∨ q1 = 9 ∨ q1 = 10 ∨ q1 = 11 ∨ q1 = 12 ∨ q1 = 13 ∨ q1 = 14 by omega) with rfl | rfl | rfl | rfl | rfl | rfl | rfl | rfl | rfl | rfl | rfl | rfl | rfl | rfl | rfl
    · refine go_tabIn (z := 76) 0 dX4_tell_1 h1 (by decide) (by decide) rfl (by decide) ?_
      refine go_aload_n (z := 77) dX4_tell_76 rfl rfl ?_
      refine go_getI (z := 80) dX4_tell_77 rfl fX4_40 (by assumption) rfl ?_
      refine go_iret dX4_tell_80 rfl ?_
      exact ⟨congrArg (fun w => some (Value.int w)) (by first | (simp only [tellS, h1]; first | exact z _ (by omega) | exact h6 | exact (zb _ (by assumption)).symm | exact Eq.symm (by assumption) | rfl) | exact (tellS_out h1).symm), rfl, rfl, rfl⟩
    · refine go_tabIn (z := 81) 1 dX4_tell_1 h1 (by decide) (by decide) rfl (by decide) ?_
      refine go_aload_n (z := 82) dX4_tell_81 rfl rfl ?_
      refine go_getI (z := 85) dX4_tell_82 rfl fX4_57 (by assumption) rfl ?_
      refine go_iret dX4_tell_85 rfl ?_
      exact ⟨congrArg (fun w => some (Value.int w)) (by first | (simp only [tellS, h1]; first | exact z _ (by omega) | exact h6 | exact (zb _ (by assumption)).symm | exact Eq.symm (by assumption) | rfl) | exact (tellS_out h1).symm), rfl, rfl, rfl⟩
    · refine go_tabIn (z := 86) 2 dX4_tell_1 h1 (by decide) (by decide) rfl (by decide) ?_
      refine go_aload_n (z := 87) dX4_tell_86 rfl rfl ?_
      refine go_getI (z := 90) dX4_tell_87 rfl fX4_60 (by assumption) rfl ?_
      refine go_iret dX4_tell_90 rfl ?_
      exact ⟨congrArg (fun w => some (Value.int w)) (by first | (simp only [tellS, h1]; first | exact z _ (by omega) | exact h6 | exact (zb _ (by assumption)).symm | exact Eq.symm (by assumption) | rfl) | exact (tellS_out h1).symm), rfl, rfl, rfl⟩
    · refine go_tabIn (z := 91) 3 dX4_tell_1 h1 (by decide) (by decide) rfl (by decide) ?_
      refine go_aload_n (z := 92) dX4_tell_91 rfl rfl ?_
      refine go_callV (z := 95) (t := 4) [] dX4_tell_92 rfl mlX4_grainsInHouses vX4_205 ⟨by decide, rfl⟩ (by assumption) rfl rfl (by decide) cat_nil (by simp) (by decide) (by first | decide | omega) (by first | decide | omega) (c_grainsInHouses hL hR) ?_
      refine ret_elim ?_
      refine go_iret dX4_tell_95 rfl ?_
      exact ⟨congrArg (fun w => some (Value.int w)) (by first | (simp only [tellS, h1]; first | exact z _ (by omega) | exact h6 | exact (zb _ (by assumption)).symm | exact Eq.symm (by assumption) | rfl) | exact (tellS_out h1).symm), rfl, rfl, rfl⟩
    · refine go_tabIn (z := 96) 4 dX4_tell_1 h1 (by decide) (by decide) rfl (by decide) ?_
      refine go_aload_n (z := 97) dX4_tell_96 rfl rfl ?_
      refine go_callV (z := 100) (t := 4) [] dX4_tell_97 rfl mlX4_grainsOnTheirWay vX4_208 ⟨by decide, rfl⟩ (by assumption) rfl rfl (by decide) cat_nil (by simp) (by decide) (by first | decide | omega) (by first | decide | omega) (c_grainsOnTheirWay hL hR) ?_
      refine ret_elim ?_
      refine go_iret dX4_tell_100 rfl ?_
      exact ⟨congrArg (fun w => some (Value.int w)) (by first | (simp only [tellS, h1]; first | exact z _ (by omega) | exact h6 | exact (zb _ (by assumption)).symm | exact Eq.symm (by assumption) | rfl) | exact (tellS_out h1).symm), rfl, rfl, rfl⟩
    · refine go_tabIn (z := 101) 5 dX4_tell_1 h1 (by decide) (by decide) rfl (by decide) ?_
      refine go_aload_n (z := 102) dX4_tell_101 rfl rfl ?_
      refine go_getI (z := 105) dX4_tell_102 rfl fX4_63 (by assumption) rfl ?_
      refine go_iret dX4_tell_105 rfl ?_
      exact ⟨congrArg (fun w => some (Value.int w)) (by first | (simp only [tellS, h1]; first | exact z _ (by omega) | exact h6 | exact (zb _ (by assumption)).symm | exact Eq.symm (by assumption) | rfl) | exact (tellS_out h1).symm), rfl, rfl, rfl⟩
    · refine go_tabIn (z := 106) 6 dX4_tell_1 h1 (by decide) (by decide) rfl (by decide) ?_
      refine go_aload_n (z := 107) dX4_tell_106 rfl rfl ?_
      refine go_getI (z := 110) dX4_tell_107 rfl fX4_51 (by assumption) rfl ?_
      refine go_iret dX4_tell_110 rfl ?_
      exact ⟨congrArg (fun w => some (Value.int w)) (by first | (simp only [tellS, h1]; first | exact z _ (by omega) | exact h6 | exact (zb _ (by assumption)).symm | exact Eq.symm (by assumption) | rfl) | exact (tellS_out h1).symm), rfl, rfl, rfl⟩
    · refine go_tabIn (z := 111) 7 dX4_tell_1 h1 (by decide) (by decide) rfl (by decide) ?_
      refine go_aload_n (z := 112) dX4_tell_111 rfl rfl ?_
      refine go_callV (z := 115) (t := 4) [] dX4_tell_112 rfl mlX4_busyHouses vX4_189 ⟨by decide, rfl⟩ (by assumption) rfl rfl (by decide) cat_nil (by simp) (by decide) (by first | decide | omega) (by first | decide | omega) (c_busyHouses hL hR) ?_
      refine ret_elim ?_
      refine go_iret dX4_tell_115 rfl ?_
      exact ⟨congrArg (fun w => some (Value.int w)) (by first | (simp only [tellS, h1]; first | exact z _ (by omega) | exact h6 | exact (zb _ (by assumption)).symm | exact Eq.symm (by assumption) | rfl) | exact (tellS_out h1).symm), rfl, rfl, rfl⟩
    · refine go_tabIn (z := 116) 8 dX4_tell_1 h1 (by decide) (by decide) rfl (by decide) ?_
      refine go_aload_n (z := 117) dX4_tell_116 rfl rfl ?_
      refine go_getI (z := 120) dX4_tell_117 rfl fX4_66 (by assumption) rfl ?_
      refine go_iret dX4_tell_120 rfl ?_
      exact ⟨congrArg (fun w => some (Value.int w)) (by first | (simp only [tellS, h1]; first | exact z _ (by omega) | exact h6 | exact (zb _ (by assumption)).symm | exact Eq.symm (by assumption) | rfl) | exact (tellS_out h1).symm), rfl, rfl, rfl⟩
    · refine go_tabIn (z := 121) 9 dX4_tell_1 h1 (by decide) (by decide) rfl (by decide) ?_
      refine go_aload_n (z := 122) dX4_tell_121 rfl rfl ?_
      refine go_getI (z := 125) dX4_tell_122 rfl fX4_69 (by assumption) rfl ?_
      refine go_iret dX4_tell_125 rfl ?_
      exact ⟨congrArg (fun w => some (Value.int w)) (by first | (simp only [tellS, h1]; first | exact z _ (by omega) | exact h6 | exact (zb _ (by assumption)).symm | exact Eq.symm (by assumption) | rfl) | exact (tellS_out h1).symm), rfl, rfl, rfl⟩
    · refine go_tabIn (z := 126) 10 dX4_tell_1 h1 (by decide) (by decide) rfl (by decide) ?_
      refine go_aload_n (z := 127) dX4_tell_126 rfl rfl ?_
      refine go_getI (z := 130) dX4_tell_127 rfl fX4_72 (by assumption) rfl ?_
      refine go_iret dX4_tell_130 rfl ?_
      exact ⟨congrArg (fun w => some (Value.int w)) (by first | (simp only [tellS, h1]; first | exact z _ (by omega) | exact h6 | exact (zb _ (by assumption)).symm | exact Eq.symm (by assumption) | rfl) | exact (tellS_out h1).symm), rfl, rfl, rfl⟩
    · refine go_tabIn (z := 131) 11 dX4_tell_1 h1 (by decide) (by decide) rfl (by decide) ?_
      refine go_aload_n (z := 132) dX4_tell_131 rfl rfl ?_
      refine go_callV (z := 135) (t := 4) [] dX4_tell_132 rfl mlX4_isQuiet vX4_211 ⟨by decide, rfl⟩ (by assumption) rfl rfl (by decide) cat_nil (by simp) (by decide) (by first | decide | omega) (by first | decide | omega) (c_isQuiet hL hR) ?_
      refine ret_elim ?_
      refine go_if_eq (z := 142) (z2 := 138) dX4_tell_135 rfl (by decide) (fun h135 => ?_) (fun h135 => ?_)
      · refine go_iconst (z := 143) (v := 0) dX4_tell_142 rfl (by decide) ?_
        refine go_iret dX4_tell_143 rfl ?_
        exact ⟨congrArg (fun w => some (Value.int w)) (by first | (simp only [tellS, h1]; first | exact z _ (by omega) | exact h6 | exact (zb _ (by assumption)).symm | exact Eq.symm (by assumption) | rfl) | exact (tellS_out h1).symm), rfl, rfl, rfl⟩
      · refine go_iconst (z := 139) (v := 1) dX4_tell_138 rfl (by decide) ?_
        refine go_goto (z := 143) dX4_tell_139 (by decide) ?_
        refine go_iret dX4_tell_143 rfl ?_
        exact ⟨congrArg (fun w => some (Value.int w)) (by first | (simp only [tellS, h1]; first | exact z _ (by omega) | exact h6 | exact (zb _ (by assumption)).symm | exact Eq.symm (by assumption) | rfl) | exact (tellS_out h1).symm), rfl, rfl, rfl⟩
    · refine go_tabIn (z := 144) 12 dX4_tell_1 h1 (by decide) (by decide) rfl (by decide) ?_
      refine go_aload_n (z := 145) dX4_tell_144 rfl rfl ?_
      refine go_callV (z := 148) (t := 4) [] dX4_tell_145 rfl mlX4_isIdle vX4_214 ⟨by decide, rfl⟩ (by assumption) rfl rfl (by decide) cat_nil (by simp) (by decide) (by first | decide | omega) (by first | decide | omega) (c_isIdle hL hR) ?_
      refine ret_elim ?_
      refine go_if_eq (z := 155) (z2 := 151) dX4_tell_148 rfl (by decide) (fun h148 => ?_) (fun h148 => ?_)
      · refine go_iconst (z := 156) (v := 0) dX4_tell_155 rfl (by decide) ?_
        refine go_iret dX4_tell_156 rfl ?_
        exact ⟨congrArg (fun w => some (Value.int w)) (by first | (simp only [tellS, h1]; first | exact z _ (by omega) | exact h6 | exact (zb _ (by assumption)).symm | exact Eq.symm (by assumption) | rfl) | exact (tellS_out h1).symm), rfl, rfl, rfl⟩
      · refine go_iconst (z := 152) (v := 1) dX4_tell_151 rfl (by decide) ?_
        refine go_goto (z := 156) dX4_tell_152 (by decide) ?_
        refine go_iret dX4_tell_156 rfl ?_
        exact ⟨congrArg (fun w => some (Value.int w)) (by first | (simp only [tellS, h1]; first | exact z _ (by omega) | exact h6 | exact (zb _ (by assumption)).symm | exact Eq.symm (by assumption) | rfl) | exact (tellS_out h1).symm), rfl, rfl, rfl⟩
    · refine go_tabIn (z := 157) 13 dX4_tell_1 h1 (by decide) (by decide) rfl (by decide) ?_
      refine go_aload_n (z := 158) dX4_tell_157 rfl rfl ?_
      refine go_getI (z := 161) dX4_tell_158 rfl fX4_9 (by assumption) rfl ?_
      refine go_iret dX4_tell_161 rfl ?_
      exact ⟨congrArg (fun w => some (Value.int w)) (by first | (simp only [tellS, h1]; first | exact z _ (by omega) | exact h6 | exact (zb _ (by assumption)).symm | exact Eq.symm (by assumption) | rfl) | exact (tellS_out h1).symm), rfl, rfl, rfl⟩
    · refine go_tabIn (z := 162) 14 dX4_tell_1 h1 (by decide) (by decide) rfl (by decide) ?_
      refine go_aload_n (z := 163) dX4_tell_162 rfl rfl ?_
      refine go_getI (z := 166) dX4_tell_163 rfl fX4_15 (by assumption) rfl ?_
      refine go_iret dX4_tell_166 rfl ?_
      exact ⟨congrArg (fun w => some (Value.int w)) (by first | (simp only [tellS, h1]; first | exact z _ (by omega) | exact h6 | exact (zb _ (by assumption)).symm | exact Eq.symm (by assumption) | rfl) | exact (tellS_out h1).symm), rfl, rfl, rfl⟩
end STATE6
end
