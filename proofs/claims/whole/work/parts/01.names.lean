-- ===== PART A: goes FIRST, ahead of the names: the tables' words, and 'selects' of the private methods out of them =====
/-- a private method of a class that the tables say can be made, by its rows of tables_1 -/
def lw_okq (q : MethodName × Nat) : Prop := (q.1.cls ≠ "java/lang/invoke/MethodHandle" ∧ q.1.cls ≠ "java/lang/invoke/VarHandle") ∧ Cond.instantiable q.1.cls q.2 ∈ tables_1 ∧ Cond.privateMethod q.1 ∈ tables_1 ∧ Cond.instanceMethod q.1 ∈ tables_1
theorem lw_p0 : lw_okq (⟨"EvenDays$Lines", "readLine", "(LEvenDays$Told;)V"⟩, 3) := ⟨⟨by decide +kernel, by decide +kernel⟩, List.mem_of_getElem? (i := 100) (by decide +kernel), List.mem_of_getElem? (i := 332) (by decide +kernel), List.mem_of_getElem? (i := 333) (by decide +kernel)⟩
theorem lw_p1 : lw_okq (⟨"EvenDays$Lines", "readTreaty", "(LEvenDays$Told;)V"⟩, 3) := ⟨⟨by decide +kernel, by decide +kernel⟩, List.mem_of_getElem? (i := 100) (by decide +kernel), List.mem_of_getElem? (i := 389) (by decide +kernel), List.mem_of_getElem? (i := 390) (by decide +kernel)⟩
theorem lw_p2 : lw_okq (⟨"EvenDays$Lines", "takeNumber", "(II)I"⟩, 3) := ⟨⟨by decide +kernel, by decide +kernel⟩, List.mem_of_getElem? (i := 100) (by decide +kernel), List.mem_of_getElem? (i := 394) (by decide +kernel), List.mem_of_getElem? (i := 395) (by decide +kernel)⟩
theorem lw_p3 : lw_okq (⟨"EvenDays$Lines", "readWork", "(LEvenDays$Told;)V"⟩, 3) := ⟨⟨by decide +kernel, by decide +kernel⟩, List.mem_of_getElem? (i := 100) (by decide +kernel), List.mem_of_getElem? (i := 406) (by decide +kernel), List.mem_of_getElem? (i := 407) (by decide +kernel)⟩
theorem lw_p4 : lw_okq (⟨"EvenDays$Lines", "readKind", "(LEvenDays$Told;)V"⟩, 3) := ⟨⟨by decide +kernel, by decide +kernel⟩, List.mem_of_getElem? (i := 100) (by decide +kernel), List.mem_of_getElem? (i := 419) (by decide +kernel), List.mem_of_getElem? (i := 420) (by decide +kernel)⟩
theorem lw_p5 : lw_okq (⟨"EvenDays$Lines", "readMeant", "(LEvenDays$Told;)V"⟩, 3) := ⟨⟨by decide +kernel, by decide +kernel⟩, List.mem_of_getElem? (i := 100) (by decide +kernel), List.mem_of_getElem? (i := 433) (by decide +kernel), List.mem_of_getElem? (i := 434) (by decide +kernel)⟩
theorem lw_p6 : lw_okq (⟨"EvenDays$Lines", "readEats", "(LEvenDays$Told;)V"⟩, 3) := ⟨⟨by decide +kernel, by decide +kernel⟩, List.mem_of_getElem? (i := 100) (by decide +kernel), List.mem_of_getElem? (i := 456) (by decide +kernel), List.mem_of_getElem? (i := 457) (by decide +kernel)⟩
theorem lw_p7 : lw_okq (⟨"EvenDays$Lines", "readFine", "(LEvenDays$Told;)V"⟩, 3) := ⟨⟨by decide +kernel, by decide +kernel⟩, List.mem_of_getElem? (i := 100) (by decide +kernel), List.mem_of_getElem? (i := 461) (by decide +kernel), List.mem_of_getElem? (i := 462) (by decide +kernel)⟩
theorem lw_p8 : lw_okq (⟨"EvenDays", "isSlot", "(III)Z"⟩, 12) := ⟨⟨by decide +kernel, by decide +kernel⟩, List.mem_of_getElem? (i := 21) (by decide +kernel), List.mem_of_getElem? (i := 500) (by decide +kernel), List.mem_of_getElem? (i := 501) (by decide +kernel)⟩
theorem lw_p9 : lw_okq (⟨"EvenDays", "isPerson", "(II)Z"⟩, 12) := ⟨⟨by decide +kernel, by decide +kernel⟩, List.mem_of_getElem? (i := 21) (by decide +kernel), List.mem_of_getElem? (i := 504) (by decide +kernel), List.mem_of_getElem? (i := 505) (by decide +kernel)⟩
theorem lw_p10 : lw_okq (⟨"EvenDays$Days", "makeBread", "(LEvenDays$Told;II)V"⟩, 6) := ⟨⟨by decide +kernel, by decide +kernel⟩, List.mem_of_getElem? (i := 137) (by decide +kernel), List.mem_of_getElem? (i := 553) (by decide +kernel), List.mem_of_getElem? (i := 554) (by decide +kernel)⟩
theorem lw_p11 : lw_okq (⟨"EvenDays$Days", "toldFor", "(III)I"⟩, 6) := ⟨⟨by decide +kernel, by decide +kernel⟩, List.mem_of_getElem? (i := 137) (by decide +kernel), List.mem_of_getElem? (i := 562) (by decide +kernel), List.mem_of_getElem? (i := 563) (by decide +kernel)⟩
theorem lw_p12 : lw_okq (⟨"EvenDays$Days", "odd", "()I"⟩, 6) := ⟨⟨by decide +kernel, by decide +kernel⟩, List.mem_of_getElem? (i := 137) (by decide +kernel), List.mem_of_getElem? (i := 566) (by decide +kernel), List.mem_of_getElem? (i := 567) (by decide +kernel)⟩
theorem lw_p13 : lw_okq (⟨"EvenDays$Days", "blame", "(LEvenDays$Told;II)V"⟩, 6) := ⟨⟨by decide +kernel, by decide +kernel⟩, List.mem_of_getElem? (i := 137) (by decide +kernel), List.mem_of_getElem? (i := 592) (by decide +kernel), List.mem_of_getElem? (i := 593) (by decide +kernel)⟩
theorem lw_p14 : lw_okq (⟨"EvenDays$Days", "isToldOtherwise", "(LEvenDays$Told;III)Z"⟩, 6) := ⟨⟨by decide +kernel, by decide +kernel⟩, List.mem_of_getElem? (i := 137) (by decide +kernel), List.mem_of_getElem? (i := 596) (by decide +kernel), List.mem_of_getElem? (i := 597) (by decide +kernel)⟩
theorem lw_p15 : lw_okq (⟨"EvenDays$Days", "addFault", "(III)V"⟩, 6) := ⟨⟨by decide +kernel, by decide +kernel⟩, List.mem_of_getElem? (i := 137) (by decide +kernel), List.mem_of_getElem? (i := 600) (by decide +kernel), List.mem_of_getElem? (i := 601) (by decide +kernel)⟩
def lw_privs_1 : List (MethodName × Nat) := [(⟨"EvenDays$Lines", "readLine", "(LEvenDays$Told;)V"⟩, 3), (⟨"EvenDays$Lines", "readTreaty", "(LEvenDays$Told;)V"⟩, 3), (⟨"EvenDays$Lines", "takeNumber", "(II)I"⟩, 3), (⟨"EvenDays$Lines", "readWork", "(LEvenDays$Told;)V"⟩, 3), (⟨"EvenDays$Lines", "readKind", "(LEvenDays$Told;)V"⟩, 3), (⟨"EvenDays$Lines", "readMeant", "(LEvenDays$Told;)V"⟩, 3), (⟨"EvenDays$Lines", "readEats", "(LEvenDays$Told;)V"⟩, 3), (⟨"EvenDays$Lines", "readFine", "(LEvenDays$Told;)V"⟩, 3), (⟨"EvenDays", "isSlot", "(III)Z"⟩, 12), (⟨"EvenDays", "isPerson", "(II)Z"⟩, 12), (⟨"EvenDays$Days", "makeBread", "(LEvenDays$Told;II)V"⟩, 6), (⟨"EvenDays$Days", "toldFor", "(III)I"⟩, 6), (⟨"EvenDays$Days", "odd", "()I"⟩, 6), (⟨"EvenDays$Days", "blame", "(LEvenDays$Told;II)V"⟩, 6), (⟨"EvenDays$Days", "isToldOtherwise", "(LEvenDays$Told;III)Z"⟩, 6), (⟨"EvenDays$Days", "addFault", "(III)V"⟩, 6)]
theorem lw_r1 : ∀ q ∈ lw_privs_1, lw_okq q := List.forall_mem_cons.mpr ⟨lw_p0, List.forall_mem_cons.mpr ⟨lw_p1, List.forall_mem_cons.mpr ⟨lw_p2, List.forall_mem_cons.mpr ⟨lw_p3, List.forall_mem_cons.mpr ⟨lw_p4, List.forall_mem_cons.mpr ⟨lw_p5, List.forall_mem_cons.mpr ⟨lw_p6, List.forall_mem_cons.mpr ⟨lw_p7, List.forall_mem_cons.mpr ⟨lw_p8, List.forall_mem_cons.mpr ⟨lw_p9, List.forall_mem_cons.mpr ⟨lw_p10, List.forall_mem_cons.mpr ⟨lw_p11, List.forall_mem_cons.mpr ⟨lw_p12, List.forall_mem_cons.mpr ⟨lw_p13, List.forall_mem_cons.mpr ⟨lw_p14, List.forall_mem_cons.mpr ⟨lw_p15, fun _ h => absurd h List.not_mem_nil⟩⟩⟩⟩⟩⟩⟩⟩⟩⟩⟩⟩⟩⟩⟩⟩
theorem lw_p16 : lw_okq (⟨"EvenDays$Planner", "reckon", "(I)V"⟩, 6) := ⟨⟨by decide +kernel, by decide +kernel⟩, List.mem_of_getElem? (i := 170) (by decide +kernel), List.mem_of_getElem? (i := 649) (by decide +kernel), List.mem_of_getElem? (i := 650) (by decide +kernel)⟩
theorem lw_p17 : lw_okq (⟨"EvenDays$Planner", "rowOf", "(III)I"⟩, 6) := ⟨⟨by decide +kernel, by decide +kernel⟩, List.mem_of_getElem? (i := 170) (by decide +kernel), List.mem_of_getElem? (i := 653) (by decide +kernel), List.mem_of_getElem? (i := 654) (by decide +kernel)⟩
theorem lw_p18 : lw_okq (⟨"EvenDays$Planner", "clearRow", "(I)V"⟩, 6) := ⟨⟨by decide +kernel, by decide +kernel⟩, List.mem_of_getElem? (i := 170) (by decide +kernel), List.mem_of_getElem? (i := 657) (by decide +kernel), List.mem_of_getElem? (i := 658) (by decide +kernel)⟩
theorem lw_p19 : lw_okq (⟨"EvenDays$Planner", "offer", "(III)V"⟩, 6) := ⟨⟨by decide +kernel, by decide +kernel⟩, List.mem_of_getElem? (i := 170) (by decide +kernel), List.mem_of_getElem? (i := 661) (by decide +kernel), List.mem_of_getElem? (i := 662) (by decide +kernel)⟩
theorem lw_p20 : lw_okq (⟨"EvenDays$Planner", "findWorths", "(III)V"⟩, 6) := ⟨⟨by decide +kernel, by decide +kernel⟩, List.mem_of_getElem? (i := 170) (by decide +kernel), List.mem_of_getElem? (i := 665) (by decide +kernel), List.mem_of_getElem? (i := 666) (by decide +kernel)⟩
theorem lw_p21 : lw_okq (⟨"EvenDays$Planner", "isAllowed", "(IIIII)Z"⟩, 6) := ⟨⟨by decide +kernel, by decide +kernel⟩, List.mem_of_getElem? (i := 170) (by decide +kernel), List.mem_of_getElem? (i := 670) (by decide +kernel), List.mem_of_getElem? (i := 671) (by decide +kernel)⟩
theorem lw_p22 : lw_okq (⟨"EvenDays$Planner", "madeBy", "(III)I"⟩, 6) := ⟨⟨by decide +kernel, by decide +kernel⟩, List.mem_of_getElem? (i := 170) (by decide +kernel), List.mem_of_getElem? (i := 676) (by decide +kernel), List.mem_of_getElem? (i := 677) (by decide +kernel)⟩
theorem lw_p23 : lw_okq (⟨"EvenDays$Planner", "worthOf", "(II)I"⟩, 6) := ⟨⟨by decide +kernel, by decide +kernel⟩, List.mem_of_getElem? (i := 170) (by decide +kernel), List.mem_of_getElem? (i := 681) (by decide +kernel), List.mem_of_getElem? (i := 682) (by decide +kernel)⟩
theorem lw_p24 : lw_okq (⟨"EvenDays$Planner", "reckonRow", "(I)V"⟩, 6) := ⟨⟨by decide +kernel, by decide +kernel⟩, List.mem_of_getElem? (i := 170) (by decide +kernel), List.mem_of_getElem? (i := 689) (by decide +kernel), List.mem_of_getElem? (i := 690) (by decide +kernel)⟩
theorem lw_p25 : lw_okq (⟨"EvenDays$Planner", "offerAll", "(III)V"⟩, 6) := ⟨⟨by decide +kernel, by decide +kernel⟩, List.mem_of_getElem? (i := 170) (by decide +kernel), List.mem_of_getElem? (i := 693) (by decide +kernel), List.mem_of_getElem? (i := 694) (by decide +kernel)⟩
theorem lw_p26 : lw_okq (⟨"EvenDays$Planner", "bestFrom", "(II)I"⟩, 6) := ⟨⟨by decide +kernel, by decide +kernel⟩, List.mem_of_getElem? (i := 170) (by decide +kernel), List.mem_of_getElem? (i := 697) (by decide +kernel), List.mem_of_getElem? (i := 698) (by decide +kernel)⟩
theorem lw_p27 : lw_okq (⟨"EvenDays$Planner", "choose", "(IIII)V"⟩, 6) := ⟨⟨by decide +kernel, by decide +kernel⟩, List.mem_of_getElem? (i := 170) (by decide +kernel), List.mem_of_getElem? (i := 705) (by decide +kernel), List.mem_of_getElem? (i := 706) (by decide +kernel)⟩
theorem lw_p28 : lw_okq (⟨"EvenDays$Messages", "leastOfAll", "()I"⟩, 1) := ⟨⟨by decide +kernel, by decide +kernel⟩, List.mem_of_getElem? (i := 198) (by decide +kernel), List.mem_of_getElem? (i := 729) (by decide +kernel), List.mem_of_getElem? (i := 730) (by decide +kernel)⟩
theorem lw_p29 : lw_okq (⟨"EvenDays$Partners", "leastWith", "(III)I"⟩, 2) := ⟨⟨by decide +kernel, by decide +kernel⟩, List.mem_of_getElem? (i := 208) (by decide +kernel), List.mem_of_getElem? (i := 761) (by decide +kernel), List.mem_of_getElem? (i := 762) (by decide +kernel)⟩
theorem lw_p30 : lw_okq (⟨"EvenDays$Partners", "firstBest", "(III)I"⟩, 2) := ⟨⟨by decide +kernel, by decide +kernel⟩, List.mem_of_getElem? (i := 208) (by decide +kernel), List.mem_of_getElem? (i := 770) (by decide +kernel), List.mem_of_getElem? (i := 771) (by decide +kernel)⟩
theorem lw_p31 : lw_okq (⟨"EvenDays$Marriages", "greatestOf", "(I)I"⟩, 2) := ⟨⟨by decide +kernel, by decide +kernel⟩, List.mem_of_getElem? (i := 221) (by decide +kernel), List.mem_of_getElem? (i := 800) (by decide +kernel), List.mem_of_getElem? (i := 801) (by decide +kernel)⟩
def lw_privs_2 : List (MethodName × Nat) := [(⟨"EvenDays$Planner", "reckon", "(I)V"⟩, 6), (⟨"EvenDays$Planner", "rowOf", "(III)I"⟩, 6), (⟨"EvenDays$Planner", "clearRow", "(I)V"⟩, 6), (⟨"EvenDays$Planner", "offer", "(III)V"⟩, 6), (⟨"EvenDays$Planner", "findWorths", "(III)V"⟩, 6), (⟨"EvenDays$Planner", "isAllowed", "(IIIII)Z"⟩, 6), (⟨"EvenDays$Planner", "madeBy", "(III)I"⟩, 6), (⟨"EvenDays$Planner", "worthOf", "(II)I"⟩, 6), (⟨"EvenDays$Planner", "reckonRow", "(I)V"⟩, 6), (⟨"EvenDays$Planner", "offerAll", "(III)V"⟩, 6), (⟨"EvenDays$Planner", "bestFrom", "(II)I"⟩, 6), (⟨"EvenDays$Planner", "choose", "(IIII)V"⟩, 6), (⟨"EvenDays$Messages", "leastOfAll", "()I"⟩, 1), (⟨"EvenDays$Partners", "leastWith", "(III)I"⟩, 2), (⟨"EvenDays$Partners", "firstBest", "(III)I"⟩, 2), (⟨"EvenDays$Marriages", "greatestOf", "(I)I"⟩, 2)]
theorem lw_r2 : ∀ q ∈ lw_privs_2, lw_okq q := List.forall_mem_cons.mpr ⟨lw_p16, List.forall_mem_cons.mpr ⟨lw_p17, List.forall_mem_cons.mpr ⟨lw_p18, List.forall_mem_cons.mpr ⟨lw_p19, List.forall_mem_cons.mpr ⟨lw_p20, List.forall_mem_cons.mpr ⟨lw_p21, List.forall_mem_cons.mpr ⟨lw_p22, List.forall_mem_cons.mpr ⟨lw_p23, List.forall_mem_cons.mpr ⟨lw_p24, List.forall_mem_cons.mpr ⟨lw_p25, List.forall_mem_cons.mpr ⟨lw_p26, List.forall_mem_cons.mpr ⟨lw_p27, List.forall_mem_cons.mpr ⟨lw_p28, List.forall_mem_cons.mpr ⟨lw_p29, List.forall_mem_cons.mpr ⟨lw_p30, List.forall_mem_cons.mpr ⟨lw_p31, fun _ h => absurd h List.not_mem_nil⟩⟩⟩⟩⟩⟩⟩⟩⟩⟩⟩⟩⟩⟩⟩⟩
theorem lw_p32 : lw_okq (⟨"EvenDays$Marriages", "greatestOfSet", "(II)I"⟩, 2) := ⟨⟨by decide +kernel, by decide +kernel⟩, List.mem_of_getElem? (i := 221) (by decide +kernel), List.mem_of_getElem? (i := 804) (by decide +kernel), List.mem_of_getElem? (i := 805) (by decide +kernel)⟩
theorem lw_p33 : lw_okq (⟨"EvenDays$Marriages", "greatestKnown", "(I)I"⟩, 2) := ⟨⟨by decide +kernel, by decide +kernel⟩, List.mem_of_getElem? (i := 221) (by decide +kernel), List.mem_of_getElem? (i := 809) (by decide +kernel), List.mem_of_getElem? (i := 810) (by decide +kernel)⟩
theorem lw_p34 : lw_okq (⟨"EvenDays$Marriages", "valueOf", "(II)I"⟩, 2) := ⟨⟨by decide +kernel, by decide +kernel⟩, List.mem_of_getElem? (i := 221) (by decide +kernel), List.mem_of_getElem? (i := 813) (by decide +kernel), List.mem_of_getElem? (i := 814) (by decide +kernel)⟩
theorem lw_p35 : lw_okq (⟨"EvenDays$Rows", "reckon", "(II)I"⟩, 3) := ⟨⟨by decide +kernel, by decide +kernel⟩, List.mem_of_getElem? (i := 234) (by decide +kernel), List.mem_of_getElem? (i := 841) (by decide +kernel), List.mem_of_getElem? (i := 842) (by decide +kernel)⟩
theorem lw_p36 : lw_okq (⟨"EvenDays$Rows", "leastFrom", "(II)I"⟩, 3) := ⟨⟨by decide +kernel, by decide +kernel⟩, List.mem_of_getElem? (i := 234) (by decide +kernel), List.mem_of_getElem? (i := 846) (by decide +kernel), List.mem_of_getElem? (i := 847) (by decide +kernel)⟩
theorem lw_p37 : lw_okq (⟨"EvenDays$Rows", "slipTo", "(III)I"⟩, 3) := ⟨⟨by decide +kernel, by decide +kernel⟩, List.mem_of_getElem? (i := 234) (by decide +kernel), List.mem_of_getElem? (i := 851) (by decide +kernel), List.mem_of_getElem? (i := 852) (by decide +kernel)⟩
theorem lw_p38 : lw_okq (⟨"EvenDays$Rows", "costOf", "(III)I"⟩, 3) := ⟨⟨by decide +kernel, by decide +kernel⟩, List.mem_of_getElem? (i := 234) (by decide +kernel), List.mem_of_getElem? (i := 856) (by decide +kernel), List.mem_of_getElem? (i := 857) (by decide +kernel)⟩
theorem lw_p39 : lw_okq (⟨"EvenDaysModel", "begin", "()V"⟩, 31) := ⟨⟨by decide +kernel, by decide +kernel⟩, List.mem_of_getElem? (i := 884) (by decide +kernel), List.mem_of_getElem? (i := 890) (by decide +kernel), List.mem_of_getElem? (i := 891) (by decide +kernel)⟩
theorem lw_p40 : lw_okq (⟨"EvenDaysModel", "token", "()V"⟩, 31) := ⟨⟨by decide +kernel, by decide +kernel⟩, List.mem_of_getElem? (i := 884) (by decide +kernel), List.mem_of_getElem? (i := 1005) (by decide +kernel), List.mem_of_getElem? (i := 1006) (by decide +kernel)⟩
theorem lw_p41 : lw_okq (⟨"EvenDaysModel", "readsLine", "()Z"⟩, 31) := ⟨⟨by decide +kernel, by decide +kernel⟩, List.mem_of_getElem? (i := 884) (by decide +kernel), List.mem_of_getElem? (i := 1012) (by decide +kernel), List.mem_of_getElem? (i := 1013) (by decide +kernel)⟩
theorem lw_p42 : lw_okq (⟨"EvenDaysModel", "wordOf", "()I"⟩, 31) := ⟨⟨by decide +kernel, by decide +kernel⟩, List.mem_of_getElem? (i := 884) (by decide +kernel), List.mem_of_getElem? (i := 1016) (by decide +kernel), List.mem_of_getElem? (i := 1017) (by decide +kernel)⟩
theorem lw_p43 : lw_okq (⟨"EvenDaysModel", "isWord", "(II)Z"⟩, 31) := ⟨⟨by decide +kernel, by decide +kernel⟩, List.mem_of_getElem? (i := 884) (by decide +kernel), List.mem_of_getElem? (i := 1021) (by decide +kernel), List.mem_of_getElem? (i := 1022) (by decide +kernel)⟩
theorem lw_p44 : lw_okq (⟨"EvenDaysModel", "readsRest", "(I)Z"⟩, 31) := ⟨⟨by decide +kernel, by decide +kernel⟩, List.mem_of_getElem? (i := 884) (by decide +kernel), List.mem_of_getElem? (i := 1030) (by decide +kernel), List.mem_of_getElem? (i := 1031) (by decide +kernel)⟩
theorem lw_p45 : lw_okq (⟨"EvenDaysModel", "reads", "(III)Z"⟩, 31) := ⟨⟨by decide +kernel, by decide +kernel⟩, List.mem_of_getElem? (i := 884) (by decide +kernel), List.mem_of_getElem? (i := 1034) (by decide +kernel), List.mem_of_getElem? (i := 1035) (by decide +kernel)⟩
theorem lw_p46 : lw_okq (⟨"EvenDaysModel", "readsBread", "(I)Z"⟩, 31) := ⟨⟨by decide +kernel, by decide +kernel⟩, List.mem_of_getElem? (i := 884) (by decide +kernel), List.mem_of_getElem? (i := 1038) (by decide +kernel), List.mem_of_getElem? (i := 1039) (by decide +kernel)⟩
theorem lw_p47 : lw_okq (⟨"EvenDaysModel", "readsWork", "()Z"⟩, 31) := ⟨⟨by decide +kernel, by decide +kernel⟩, List.mem_of_getElem? (i := 884) (by decide +kernel), List.mem_of_getElem? (i := 1042) (by decide +kernel), List.mem_of_getElem? (i := 1043) (by decide +kernel)⟩
def lw_privs_3 : List (MethodName × Nat) := [(⟨"EvenDays$Marriages", "greatestOfSet", "(II)I"⟩, 2), (⟨"EvenDays$Marriages", "greatestKnown", "(I)I"⟩, 2), (⟨"EvenDays$Marriages", "valueOf", "(II)I"⟩, 2), (⟨"EvenDays$Rows", "reckon", "(II)I"⟩, 3), (⟨"EvenDays$Rows", "leastFrom", "(II)I"⟩, 3), (⟨"EvenDays$Rows", "slipTo", "(III)I"⟩, 3), (⟨"EvenDays$Rows", "costOf", "(III)I"⟩, 3), (⟨"EvenDaysModel", "begin", "()V"⟩, 31), (⟨"EvenDaysModel", "token", "()V"⟩, 31), (⟨"EvenDaysModel", "readsLine", "()Z"⟩, 31), (⟨"EvenDaysModel", "wordOf", "()I"⟩, 31), (⟨"EvenDaysModel", "isWord", "(II)Z"⟩, 31), (⟨"EvenDaysModel", "readsRest", "(I)Z"⟩, 31), (⟨"EvenDaysModel", "reads", "(III)Z"⟩, 31), (⟨"EvenDaysModel", "readsBread", "(I)Z"⟩, 31), (⟨"EvenDaysModel", "readsWork", "()Z"⟩, 31)]
theorem lw_r3 : ∀ q ∈ lw_privs_3, lw_okq q := List.forall_mem_cons.mpr ⟨lw_p32, List.forall_mem_cons.mpr ⟨lw_p33, List.forall_mem_cons.mpr ⟨lw_p34, List.forall_mem_cons.mpr ⟨lw_p35, List.forall_mem_cons.mpr ⟨lw_p36, List.forall_mem_cons.mpr ⟨lw_p37, List.forall_mem_cons.mpr ⟨lw_p38, List.forall_mem_cons.mpr ⟨lw_p39, List.forall_mem_cons.mpr ⟨lw_p40, List.forall_mem_cons.mpr ⟨lw_p41, List.forall_mem_cons.mpr ⟨lw_p42, List.forall_mem_cons.mpr ⟨lw_p43, List.forall_mem_cons.mpr ⟨lw_p44, List.forall_mem_cons.mpr ⟨lw_p45, List.forall_mem_cons.mpr ⟨lw_p46, List.forall_mem_cons.mpr ⟨lw_p47, fun _ h => absurd h List.not_mem_nil⟩⟩⟩⟩⟩⟩⟩⟩⟩⟩⟩⟩⟩⟩⟩⟩
theorem lw_p48 : lw_okq (⟨"EvenDaysModel", "tell", "(I)V"⟩, 31) := ⟨⟨by decide +kernel, by decide +kernel⟩, List.mem_of_getElem? (i := 884) (by decide +kernel), List.mem_of_getElem? (i := 1051) (by decide +kernel), List.mem_of_getElem? (i := 1052) (by decide +kernel)⟩
theorem lw_p49 : lw_okq (⟨"EvenDaysModel", "isPair", "(I)Z"⟩, 31) := ⟨⟨by decide +kernel, by decide +kernel⟩, List.mem_of_getElem? (i := 884) (by decide +kernel), List.mem_of_getElem? (i := 1071) (by decide +kernel), List.mem_of_getElem? (i := 1072) (by decide +kernel)⟩
theorem lw_p50 : lw_okq (⟨"EvenDaysModel", "isHour", "(I)Z"⟩, 31) := ⟨⟨by decide +kernel, by decide +kernel⟩, List.mem_of_getElem? (i := 884) (by decide +kernel), List.mem_of_getElem? (i := 1075) (by decide +kernel), List.mem_of_getElem? (i := 1076) (by decide +kernel)⟩
theorem lw_p51 : lw_okq (⟨"EvenDaysModel", "day", "()V"⟩, 31) := ⟨⟨by decide +kernel, by decide +kernel⟩, List.mem_of_getElem? (i := 884) (by decide +kernel), List.mem_of_getElem? (i := 1092) (by decide +kernel), List.mem_of_getElem? (i := 1093) (by decide +kernel)⟩
theorem lw_p52 : lw_okq (⟨"EvenDaysModel", "isBreach", "(II)Z"⟩, 31) := ⟨⟨by decide +kernel, by decide +kernel⟩, List.mem_of_getElem? (i := 884) (by decide +kernel), List.mem_of_getElem? (i := 1096) (by decide +kernel), List.mem_of_getElem? (i := 1097) (by decide +kernel)⟩
theorem lw_p53 : lw_okq (⟨"EvenDaysModel", "does", "(III)I"⟩, 31) := ⟨⟨by decide +kernel, by decide +kernel⟩, List.mem_of_getElem? (i := 884) (by decide +kernel), List.mem_of_getElem? (i := 1100) (by decide +kernel), List.mem_of_getElem? (i := 1101) (by decide +kernel)⟩
theorem lw_p54 : lw_okq (⟨"EvenDaysModel", "meansOf", "(III)I"⟩, 31) := ⟨⟨by decide +kernel, by decide +kernel⟩, List.mem_of_getElem? (i := 884) (by decide +kernel), List.mem_of_getElem? (i := 1104) (by decide +kernel), List.mem_of_getElem? (i := 1105) (by decide +kernel)⟩
theorem lw_p55 : lw_okq (⟨"EvenDaysModel", "may", "(IIII)Z"⟩, 31) := ⟨⟨by decide +kernel, by decide +kernel⟩, List.mem_of_getElem? (i := 884) (by decide +kernel), List.mem_of_getElem? (i := 1108) (by decide +kernel), List.mem_of_getElem? (i := 1109) (by decide +kernel)⟩
theorem lw_p56 : lw_okq (⟨"EvenDaysModel", "strays", "(III)Z"⟩, 31) := ⟨⟨by decide +kernel, by decide +kernel⟩, List.mem_of_getElem? (i := 884) (by decide +kernel), List.mem_of_getElem? (i := 1112) (by decide +kernel), List.mem_of_getElem? (i := 1113) (by decide +kernel)⟩
theorem lw_p57 : lw_okq (⟨"EvenDaysModel", "charge", "(II)V"⟩, 31) := ⟨⟨by decide +kernel, by decide +kernel⟩, List.mem_of_getElem? (i := 884) (by decide +kernel), List.mem_of_getElem? (i := 1116) (by decide +kernel), List.mem_of_getElem? (i := 1117) (by decide +kernel)⟩
theorem lw_p58 : lw_okq (⟨"EvenDaysModel", "choose", "(II)Z"⟩, 31) := ⟨⟨by decide +kernel, by decide +kernel⟩, List.mem_of_getElem? (i := 884) (by decide +kernel), List.mem_of_getElem? (i := 1147) (by decide +kernel), List.mem_of_getElem? (i := 1148) (by decide +kernel)⟩
theorem lw_p59 : lw_okq (⟨"EvenDaysModel", "layWorths", "(II)V"⟩, 31) := ⟨⟨by decide +kernel, by decide +kernel⟩, List.mem_of_getElem? (i := 884) (by decide +kernel), List.mem_of_getElem? (i := 1151) (by decide +kernel), List.mem_of_getElem? (i := 1152) (by decide +kernel)⟩
theorem lw_p60 : lw_okq (⟨"EvenDaysModel", "worthBy", "(IIIII)I"⟩, 31) := ⟨⟨by decide +kernel, by decide +kernel⟩, List.mem_of_getElem? (i := 884) (by decide +kernel), List.mem_of_getElem? (i := 1155) (by decide +kernel), List.mem_of_getElem? (i := 1156) (by decide +kernel)⟩
theorem lw_p61 : lw_okq (⟨"EvenDaysModel", "fits", "(IIII)Z"⟩, 31) := ⟨⟨by decide +kernel, by decide +kernel⟩, List.mem_of_getElem? (i := 884) (by decide +kernel), List.mem_of_getElem? (i := 1159) (by decide +kernel), List.mem_of_getElem? (i := 1160) (by decide +kernel)⟩
theorem lw_p62 : lw_okq (⟨"EvenDaysModel", "breadOf", "(III)I"⟩, 31) := ⟨⟨by decide +kernel, by decide +kernel⟩, List.mem_of_getElem? (i := 884) (by decide +kernel), List.mem_of_getElem? (i := 1163) (by decide +kernel), List.mem_of_getElem? (i := 1164) (by decide +kernel)⟩
theorem lw_p63 : lw_okq (⟨"EvenDaysModel", "layRests", "(II)I"⟩, 31) := ⟨⟨by decide +kernel, by decide +kernel⟩, List.mem_of_getElem? (i := 884) (by decide +kernel), List.mem_of_getElem? (i := 1189) (by decide +kernel), List.mem_of_getElem? (i := 1190) (by decide +kernel)⟩
def lw_privs_4 : List (MethodName × Nat) := [(⟨"EvenDaysModel", "tell", "(I)V"⟩, 31), (⟨"EvenDaysModel", "isPair", "(I)Z"⟩, 31), (⟨"EvenDaysModel", "isHour", "(I)Z"⟩, 31), (⟨"EvenDaysModel", "day", "()V"⟩, 31), (⟨"EvenDaysModel", "isBreach", "(II)Z"⟩, 31), (⟨"EvenDaysModel", "does", "(III)I"⟩, 31), (⟨"EvenDaysModel", "meansOf", "(III)I"⟩, 31), (⟨"EvenDaysModel", "may", "(IIII)Z"⟩, 31), (⟨"EvenDaysModel", "strays", "(III)Z"⟩, 31), (⟨"EvenDaysModel", "charge", "(II)V"⟩, 31), (⟨"EvenDaysModel", "choose", "(II)Z"⟩, 31), (⟨"EvenDaysModel", "layWorths", "(II)V"⟩, 31), (⟨"EvenDaysModel", "worthBy", "(IIIII)I"⟩, 31), (⟨"EvenDaysModel", "fits", "(IIII)Z"⟩, 31), (⟨"EvenDaysModel", "breadOf", "(III)I"⟩, 31), (⟨"EvenDaysModel", "layRests", "(II)I"⟩, 31)]
theorem lw_r4 : ∀ q ∈ lw_privs_4, lw_okq q := List.forall_mem_cons.mpr ⟨lw_p48, List.forall_mem_cons.mpr ⟨lw_p49, List.forall_mem_cons.mpr ⟨lw_p50, List.forall_mem_cons.mpr ⟨lw_p51, List.forall_mem_cons.mpr ⟨lw_p52, List.forall_mem_cons.mpr ⟨lw_p53, List.forall_mem_cons.mpr ⟨lw_p54, List.forall_mem_cons.mpr ⟨lw_p55, List.forall_mem_cons.mpr ⟨lw_p56, List.forall_mem_cons.mpr ⟨lw_p57, List.forall_mem_cons.mpr ⟨lw_p58, List.forall_mem_cons.mpr ⟨lw_p59, List.forall_mem_cons.mpr ⟨lw_p60, List.forall_mem_cons.mpr ⟨lw_p61, List.forall_mem_cons.mpr ⟨lw_p62, List.forall_mem_cons.mpr ⟨lw_p63, fun _ h => absurd h List.not_mem_nil⟩⟩⟩⟩⟩⟩⟩⟩⟩⟩⟩⟩⟩⟩⟩⟩
theorem lw_p64 : lw_okq (⟨"EvenDaysModel", "harmBy", "(IIII)I"⟩, 31) := ⟨⟨by decide +kernel, by decide +kernel⟩, List.mem_of_getElem? (i := 884) (by decide +kernel), List.mem_of_getElem? (i := 1196) (by decide +kernel), List.mem_of_getElem? (i := 1197) (by decide +kernel)⟩
theorem lw_p65 : lw_okq (⟨"EvenDaysModel", "stays", "(III)I"⟩, 31) := ⟨⟨by decide +kernel, by decide +kernel⟩, List.mem_of_getElem? (i := 884) (by decide +kernel), List.mem_of_getElem? (i := 1225) (by decide +kernel), List.mem_of_getElem? (i := 1226) (by decide +kernel)⟩
theorem lw_p66 : lw_okq (⟨"EvenDaysModel", "slipped", "(IIII)I"⟩, 31) := ⟨⟨by decide +kernel, by decide +kernel⟩, List.mem_of_getElem? (i := 884) (by decide +kernel), List.mem_of_getElem? (i := 1229) (by decide +kernel), List.mem_of_getElem? (i := 1230) (by decide +kernel)⟩
theorem lw_p67 : lw_okq (⟨"EvenDaysModel", "copy", "(II)V"⟩, 31) := ⟨⟨by decide +kernel, by decide +kernel⟩, List.mem_of_getElem? (i := 884) (by decide +kernel), List.mem_of_getElem? (i := 1237) (by decide +kernel), List.mem_of_getElem? (i := 1238) (by decide +kernel)⟩
def lw_privs_5 : List (MethodName × Nat) := [(⟨"EvenDaysModel", "harmBy", "(IIII)I"⟩, 31), (⟨"EvenDaysModel", "stays", "(III)I"⟩, 31), (⟨"EvenDaysModel", "slipped", "(IIII)I"⟩, 31), (⟨"EvenDaysModel", "copy", "(II)V"⟩, 31)]
theorem lw_r5 : ∀ q ∈ lw_privs_5, lw_okq q := List.forall_mem_cons.mpr ⟨lw_p64, List.forall_mem_cons.mpr ⟨lw_p65, List.forall_mem_cons.mpr ⟨lw_p66, List.forall_mem_cons.mpr ⟨lw_p67, fun _ h => absurd h List.not_mem_nil⟩⟩⟩⟩
def lw_privs : List (MethodName × Nat) := lw_privs_1 ++ (lw_privs_2 ++ (lw_privs_3 ++ (lw_privs_4 ++ (lw_privs_5))))
def lw_tbl : List Cond := k2_sels lw_privs ++ tables_1
theorem lw_privs_ok : ∀ q ∈ lw_privs, lw_okq q := by
  show ∀ q ∈ lw_privs_1 ++ (lw_privs_2 ++ (lw_privs_3 ++ (lw_privs_4 ++ (lw_privs_5)))), lw_okq q
  exact List.forall_mem_append.mpr ⟨lw_r1, List.forall_mem_append.mpr ⟨lw_r2, List.forall_mem_append.mpr ⟨lw_r3, List.forall_mem_append.mpr ⟨lw_r4, lw_r5⟩⟩⟩⟩
-- ===== end of PART A; then your names; then what follows =====
def RX0 : String := "EvenDays$Days"
def TX0 : u_T := fun k => match k with
  | 0 => ("EvenDays$Days", "gone", "I", false)
  | 1 => ("EvenDays$Days", "illBits", "I", false)
  | 2 => ("EvenDays$Days", "bread", "[I", true)
  | 3 => ("EvenDays$Days", "faults", "[I", true)
  | 4 => ("EvenDays$Days", "owed", "[I", true)
  | _ => ("EvenDays$Days", "otherwise", "[I", true)
def tyX0 : Nat → FieldType := fun k => match k with
  | 0 => .int
  | 1 => .int
  | 2 => .array .int
  | 3 => .array .int
  | 4 => .array .int
  | _ => .array .int
abbrev wsX00 : List Cond := u_ws RX0 TX0 6
theorem nmX0 : ∀ a, a < 6 → ∀ b, b < 6 → a ≠ b → (TX0 a).2.1 ≠ (TX0 b).2.1 := by decide +kernel
theorem tyX0_ok : ∀ k, k < 6 → parseFieldDescriptor (TX0 k).2.2.1 = some (tyX0 k) := by decide +kernel
abbrev cX0_init : ByteArray := prog_2_method_1_code
def yX0_init : MethodName := ⟨RX0, "<init>", "()V"⟩
abbrev cX0_beginAnew : ByteArray := prog_2_method_2_code
def yX0_beginAnew : MethodName := ⟨RX0, "beginAnew", "()V"⟩
abbrev cX0_becomeLike : ByteArray := prog_2_method_3_code
def yX0_becomeLike : MethodName := ⟨RX0, "becomeLike", "(LEvenDays$Days;)V"⟩
abbrev cX0_tellOtherwise : ByteArray := prog_2_method_4_code
def yX0_tellOtherwise : MethodName := ⟨RX0, "tellOtherwise", "(IIII)V"⟩
abbrev cX0_tellIll : ByteArray := prog_2_method_5_code
def yX0_tellIll : MethodName := ⟨RX0, "tellIll", "(IIZ)V"⟩
abbrev cX0_isIll : ByteArray := prog_2_method_6_code
def yX0_isIll : MethodName := ⟨RX0, "isIll", "(II)Z"⟩
abbrev cX0_faultsOf : ByteArray := prog_2_method_7_code
def yX0_faultsOf : MethodName := ⟨RX0, "faultsOf", "(II)I"⟩
abbrev cX0_owedBy : ByteArray := prog_2_method_8_code
def yX0_owedBy : MethodName := ⟨RX0, "owedBy", "(II)I"⟩
abbrev cX0_odd : ByteArray := prog_2_method_9_code
def yX0_odd : MethodName := ⟨RX0, "odd", "()I"⟩
abbrev cX0_toldFor : ByteArray := prog_2_method_10_code
def yX0_toldFor : MethodName := ⟨RX0, "toldFor", "(III)I"⟩
abbrev cX0_isToldOtherwise : ByteArray := prog_2_method_11_code
def yX0_isToldOtherwise : MethodName := ⟨RX0, "isToldOtherwise", "(LEvenDays$Told;III)Z"⟩
abbrev cX0_workOf : ByteArray := prog_2_method_12_code
def yX0_workOf : MethodName := ⟨RX0, "workOf", "(LEvenDays$Told;III)I"⟩
abbrev cX0_isBreach : ByteArray := prog_2_method_13_code
def yX0_isBreach : MethodName := ⟨RX0, "isBreach", "(LEvenDays$Told;II)Z"⟩
abbrev cX0_passOne : ByteArray := prog_2_method_14_code
def yX0_passOne : MethodName := ⟨RX0, "passOne", "(LEvenDays$Told;)V"⟩
abbrev cX0_makeBread : ByteArray := prog_2_method_15_code
def yX0_makeBread : MethodName := ⟨RX0, "makeBread", "(LEvenDays$Told;II)V"⟩
abbrev cX0_blame : ByteArray := prog_2_method_16_code
def yX0_blame : MethodName := ⟨RX0, "blame", "(LEvenDays$Told;II)V"⟩
abbrev cX0_addFault : ByteArray := prog_2_method_17_code
def yX0_addFault : MethodName := ⟨RX0, "addFault", "(III)V"⟩
def RX1 : String := "EvenDays$Lines"
def TX1 : u_T := fun k => match k with
  | 0 => ("EvenDays$Lines", "tokens", "LEvenDays$Tokens;", true)
  | 1 => ("EvenDays$Lines", "faultAt", "I", false)
  | _ => ("EvenDays$Lines", "read", "I", false)
def tyX1 : Nat → FieldType := fun k => match k with
  | 0 => .object "EvenDays$Tokens"
  | 1 => .int
  | _ => .int
abbrev wsX10 : List Cond := u_ws RX1 TX1 3
theorem nmX1 : ∀ a, a < 3 → ∀ b, b < 3 → a ≠ b → (TX1 a).2.1 ≠ (TX1 b).2.1 := by decide +kernel
theorem tyX1_ok : ∀ k, k < 3 → parseFieldDescriptor (TX1 k).2.2.1 = some (tyX1 k) := by decide +kernel
abbrev cX1_init : ByteArray := prog_3_method_1_code
def yX1_init : MethodName := ⟨RX1, "<init>", "(LEvenDays$Text;)V"⟩
abbrev cX1_readInto : ByteArray := prog_3_method_2_code
def yX1_readInto : MethodName := ⟨RX1, "readInto", "(LEvenDays$Told;)I"⟩
abbrev cX1_readLine : ByteArray := prog_3_method_3_code
def yX1_readLine : MethodName := ⟨RX1, "readLine", "(LEvenDays$Told;)V"⟩
abbrev cX1_readTreaty : ByteArray := prog_3_method_4_code
def yX1_readTreaty : MethodName := ⟨RX1, "readTreaty", "(LEvenDays$Told;)V"⟩
abbrev cX1_readWork : ByteArray := prog_3_method_5_code
def yX1_readWork : MethodName := ⟨RX1, "readWork", "(LEvenDays$Told;)V"⟩
abbrev cX1_readKind : ByteArray := prog_3_method_6_code
def yX1_readKind : MethodName := ⟨RX1, "readKind", "(LEvenDays$Told;)V"⟩
abbrev cX1_readMeant : ByteArray := prog_3_method_7_code
def yX1_readMeant : MethodName := ⟨RX1, "readMeant", "(LEvenDays$Told;)V"⟩
abbrev cX1_readEats : ByteArray := prog_3_method_8_code
def yX1_readEats : MethodName := ⟨RX1, "readEats", "(LEvenDays$Told;)V"⟩
abbrev cX1_readFine : ByteArray := prog_3_method_9_code
def yX1_readFine : MethodName := ⟨RX1, "readFine", "(LEvenDays$Told;)V"⟩
abbrev cX1_takeNumber : ByteArray := prog_3_method_10_code
def yX1_takeNumber : MethodName := ⟨RX1, "takeNumber", "(II)I"⟩
def RX2 : String := "EvenDays$Marriages"
def TX2 : u_T := fun k => match k with
  | 0 => ("EvenDays$Marriages", "likings", "[I", true)
  | _ => ("EvenDays$Marriages", "greatest", "[I", true)
def tyX2 : Nat → FieldType := fun k => match k with
  | 0 => .array .int
  | _ => .array .int
abbrev wsX20 : List Cond := u_ws RX2 TX2 2
theorem nmX2 : ∀ a, a < 2 → ∀ b, b < 2 → a ≠ b → (TX2 a).2.1 ≠ (TX2 b).2.1 := by decide +kernel
theorem tyX2_ok : ∀ k, k < 2 → parseFieldDescriptor (TX2 k).2.2.1 = some (tyX2 k) := by decide +kernel
abbrev cX2_init : ByteArray := prog_4_method_1_code
def yX2_init : MethodName := ⟨RX2, "<init>", "()V"⟩
abbrev cX2_indexOf : ByteArray := prog_4_method_2_code
def yX2_indexOf : MethodName := ⟨RX2, "indexOf", "(III)I"⟩
abbrev cX2_changeLiking : ByteArray := prog_4_method_3_code
def yX2_changeLiking : MethodName := ⟨RX2, "changeLiking", "(IIII)I"⟩
abbrev cX2_greatestSum : ByteArray := prog_4_method_4_code
def yX2_greatestSum : MethodName := ⟨RX2, "greatestSum", "(I)I"⟩
abbrev cX2_mostFours : ByteArray := prog_4_method_5_code
def yX2_mostFours : MethodName := ⟨RX2, "mostFours", "(I)I"⟩
abbrev cX2_greatestOf : ByteArray := prog_4_method_6_code
def yX2_greatestOf : MethodName := ⟨RX2, "greatestOf", "(I)I"⟩
abbrev cX2_greatestKnown : ByteArray := prog_4_method_7_code
def yX2_greatestKnown : MethodName := ⟨RX2, "greatestKnown", "(I)I"⟩
abbrev cX2_greatestOfSet : ByteArray := prog_4_method_8_code
def yX2_greatestOfSet : MethodName := ⟨RX2, "greatestOfSet", "(II)I"⟩
abbrev cX2_valueOf : ByteArray := prog_4_method_9_code
def yX2_valueOf : MethodName := ⟨RX2, "valueOf", "(II)I"⟩
def RX3 : String := "EvenDays$Messages"
def TX3 : u_T := fun k => match k with
  | _ => ("EvenDays$Messages", "fewest", "[I", true)
def tyX3 : Nat → FieldType := fun k => match k with
  | _ => .array .int
abbrev wsX30 : List Cond := u_ws RX3 TX3 1
theorem nmX3 : ∀ a, a < 1 → ∀ b, b < 1 → a ≠ b → (TX3 a).2.1 ≠ (TX3 b).2.1 := by decide +kernel
theorem tyX3_ok : ∀ k, k < 1 → parseFieldDescriptor (TX3 k).2.2.1 = some (tyX3 k) := by decide +kernel
abbrev cX3_init : ByteArray := prog_5_method_1_code
def yX3_init : MethodName := ⟨RX3, "<init>", "()V"⟩
abbrev cX3_classIn : ByteArray := prog_5_method_2_code
def yX3_classIn : MethodName := ⟨RX3, "classIn", "(II)I"⟩
abbrev cX3_toBeAlike : ByteArray := prog_5_method_3_code
def yX3_toBeAlike : MethodName := ⟨RX3, "toBeAlike", "(III)I"⟩
abbrev cX3_toBeNeverAlike : ByteArray := prog_5_method_4_code
def yX3_toBeNeverAlike : MethodName := ⟨RX3, "toBeNeverAlike", "(III)I"⟩
abbrev cX3_leastOfAll : ByteArray := prog_5_method_5_code
def yX3_leastOfAll : MethodName := ⟨RX3, "leastOfAll", "()I"⟩
def RX4 : String := "EvenDays$Partners"
def TX4 : u_T := fun k => match k with
  | 0 => ("EvenDays$Partners", "harms", "[I", true)
  | _ => ("EvenDays$Partners", "least", "[I", true)
def tyX4 : Nat → FieldType := fun k => match k with
  | 0 => .array .int
  | _ => .array .int
abbrev wsX40 : List Cond := u_ws RX4 TX4 2
theorem nmX4 : ∀ a, a < 2 → ∀ b, b < 2 → a ≠ b → (TX4 a).2.1 ≠ (TX4 b).2.1 := by decide +kernel
theorem tyX4_ok : ∀ k, k < 2 → parseFieldDescriptor (TX4 k).2.2.1 = some (tyX4 k) := by decide +kernel
abbrev cX4_init : ByteArray := prog_6_method_1_code
def yX4_init : MethodName := ⟨RX4, "<init>", "()V"⟩
abbrev cX4_changeHarm : ByteArray := prog_6_method_2_code
def yX4_changeHarm : MethodName := ⟨RX4, "changeHarm", "(III)I"⟩
abbrev cX4_leastHarm : ByteArray := prog_6_method_3_code
def yX4_leastHarm : MethodName := ⟨RX4, "leastHarm", "(III)I"⟩
abbrev cX4_leastWith : ByteArray := prog_6_method_4_code
def yX4_leastWith : MethodName := ⟨RX4, "leastWith", "(III)I"⟩
abbrev cX4_partnerOf : ByteArray := prog_6_method_5_code
def yX4_partnerOf : MethodName := ⟨RX4, "partnerOf", "(II)I"⟩
abbrev cX4_firstBest : ByteArray := prog_6_method_6_code
def yX4_firstBest : MethodName := ⟨RX4, "firstBest", "(III)I"⟩
def RX5 : String := "EvenDays$Planner"
def TX5 : u_T := fun k => match k with
  | 0 => ("EvenDays$Planner", "told", "LEvenDays$Told;", true)
  | 1 => ("EvenDays$Planner", "best", "[I", true)
  | 2 => ("EvenDays$Planner", "worthFor", "[I", true)
  | 3 => ("EvenDays$Planner", "isReckoned", "[Z", true)
  | 4 => ("EvenDays$Planner", "one", "I", false)
  | _ => ("EvenDays$Planner", "other", "I", false)
def tyX5 : Nat → FieldType := fun k => match k with
  | 0 => .object "EvenDays$Told"
  | 1 => .array .int
  | 2 => .array .int
  | 3 => .array .boolean
  | 4 => .int
  | _ => .int
abbrev wsX50 : List Cond := u_ws RX5 TX5 6
theorem nmX5 : ∀ a, a < 6 → ∀ b, b < 6 → a ≠ b → (TX5 a).2.1 ≠ (TX5 b).2.1 := by decide +kernel
theorem tyX5_ok : ∀ k, k < 6 → parseFieldDescriptor (TX5 k).2.2.1 = some (tyX5 k) := by decide +kernel
abbrev cX5_init : ByteArray := prog_7_method_1_code
def yX5_init : MethodName := ⟨RX5, "<init>", "(LEvenDays$Told;)V"⟩
abbrev cX5_forget : ByteArray := prog_7_method_2_code
def yX5_forget : MethodName := ⟨RX5, "forget", "()V"⟩
abbrev cX5_greatestWorth : ByteArray := prog_7_method_3_code
def yX5_greatestWorth : MethodName := ⟨RX5, "greatestWorth", "(II)I"⟩
abbrev cX5_rowOf : ByteArray := prog_7_method_4_code
def yX5_rowOf : MethodName := ⟨RX5, "rowOf", "(III)I"⟩
abbrev cX5_bestFrom : ByteArray := prog_7_method_5_code
def yX5_bestFrom : MethodName := ⟨RX5, "bestFrom", "(II)I"⟩
abbrev cX5_reckon : ByteArray := prog_7_method_6_code
def yX5_reckon : MethodName := ⟨RX5, "reckon", "(I)V"⟩
abbrev cX5_reckonRow : ByteArray := prog_7_method_7_code
def yX5_reckonRow : MethodName := ⟨RX5, "reckonRow", "(I)V"⟩
abbrev cX5_findWorths : ByteArray := prog_7_method_8_code
def yX5_findWorths : MethodName := ⟨RX5, "findWorths", "(III)V"⟩
abbrev cX5_offerAll : ByteArray := prog_7_method_9_code
def yX5_offerAll : MethodName := ⟨RX5, "offerAll", "(III)V"⟩
abbrev cX5_clearRow : ByteArray := prog_7_method_10_code
def yX5_clearRow : MethodName := ⟨RX5, "clearRow", "(I)V"⟩
abbrev cX5_offer : ByteArray := prog_7_method_11_code
def yX5_offer : MethodName := ⟨RX5, "offer", "(III)V"⟩
abbrev cX5_isAllowed : ByteArray := prog_7_method_12_code
def yX5_isAllowed : MethodName := ⟨RX5, "isAllowed", "(IIIII)Z"⟩
abbrev cX5_madeBy : ByteArray := prog_7_method_13_code
def yX5_madeBy : MethodName := ⟨RX5, "madeBy", "(III)I"⟩
abbrev cX5_worthOf : ByteArray := prog_7_method_14_code
def yX5_worthOf : MethodName := ⟨RX5, "worthOf", "(II)I"⟩
abbrev cX5_follow : ByteArray := prog_7_method_15_code
def yX5_follow : MethodName := ⟨RX5, "follow", "(IIII)I"⟩
abbrev cX5_choose : ByteArray := prog_7_method_16_code
def yX5_choose : MethodName := ⟨RX5, "choose", "(IIII)V"⟩
def RX6 : String := "EvenDays$Rows"
def TX6 : u_T := fun k => match k with
  | 0 => ("EvenDays$Rows", "length", "I", false)
  | 1 => ("EvenDays$Rows", "alike", "[Z", true)
  | _ => ("EvenDays$Rows", "least", "[I", true)
def tyX6 : Nat → FieldType := fun k => match k with
  | 0 => .int
  | 1 => .array .boolean
  | _ => .array .int
abbrev wsX60 : List Cond := u_ws RX6 TX6 3
theorem nmX6 : ∀ a, a < 3 → ∀ b, b < 3 → a ≠ b → (TX6 a).2.1 ≠ (TX6 b).2.1 := by decide +kernel
theorem tyX6_ok : ∀ k, k < 3 → parseFieldDescriptor (TX6 k).2.2.1 = some (tyX6 k) := by decide +kernel
abbrev cX6_init : ByteArray := prog_8_method_1_code
def yX6_init : MethodName := ⟨RX6, "<init>", "()V"⟩
abbrev cX6_append : ByteArray := prog_8_method_2_code
def yX6_append : MethodName := ⟨RX6, "append", "(Z)V"⟩
abbrev cX6_leastCost : ByteArray := prog_8_method_3_code
def yX6_leastCost : MethodName := ⟨RX6, "leastCost", "(II)I"⟩
abbrev cX6_fewestSlips : ByteArray := prog_8_method_4_code
def yX6_fewestSlips : MethodName := ⟨RX6, "fewestSlips", "(II)I"⟩
abbrev cX6_firstSlip : ByteArray := prog_8_method_5_code
def yX6_firstSlip : MethodName := ⟨RX6, "firstSlip", "(II)I"⟩
abbrev cX6_reckon : ByteArray := prog_8_method_6_code
def yX6_reckon : MethodName := ⟨RX6, "reckon", "(II)I"⟩
abbrev cX6_leastFrom : ByteArray := prog_8_method_7_code
def yX6_leastFrom : MethodName := ⟨RX6, "leastFrom", "(II)I"⟩
abbrev cX6_slipTo : ByteArray := prog_8_method_8_code
def yX6_slipTo : MethodName := ⟨RX6, "slipTo", "(III)I"⟩
abbrev cX6_costOf : ByteArray := prog_8_method_9_code
def yX6_costOf : MethodName := ⟨RX6, "costOf", "(III)I"⟩
def RX7 : String := "EvenDays$Text"
def TX7 : u_T := fun k => match k with
  | 0 => ("EvenDays$Text", "length", "I", false)
  | _ => ("EvenDays$Text", "signs", "[I", true)
def tyX7 : Nat → FieldType := fun k => match k with
  | 0 => .int
  | _ => .array .int
abbrev wsX70 : List Cond := u_ws RX7 TX7 2
theorem nmX7 : ∀ a, a < 2 → ∀ b, b < 2 → a ≠ b → (TX7 a).2.1 ≠ (TX7 b).2.1 := by decide +kernel
theorem tyX7_ok : ∀ k, k < 2 → parseFieldDescriptor (TX7 k).2.2.1 = some (tyX7 k) := by decide +kernel
abbrev cX7_init : ByteArray := prog_9_method_1_code
def yX7_init : MethodName := ⟨RX7, "<init>", "()V"⟩
abbrev cX7_append : ByteArray := prog_9_method_2_code
def yX7_append : MethodName := ⟨RX7, "append", "(JI)V"⟩
abbrev cX7_signAt : ByteArray := prog_9_method_3_code
def yX7_signAt : MethodName := ⟨RX7, "signAt", "(I)I"⟩
def RX8 : String := "EvenDays$Tokens"
def TX8 : u_T := fun k => match k with
  | 0 => ("EvenDays$Tokens", "text", "LEvenDays$Text;", true)
  | 1 => ("EvenDays$Tokens", "begin", "I", false)
  | 2 => ("EvenDays$Tokens", "behind", "I", false)
  | _ => ("EvenDays$Tokens", "kind", "I", false)
def tyX8 : Nat → FieldType := fun k => match k with
  | 0 => .object "EvenDays$Text"
  | 1 => .int
  | 2 => .int
  | _ => .int
abbrev wsX80 : List Cond := u_ws RX8 TX8 4
theorem nmX8 : ∀ a, a < 4 → ∀ b, b < 4 → a ≠ b → (TX8 a).2.1 ≠ (TX8 b).2.1 := by decide +kernel
theorem tyX8_ok : ∀ k, k < 4 → parseFieldDescriptor (TX8 k).2.2.1 = some (tyX8 k) := by decide +kernel
abbrev cX8_init : ByteArray := prog_10_method_1_code
def yX8_init : MethodName := ⟨RX8, "<init>", "(LEvenDays$Text;)V"⟩
abbrev cX8_rewind : ByteArray := prog_10_method_2_code
def yX8_rewind : MethodName := ⟨RX8, "rewind", "()V"⟩
abbrev cX8_advance : ByteArray := prog_10_method_3_code
def yX8_advance : MethodName := ⟨RX8, "advance", "()V"⟩
abbrev cX8_kindOfSign : ByteArray := prog_10_method_4_code
def yX8_kindOfSign : MethodName := ⟨RX8, "kindOfSign", "(I)I"⟩
abbrev cX8_isEnd : ByteArray := prog_10_method_5_code
def yX8_isEnd : MethodName := ⟨RX8, "isEnd", "()Z"⟩
abbrev cX8_isSign : ByteArray := prog_10_method_6_code
def yX8_isSign : MethodName := ⟨RX8, "isSign", "(C)Z"⟩
abbrev cX8_isWord : ByteArray := prog_10_method_7_code
def yX8_isWord : MethodName := ⟨RX8, "isWord", "(Ljava/lang/String;)Z"⟩
abbrev cX8_number : ByteArray := prog_10_method_8_code
def yX8_number : MethodName := ⟨RX8, "number", "()I"⟩
def RX9 : String := "EvenDays$Told"
def TX9 : u_T := fun k => match k with
  | 0 => ("EvenDays$Told", "pairs", "I", false)
  | 1 => ("EvenDays$Told", "hours", "I", false)
  | 2 => ("EvenDays$Told", "eats", "I", false)
  | 3 => ("EvenDays$Told", "fine", "I", false)
  | 4 => ("EvenDays$Told", "kinds", "[I", true)
  | 5 => ("EvenDays$Told", "classes", "[I", true)
  | 6 => ("EvenDays$Told", "breads", "[I", true)
  | 7 => ("EvenDays$Told", "worths", "[I", true)
  | _ => ("EvenDays$Told", "meantWorks", "[I", true)
def tyX9 : Nat → FieldType := fun k => match k with
  | 0 => .int
  | 1 => .int
  | 2 => .int
  | 3 => .int
  | 4 => .array .int
  | 5 => .array .int
  | 6 => .array .int
  | 7 => .array .int
  | _ => .array .int
abbrev wsX90 : List Cond := u_ws RX9 TX9 9
theorem nmX9 : ∀ a, a < 9 → ∀ b, b < 9 → a ≠ b → (TX9 a).2.1 ≠ (TX9 b).2.1 := by decide +kernel
theorem tyX9_ok : ∀ k, k < 9 → parseFieldDescriptor (TX9 k).2.2.1 = some (tyX9 k) := by decide +kernel
abbrev cX9_init : ByteArray := prog_11_method_1_code
def yX9_init : MethodName := ⟨RX9, "<init>", "()V"⟩
abbrev cX9_settle : ByteArray := prog_11_method_2_code
def yX9_settle : MethodName := ⟨RX9, "settle", "(II)V"⟩
abbrev cX9_becomeLike : ByteArray := prog_11_method_3_code
def yX9_becomeLike : MethodName := ⟨RX9, "becomeLike", "(LEvenDays$Told;)V"⟩
abbrev cX9_tellWork : ByteArray := prog_11_method_4_code
def yX9_tellWork : MethodName := ⟨RX9, "tellWork", "(III)V"⟩
abbrev cX9_tellBread : ByteArray := prog_11_method_5_code
def yX9_tellBread : MethodName := ⟨RX9, "tellBread", "(III)V"⟩
abbrev cX9_tellKind : ByteArray := prog_11_method_6_code
def yX9_tellKind : MethodName := ⟨RX9, "tellKind", "(II)V"⟩
abbrev cX9_tellMeant : ByteArray := prog_11_method_7_code
def yX9_tellMeant : MethodName := ⟨RX9, "tellMeant", "(III)V"⟩
abbrev cX9_hasPair : ByteArray := prog_11_method_8_code
def yX9_hasPair : MethodName := ⟨RX9, "hasPair", "(I)Z"⟩
abbrev cX9_hasHour : ByteArray := prog_11_method_9_code
def yX9_hasHour : MethodName := ⟨RX9, "hasHour", "(I)Z"⟩
abbrev cX9_kindOf : ByteArray := prog_11_method_10_code
def yX9_kindOf : MethodName := ⟨RX9, "kindOf", "(I)I"⟩
abbrev cX9_classOf : ByteArray := prog_11_method_11_code
def yX9_classOf : MethodName := ⟨RX9, "classOf", "(I)I"⟩
abbrev cX9_worthOf : ByteArray := prog_11_method_12_code
def yX9_worthOf : MethodName := ⟨RX9, "worthOf", "(I)I"⟩
abbrev cX9_breadOf : ByteArray := prog_11_method_13_code
def yX9_breadOf : MethodName := ⟨RX9, "breadOf", "(II)I"⟩
abbrev cX9_meantOn : ByteArray := prog_11_method_14_code
def yX9_meantOn : MethodName := ⟨RX9, "meantOn", "(IIII)I"⟩
abbrev cX9_canBeDone : ByteArray := prog_11_method_15_code
def yX9_canBeDone : MethodName := ⟨RX9, "canBeDone", "(II)Z"⟩
abbrev cX9_mayDo : ByteArray := prog_11_method_16_code
def yX9_mayDo : MethodName := ⟨RX9, "mayDo", "(IIII)Z"⟩
abbrev cX9_breadMade : ByteArray := prog_11_method_17_code
def yX9_breadMade : MethodName := ⟨RX9, "breadMade", "(III)I"⟩
abbrev cX9_keepsTreaty : ByteArray := prog_11_method_18_code
def yX9_keepsTreaty : MethodName := ⟨RX9, "keepsTreaty", "(IIII)Z"⟩
def RX10 : String := "EvenDays"
def TX10 : u_T := fun k => match k with
  | 0 => ("EvenDays", "told", "LEvenDays$Told;", true)
  | 1 => ("EvenDays", "draft", "LEvenDays$Told;", true)
  | 2 => ("EvenDays", "text", "LEvenDays$Text;", true)
  | 3 => ("EvenDays", "lines", "LEvenDays$Lines;", true)
  | 4 => ("EvenDays", "now", "LEvenDays$Days;", true)
  | 5 => ("EvenDays", "kept", "[LEvenDays$Days;", true)
  | 6 => ("EvenDays", "isKept", "[Z", true)
  | 7 => ("EvenDays", "planner", "LEvenDays$Planner;", true)
  | 8 => ("EvenDays", "messages", "LEvenDays$Messages;", true)
  | 9 => ("EvenDays", "partners", "LEvenDays$Partners;", true)
  | 10 => ("EvenDays", "marriages", "LEvenDays$Marriages;", true)
  | _ => ("EvenDays", "rows", "LEvenDays$Rows;", true)
def tyX10 : Nat → FieldType := fun k => match k with
  | 0 => .object "EvenDays$Told"
  | 1 => .object "EvenDays$Told"
  | 2 => .object "EvenDays$Text"
  | 3 => .object "EvenDays$Lines"
  | 4 => .object "EvenDays$Days"
  | 5 => .array (.object "EvenDays$Days")
  | 6 => .array .boolean
  | 7 => .object "EvenDays$Planner"
  | 8 => .object "EvenDays$Messages"
  | 9 => .object "EvenDays$Partners"
  | 10 => .object "EvenDays$Marriages"
  | _ => .object "EvenDays$Rows"
abbrev wsX100 : List Cond := u_ws RX10 TX10 12
theorem nmX10 : ∀ a, a < 12 → ∀ b, b < 12 → a ≠ b → (TX10 a).2.1 ≠ (TX10 b).2.1 := by decide +kernel
theorem tyX10_ok : ∀ k, k < 12 → parseFieldDescriptor (TX10 k).2.2.1 = some (tyX10 k) := by decide +kernel
abbrev cX10_init : ByteArray := prog_1_method_1_code
def yX10_init : MethodName := ⟨RX10, "<init>", "()V"⟩
abbrev cX10_write : ByteArray := prog_1_method_2_code
def yX10_write : MethodName := ⟨RX10, "write", "(JI)I"⟩
abbrev cX10_erase : ByteArray := prog_1_method_3_code
def yX10_erase : MethodName := ⟨RX10, "erase", "()I"⟩
abbrev cX10_fault : ByteArray := prog_1_method_4_code
def yX10_fault : MethodName := ⟨RX10, "fault", "()I"⟩
abbrev cX10_treaty : ByteArray := prog_1_method_5_code
def yX10_treaty : MethodName := ⟨RX10, "treaty", "()I"⟩
abbrev cX10_work : ByteArray := prog_1_method_6_code
def yX10_work : MethodName := ⟨RX10, "work", "(II)I"⟩
abbrev cX10_meant : ByteArray := prog_1_method_7_code
def yX10_meant : MethodName := ⟨RX10, "meant", "(IIII)I"⟩
abbrev cX10_done : ByteArray := prog_1_method_8_code
def yX10_done : MethodName := ⟨RX10, "done", "(IIII)I"⟩
abbrev cX10_ill : ByteArray := prog_1_method_9_code
def yX10_ill : MethodName := ⟨RX10, "ill", "(IIZ)I"⟩
abbrev cX10_days : ByteArray := prog_1_method_10_code
def yX10_days : MethodName := ⟨RX10, "days", "(I)I"⟩
abbrev cX10_person : ByteArray := prog_1_method_11_code
def yX10_person : MethodName := ⟨RX10, "person", "(III)I"⟩
abbrev cX10_bread : ByteArray := prog_1_method_12_code
def yX10_bread : MethodName := ⟨RX10, "bread", "(I)I"⟩
abbrev cX10_breaches : ByteArray := prog_1_method_13_code
def yX10_breaches : MethodName := ⟨RX10, "breaches", "(I)I"⟩
abbrev cX10_as : ByteArray := prog_1_method_14_code
def yX10_as : MethodName := ⟨RX10, "as", "(II)I"⟩
abbrev cX10_plan : ByteArray := prog_1_method_15_code
def yX10_plan : MethodName := ⟨RX10, "plan", "(III)I"⟩
abbrev cX10_planned : ByteArray := prog_1_method_16_code
def yX10_planned : MethodName := ⟨RX10, "planned", "(IIIII)I"⟩
abbrev cX10_news : ByteArray := prog_1_method_17_code
def yX10_news : MethodName := ⟨RX10, "news", "(IIIZ)I"⟩
abbrev cX10_harm : ByteArray := prog_1_method_18_code
def yX10_harm : MethodName := ⟨RX10, "harm", "(III)I"⟩
abbrev cX10_anew : ByteArray := prog_1_method_19_code
def yX10_anew : MethodName := ⟨RX10, "anew", "(I)I"⟩
abbrev cX10_forced : ByteArray := prog_1_method_20_code
def yX10_forced : MethodName := ⟨RX10, "forced", "(II)I"⟩
abbrev cX10_like : ByteArray := prog_1_method_21_code
def yX10_like : MethodName := ⟨RX10, "like", "(IIII)I"⟩
abbrev cX10_fours : ByteArray := prog_1_method_22_code
def yX10_fours : MethodName := ⟨RX10, "fours", "(I)I"⟩
abbrev cX10_record : ByteArray := prog_1_method_23_code
def yX10_record : MethodName := ⟨RX10, "record", "(Z)I"⟩
abbrev cX10_burn : ByteArray := prog_1_method_24_code
def yX10_burn : MethodName := ⟨RX10, "burn", "()I"⟩
abbrev cX10_slips : ByteArray := prog_1_method_25_code
def yX10_slips : MethodName := ⟨RX10, "slips", "(III)I"⟩
abbrev cX10_keep : ByteArray := prog_1_method_26_code
def yX10_keep : MethodName := ⟨RX10, "keep", "(I)I"⟩
abbrev cX10_back : ByteArray := prog_1_method_27_code
def yX10_back : MethodName := ⟨RX10, "back", "(I)I"⟩
abbrev cX10_count : ByteArray := prog_1_method_28_code
def yX10_count : MethodName := ⟨RX10, "count", "(I)I"⟩
abbrev cX10_within : ByteArray := prog_1_method_29_code
def yX10_within : MethodName := ⟨RX10, "within", "(III)Z"⟩
abbrev cX10_isValley : ByteArray := prog_1_method_30_code
def yX10_isValley : MethodName := ⟨RX10, "isValley", "(I)Z"⟩
abbrev cX10_isPerson : ByteArray := prog_1_method_31_code
def yX10_isPerson : MethodName := ⟨RX10, "isPerson", "(II)Z"⟩
abbrev cX10_isSlot : ByteArray := prog_1_method_32_code
def yX10_isSlot : MethodName := ⟨RX10, "isSlot", "(III)Z"⟩
abbrev cX10_isPlanAsked : ByteArray := prog_1_method_33_code
def yX10_isPlanAsked : MethodName := ⟨RX10, "isPlanAsked", "(II)Z"⟩
abbrev cX10_isSuch : ByteArray := prog_1_method_34_code
def yX10_isSuch : MethodName := ⟨RX10, "isSuch", "(II)Z"⟩
abbrev cX10_personIndex : ByteArray := prog_1_method_35_code
def yX10_personIndex : MethodName := ⟨RX10, "personIndex", "(II)I"⟩
abbrev cX10_slotIndex : ByteArray := prog_1_method_36_code
def yX10_slotIndex : MethodName := ⟨RX10, "slotIndex", "(III)I"⟩
def RX11 : String := "EvenDaysModel"
def TX11 : u_T := fun k => match k with
  | 0 => ("EvenDaysModel", "row", "[I", true)
  | 1 => ("EvenDaysModel", "isKept", "[Z", true)
  | 2 => ("EvenDaysModel", "text", "[I", true)
  | 3 => ("EvenDaysModel", "length", "I", false)
  | 4 => ("EvenDaysModel", "read", "[I", true)
  | 5 => ("EvenDaysModel", "readMany", "I", false)
  | 6 => ("EvenDaysModel", "pairs", "I", false)
  | 7 => ("EvenDaysModel", "hours", "I", false)
  | 8 => ("EvenDaysModel", "works", "[I", true)
  | 9 => ("EvenDaysModel", "kinds", "[I", true)
  | 10 => ("EvenDaysModel", "means", "[I", true)
  | 11 => ("EvenDaysModel", "eats", "I", false)
  | 12 => ("EvenDaysModel", "fine", "I", false)
  | 13 => ("EvenDaysModel", "at", "I", false)
  | 14 => ("EvenDaysModel", "place", "I", false)
  | 15 => ("EvenDaysModel", "end", "I", false)
  | 16 => ("EvenDaysModel", "readPairs", "I", false)
  | 17 => ("EvenDaysModel", "readHours", "I", false)
  | 18 => ("EvenDaysModel", "readMay", "[Z", true)
  | 19 => ("EvenDaysModel", "worths", "[I", true)
  | 20 => ("EvenDaysModel", "chosen", "[I", true)
  | 21 => ("EvenDaysModel", "chosenBread", "I", false)
  | 22 => ("EvenDaysModel", "fewest", "[I", true)
  | 23 => ("EvenDaysModel", "then", "[I", true)
  | 24 => ("EvenDaysModel", "harms", "[I", true)
  | 25 => ("EvenDaysModel", "rests", "[I", true)
  | 26 => ("EvenDaysModel", "likes", "[I", true)
  | 27 => ("EvenDaysModel", "sums", "[I", true)
  | 28 => ("EvenDaysModel", "rows", "[I", true)
  | 29 => ("EvenDaysModel", "rowMany", "I", false)
  | _ => ("EvenDaysModel", "costs", "[I", true)
def tyX11 : Nat → FieldType := fun k => match k with
  | 0 => .array .int
  | 1 => .array .boolean
  | 2 => .array .int
  | 3 => .int
  | 4 => .array .int
  | 5 => .int
  | 6 => .int
  | 7 => .int
  | 8 => .array .int
  | 9 => .array .int
  | 10 => .array .int
  | 11 => .int
  | 12 => .int
  | 13 => .int
  | 14 => .int
  | 15 => .int
  | 16 => .int
  | 17 => .int
  | 18 => .array .boolean
  | 19 => .array .int
  | 20 => .array .int
  | 21 => .int
  | 22 => .array .int
  | 23 => .array .int
  | 24 => .array .int
  | 25 => .array .int
  | 26 => .array .int
  | 27 => .array .int
  | 28 => .array .int
  | 29 => .int
  | _ => .array .int
abbrev wsX110 : List Cond := u_ws RX11 TX11 31
theorem nmX11 : ∀ a, a < 31 → ∀ b, b < 31 → a ≠ b → (TX11 a).2.1 ≠ (TX11 b).2.1 := by decide +kernel
theorem tyX11_ok : ∀ k, k < 31 → parseFieldDescriptor (TX11 k).2.2.1 = some (tyX11 k) := by decide +kernel
abbrev cX11_init : ByteArray := prog_13_method_1_code
def yX11_init : MethodName := ⟨RX11, "<init>", "()V"⟩
abbrev cX11_begin : ByteArray := prog_13_method_2_code
def yX11_begin : MethodName := ⟨RX11, "begin", "()V"⟩
abbrev cX11_in : ByteArray := prog_13_method_3_code
def yX11_in : MethodName := ⟨RX11, "in", "(JJJ)Z"⟩
abbrev cX11_write : ByteArray := prog_13_method_4_code
def yX11_write : MethodName := ⟨RX11, "write", "(JI)I"⟩
abbrev cX11_erase : ByteArray := prog_13_method_5_code
def yX11_erase : MethodName := ⟨RX11, "erase", "()I"⟩
abbrev cX11_sort : ByteArray := prog_13_method_6_code
def yX11_sort : MethodName := ⟨RX11, "sort", "(I)I"⟩
abbrev cX11_token : ByteArray := prog_13_method_7_code
def yX11_token : MethodName := ⟨RX11, "token", "()V"⟩
abbrev cX11_isWord : ByteArray := prog_13_method_8_code
def yX11_isWord : MethodName := ⟨RX11, "isWord", "(II)Z"⟩
abbrev cX11_wordOf : ByteArray := prog_13_method_9_code
def yX11_wordOf : MethodName := ⟨RX11, "wordOf", "()I"⟩
abbrev cX11_reads : ByteArray := prog_13_method_10_code
def yX11_reads : MethodName := ⟨RX11, "reads", "(III)Z"⟩
abbrev cX11_readsBread : ByteArray := prog_13_method_11_code
def yX11_readsBread : MethodName := ⟨RX11, "readsBread", "(I)Z"⟩
abbrev cX11_readsWork : ByteArray := prog_13_method_12_code
def yX11_readsWork : MethodName := ⟨RX11, "readsWork", "()Z"⟩
abbrev cX11_readsRest : ByteArray := prog_13_method_13_code
def yX11_readsRest : MethodName := ⟨RX11, "readsRest", "(I)Z"⟩
abbrev cX11_readsLine : ByteArray := prog_13_method_14_code
def yX11_readsLine : MethodName := ⟨RX11, "readsLine", "()Z"⟩
abbrev cX11_fault : ByteArray := prog_13_method_15_code
def yX11_fault : MethodName := ⟨RX11, "fault", "()I"⟩
abbrev cX11_meantAt : ByteArray := prog_13_method_16_code
def yX11_meantAt : MethodName := ⟨RX11, "meantAt", "(IIII)I"⟩
abbrev cX11_tell : ByteArray := prog_13_method_17_code
def yX11_tell : MethodName := ⟨RX11, "tell", "(I)V"⟩
abbrev cX11_treaty : ByteArray := prog_13_method_18_code
def yX11_treaty : MethodName := ⟨RX11, "treaty", "()I"⟩
abbrev cX11_work : ByteArray := prog_13_method_19_code
def yX11_work : MethodName := ⟨RX11, "work", "(II)I"⟩
abbrev cX11_isValley : ByteArray := prog_13_method_20_code
def yX11_isValley : MethodName := ⟨RX11, "isValley", "(I)Z"⟩
abbrev cX11_isPair : ByteArray := prog_13_method_21_code
def yX11_isPair : MethodName := ⟨RX11, "isPair", "(I)Z"⟩
abbrev cX11_isHour : ByteArray := prog_13_method_22_code
def yX11_isHour : MethodName := ⟨RX11, "isHour", "(I)Z"⟩
abbrev cX11_meant : ByteArray := prog_13_method_23_code
def yX11_meant : MethodName := ⟨RX11, "meant", "(IIII)I"⟩
abbrev cX11_done : ByteArray := prog_13_method_24_code
def yX11_done : MethodName := ⟨RX11, "done", "(IIII)I"⟩
abbrev cX11_ill : ByteArray := prog_13_method_25_code
def yX11_ill : MethodName := ⟨RX11, "ill", "(IIZ)I"⟩
abbrev cX11_meansOf : ByteArray := prog_13_method_26_code
def yX11_meansOf : MethodName := ⟨RX11, "meansOf", "(III)I"⟩
abbrev cX11_may : ByteArray := prog_13_method_27_code
def yX11_may : MethodName := ⟨RX11, "may", "(IIII)Z"⟩
abbrev cX11_does : ByteArray := prog_13_method_28_code
def yX11_does : MethodName := ⟨RX11, "does", "(III)I"⟩
abbrev cX11_isBreach : ByteArray := prog_13_method_29_code
def yX11_isBreach : MethodName := ⟨RX11, "isBreach", "(II)Z"⟩
abbrev cX11_strays : ByteArray := prog_13_method_30_code
def yX11_strays : MethodName := ⟨RX11, "strays", "(III)Z"⟩
abbrev cX11_charge : ByteArray := prog_13_method_31_code
def yX11_charge : MethodName := ⟨RX11, "charge", "(II)V"⟩
abbrev cX11_day : ByteArray := prog_13_method_32_code
def yX11_day : MethodName := ⟨RX11, "day", "()V"⟩
abbrev cX11_days : ByteArray := prog_13_method_33_code
def yX11_days : MethodName := ⟨RX11, "days", "(I)I"⟩
abbrev cX11_person : ByteArray := prog_13_method_34_code
def yX11_person : MethodName := ⟨RX11, "person", "(III)I"⟩
abbrev cX11_bread : ByteArray := prog_13_method_35_code
def yX11_bread : MethodName := ⟨RX11, "bread", "(I)I"⟩
abbrev cX11_breaches : ByteArray := prog_13_method_36_code
def yX11_breaches : MethodName := ⟨RX11, "breaches", "(I)I"⟩
abbrev cX11_as : ByteArray := prog_13_method_37_code
def yX11_as : MethodName := ⟨RX11, "as", "(II)I"⟩
abbrev cX11_fits : ByteArray := prog_13_method_38_code
def yX11_fits : MethodName := ⟨RX11, "fits", "(IIII)Z"⟩
abbrev cX11_breadOf : ByteArray := prog_13_method_39_code
def yX11_breadOf : MethodName := ⟨RX11, "breadOf", "(III)I"⟩
abbrev cX11_worthBy : ByteArray := prog_13_method_40_code
def yX11_worthBy : MethodName := ⟨RX11, "worthBy", "(IIIII)I"⟩
abbrev cX11_layWorths : ByteArray := prog_13_method_41_code
def yX11_layWorths : MethodName := ⟨RX11, "layWorths", "(II)V"⟩
abbrev cX11_choose : ByteArray := prog_13_method_42_code
def yX11_choose : MethodName := ⟨RX11, "choose", "(II)Z"⟩
abbrev cX11_isPlan : ByteArray := prog_13_method_43_code
def yX11_isPlan : MethodName := ⟨RX11, "isPlan", "(II)Z"⟩
abbrev cX11_plan : ByteArray := prog_13_method_44_code
def yX11_plan : MethodName := ⟨RX11, "plan", "(III)I"⟩
abbrev cX11_planned : ByteArray := prog_13_method_45_code
def yX11_planned : MethodName := ⟨RX11, "planned", "(IIIII)I"⟩
abbrev cX11_classAt : ByteArray := prog_13_method_46_code
def yX11_classAt : MethodName := ⟨RX11, "classAt", "(II)I"⟩
abbrev cX11_news : ByteArray := prog_13_method_47_code
def yX11_news : MethodName := ⟨RX11, "news", "(IIIZ)I"⟩
abbrev cX11_harm : ByteArray := prog_13_method_48_code
def yX11_harm : MethodName := ⟨RX11, "harm", "(III)I"⟩
abbrev cX11_bits : ByteArray := prog_13_method_49_code
def yX11_bits : MethodName := ⟨RX11, "bits", "(I)I"⟩
abbrev cX11_harmBy : ByteArray := prog_13_method_50_code
def yX11_harmBy : MethodName := ⟨RX11, "harmBy", "(IIII)I"⟩
abbrev cX11_layRests : ByteArray := prog_13_method_51_code
def yX11_layRests : MethodName := ⟨RX11, "layRests", "(II)I"⟩
abbrev cX11_anew : ByteArray := prog_13_method_52_code
def yX11_anew : MethodName := ⟨RX11, "anew", "(I)I"⟩
abbrev cX11_forced : ByteArray := prog_13_method_53_code
def yX11_forced : MethodName := ⟨RX11, "forced", "(II)I"⟩
abbrev cX11_like : ByteArray := prog_13_method_54_code
def yX11_like : MethodName := ⟨RX11, "like", "(IIII)I"⟩
abbrev cX11_fours : ByteArray := prog_13_method_55_code
def yX11_fours : MethodName := ⟨RX11, "fours", "(I)I"⟩
abbrev cX11_record : ByteArray := prog_13_method_56_code
def yX11_record : MethodName := ⟨RX11, "record", "(Z)I"⟩
abbrev cX11_burn : ByteArray := prog_13_method_57_code
def yX11_burn : MethodName := ⟨RX11, "burn", "()I"⟩
abbrev cX11_stays : ByteArray := prog_13_method_58_code
def yX11_stays : MethodName := ⟨RX11, "stays", "(III)I"⟩
abbrev cX11_slipped : ByteArray := prog_13_method_59_code
def yX11_slipped : MethodName := ⟨RX11, "slipped", "(IIII)I"⟩
abbrev cX11_slips : ByteArray := prog_13_method_60_code
def yX11_slips : MethodName := ⟨RX11, "slips", "(III)I"⟩
abbrev cX11_copy : ByteArray := prog_13_method_61_code
def yX11_copy : MethodName := ⟨RX11, "copy", "(II)V"⟩
abbrev cX11_keep : ByteArray := prog_13_method_62_code
def yX11_keep : MethodName := ⟨RX11, "keep", "(I)I"⟩
abbrev cX11_back : ByteArray := prog_13_method_63_code
def yX11_back : MethodName := ⟨RX11, "back", "(I)I"⟩
abbrev cX11_count : ByteArray := prog_13_method_64_code
def yX11_count : MethodName := ⟨RX11, "count", "(I)I"⟩
def RJx145de : String := "java/io/Serializable"
def TJx145de : u_T := fun k => match k with
  | _ => ("", "", "", false)
def tyJx145de : Nat → FieldType := fun k => match k with
  | _ => .int
abbrev wsJx145de0 : List Cond := u_ws RJx145de TJx145de 0
theorem nmJx145de : ∀ a, a < 0 → ∀ b, b < 0 → a ≠ b → (TJx145de a).2.1 ≠ (TJx145de b).2.1 := by decide +kernel
theorem tyJx145de_ok : ∀ k, k < 0 → parseFieldDescriptor (TJx145de k).2.2.1 = some (tyJx145de k) := by decide +kernel
def RJx9f9b0 : String := "java/lang/CharSequence"
def TJx9f9b0 : u_T := fun k => match k with
  | _ => ("", "", "", false)
def tyJx9f9b0 : Nat → FieldType := fun k => match k with
  | _ => .int
abbrev wsJx9f9b00 : List Cond := u_ws RJx9f9b0 TJx9f9b0 0
theorem nmJx9f9b0 : ∀ a, a < 0 → ∀ b, b < 0 → a ≠ b → (TJx9f9b0 a).2.1 ≠ (TJx9f9b0 b).2.1 := by decide +kernel
theorem tyJx9f9b0_ok : ∀ k, k < 0 → parseFieldDescriptor (TJx9f9b0 k).2.2.1 = some (tyJx9f9b0 k) := by decide +kernel
def RJxb160c : String := "java/lang/Comparable"
def TJxb160c : u_T := fun k => match k with
  | _ => ("", "", "", false)
def tyJxb160c : Nat → FieldType := fun k => match k with
  | _ => .int
abbrev wsJxb160c0 : List Cond := u_ws RJxb160c TJxb160c 0
theorem nmJxb160c : ∀ a, a < 0 → ∀ b, b < 0 → a ≠ b → (TJxb160c a).2.1 ≠ (TJxb160c b).2.1 := by decide +kernel
theorem tyJxb160c_ok : ∀ k, k < 0 → parseFieldDescriptor (TJxb160c k).2.2.1 = some (tyJxb160c k) := by decide +kernel
def RJ6 : String := "java/lang/Integer"
def TJ6 : u_T := fun k => match k with
  | _ => ("", "", "", false)
def tyJ6 : Nat → FieldType := fun k => match k with
  | _ => .int
abbrev wsJ60 : List Cond := u_ws RJ6 TJ6 0
theorem nmJ6 : ∀ a, a < 0 → ∀ b, b < 0 → a ≠ b → (TJ6 a).2.1 ≠ (TJ6 b).2.1 := by decide +kernel
theorem tyJ6_ok : ∀ k, k < 0 → parseFieldDescriptor (TJ6 k).2.2.1 = some (tyJ6 k) := by decide +kernel
abbrev cJ6_bitCount_0f7a4 : ByteArray := prog_14_method_49_code
def yJ6_bitCount_0f7a4 : MethodName := ⟨RJ6, "bitCount", "(I)I"⟩
def RJ9 : String := "java/lang/Math"
def TJ9 : u_T := fun k => match k with
  | _ => ("", "", "", false)
def tyJ9 : Nat → FieldType := fun k => match k with
  | _ => .int
abbrev wsJ90 : List Cond := u_ws RJ9 TJ9 0
theorem nmJ9 : ∀ a, a < 0 → ∀ b, b < 0 → a ≠ b → (TJ9 a).2.1 ≠ (TJ9 b).2.1 := by decide +kernel
theorem tyJ9_ok : ∀ k, k < 0 → parseFieldDescriptor (TJ9 k).2.2.1 = some (tyJ9 k) := by decide +kernel
abbrev cJ9_max_7cf53 : ByteArray := prog_15_method_65_code
def yJ9_max_7cf53 : MethodName := ⟨RJ9, "max", "(II)I"⟩
abbrev cJ9_min_7cf53 : ByteArray := prog_15_method_69_code
def yJ9_min_7cf53 : MethodName := ⟨RJ9, "min", "(II)I"⟩
def RJ0 : String := "java/lang/String"
def TJ0 : u_T := fun k => match k with
  | _ => ("", "", "", false)
def tyJ0 : Nat → FieldType := fun k => match k with
  | _ => .int
abbrev wsJ00 : List Cond := u_ws RJ0 TJ0 0
theorem nmJ0 : ∀ a, a < 0 → ∀ b, b < 0 → a ≠ b → (TJ0 a).2.1 ≠ (TJ0 b).2.1 := by decide +kernel
theorem tyJ0_ok : ∀ k, k < 0 → parseFieldDescriptor (TJ0 k).2.2.1 = some (tyJ0 k) := by decide +kernel
abbrev cJ0_length_8abf5 : ByteArray := prog_16_method_54_code
def yJ0_length_8abf5 : MethodName := ⟨RJ0, "length", "()I"⟩
abbrev cJ0_charAt_5068e : ByteArray := prog_16_method_56_code
def yJ0_charAt_5068e : MethodName := ⟨RJ0, "charAt", "(I)C"⟩
abbrev cJ0_coder_7d493 : ByteArray := prog_16_method_152_code
def yJ0_coder_7d493 : MethodName := ⟨RJ0, "coder", "()B"⟩
abbrev cJ0_isLatin1_aae02 : ByteArray := prog_16_method_154_code
def yJ0_isLatin1_aae02 : MethodName := ⟨RJ0, "isLatin1", "()Z"⟩
abbrev cJ0_checkIndex_df160 : ByteArray := prog_16_method_155_code
def yJ0_checkIndex_df160 : MethodName := ⟨RJ0, "checkIndex", "(II)V"⟩
def RJ1 : String := "java/lang/StringLatin1"
def TJ1 : u_T := fun k => match k with
  | _ => ("", "", "", false)
def tyJ1 : Nat → FieldType := fun k => match k with
  | _ => .int
abbrev wsJ10 : List Cond := u_ws RJ1 TJ1 0
theorem nmJ1 : ∀ a, a < 0 → ∀ b, b < 0 → a ≠ b → (TJ1 a).2.1 ≠ (TJ1 b).2.1 := by decide +kernel
theorem tyJ1_ok : ∀ k, k < 0 → parseFieldDescriptor (TJ1 k).2.2.1 = some (tyJ1 k) := by decide +kernel
abbrev cJ1_charAt_3b067 : ByteArray := prog_17_method_2_code
def yJ1_charAt_3b067 : MethodName := ⟨RJ1, "charAt", "([BI)C"⟩
def RJ2 : String := "java/lang/StringUTF16"
def TJ2 : u_T := fun k => match k with
  | _ => ("", "", "", false)
def tyJ2 : Nat → FieldType := fun k => match k with
  | _ => .int
abbrev wsJ20 : List Cond := u_ws RJ2 TJ2 0
theorem nmJ2 : ∀ a, a < 0 → ∀ b, b < 0 → a ≠ b → (TJ2 a).2.1 ≠ (TJ2 b).2.1 := by decide +kernel
theorem tyJ2_ok : ∀ k, k < 0 → parseFieldDescriptor (TJ2 k).2.2.1 = some (tyJ2 k) := by decide +kernel
abbrev cJ2_getChar_3b067 : ByteArray := prog_18_method_5_code
def yJ2_getChar_3b067 : MethodName := ⟨RJ2, "getChar", "([BI)C"⟩
abbrev cJ2_length_9d52b : ByteArray := prog_18_method_6_code
def yJ2_length_9d52b : MethodName := ⟨RJ2, "length", "([B)I"⟩
abbrev cJ2_charAt_3b067 : ByteArray := prog_18_method_83_code
def yJ2_charAt_3b067 : MethodName := ⟨RJ2, "charAt", "([BI)C"⟩
abbrev cJ2_checkIndex_2214a : ByteArray := prog_18_method_91_code
def yJ2_checkIndex_2214a : MethodName := ⟨RJ2, "checkIndex", "(I[B)V"⟩
def RJxfd54e : String := "java/lang/constant/Constable"
def TJxfd54e : u_T := fun k => match k with
  | _ => ("", "", "", false)
def tyJxfd54e : Nat → FieldType := fun k => match k with
  | _ => .int
abbrev wsJxfd54e0 : List Cond := u_ws RJxfd54e TJxfd54e 0
theorem nmJxfd54e : ∀ a, a < 0 → ∀ b, b < 0 → a ≠ b → (TJxfd54e a).2.1 ≠ (TJxfd54e b).2.1 := by decide +kernel
theorem tyJxfd54e_ok : ∀ k, k < 0 → parseFieldDescriptor (TJxfd54e k).2.2.1 = some (tyJxfd54e k) := by decide +kernel
def RJx3cf43 : String := "java/lang/constant/ConstantDesc"
def TJx3cf43 : u_T := fun k => match k with
  | _ => ("", "", "", false)
def tyJx3cf43 : Nat → FieldType := fun k => match k with
  | _ => .int
abbrev wsJx3cf430 : List Cond := u_ws RJx3cf43 TJx3cf43 0
theorem nmJx3cf43 : ∀ a, a < 0 → ∀ b, b < 0 → a ≠ b → (TJx3cf43 a).2.1 ≠ (TJx3cf43 b).2.1 := by decide +kernel
theorem tyJx3cf43_ok : ∀ k, k < 0 → parseFieldDescriptor (TJx3cf43 k).2.2.1 = some (tyJx3cf43 k) := by decide +kernel
def RJ7 : String := "java/util/Arrays"
def TJ7 : u_T := fun k => match k with
  | _ => ("", "", "", false)
def tyJ7 : Nat → FieldType := fun k => match k with
  | _ => .int
abbrev wsJ70 : List Cond := u_ws RJ7 TJ7 0
theorem nmJ7 : ∀ a, a < 0 → ∀ b, b < 0 → a ≠ b → (TJ7 a).2.1 ≠ (TJ7 b).2.1 := by decide +kernel
theorem tyJ7_ok : ∀ k, k < 0 → parseFieldDescriptor (TJ7 k).2.2.1 = some (tyJ7 k) := by decide +kernel
abbrev cJ7_fill_53178 : ByteArray := prog_19_method_103_code
def yJ7_fill_53178 : MethodName := ⟨RJ7, "fill", "([II)V"⟩
def RJ3 : String := "jdk/internal/util/Preconditions"
def TJ3 : u_T := fun k => match k with
  | _ => ("", "", "", false)
def tyJ3 : Nat → FieldType := fun k => match k with
  | _ => .int
abbrev wsJ30 : List Cond := u_ws RJ3 TJ3 0
theorem nmJ3 : ∀ a, a < 0 → ∀ b, b < 0 → a ≠ b → (TJ3 a).2.1 ≠ (TJ3 b).2.1 := by decide +kernel
theorem tyJ3_ok : ∀ k, k < 0 → parseFieldDescriptor (TJ3 k).2.2.1 = some (tyJ3 k) := by decide +kernel
abbrev cJ3_checkIndex_8e157 : ByteArray := prog_20_method_11_code
def yJ3_checkIndex_8e157 : MethodName := ⟨RJ3, "checkIndex", "(IILjava/util/function/BiFunction;)I"⟩
def RL : String := "EvenDaysLaw"
abbrev cL_law : ByteArray := code
def yL_law : MethodName := ⟨RL, "law", "([I)Z"⟩
abbrev vwCl : List vw_C := [(RX0, TX0, 6), (RX1, TX1, 3), (RX2, TX2, 2), (RX3, TX3, 1), (RX4, TX4, 2), (RX5, TX5, 6), (RX6, TX6, 3), (RX7, TX7, 2), (RX8, TX8, 4), (RX9, TX9, 9), (RX10, TX10, 12), (RX11, TX11, 31)]
